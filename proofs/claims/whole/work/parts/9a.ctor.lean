section SGCT
set_option maxHeartbeats 4000000 in
set_option maxRecDepth 100000 in
theorem NX9_init {l : Launch} {G : sg_G} {La : sg_L} {s0 : sg_M} {o : Int} (to : sg_O La o 29) {o1 : Int} (t1 : sg_O La o1 8) {Q : sg_L → sg_M → Prop} (hf : fX9_init La s0 o o1 Q) : sg_C l G yX9_init cX9_init 2 (none) 1 0 0 La s0 [sg_r o, sg_r o1] (sg_BV (sg_se La o.toNat 9) Q) := by
  refine sg_body (by decide +kernel) (Nat.le_of_ble_eq_true rfl) ?_
  intro p e s m args below meth c F hnm
  unfold fX9_init at hf
  show sg_W p l e (sg_rm 1 0 0) s m args below meth c (MQ below (sg_Q (none) G La s.heap.size (sg_BV (sg_se La o.toNat 9) Q)) args s 0 0 (sg_A La s.heap.size)) 2 G (sg_A La s.heap.size) La s0 0 0 0 [(0, sg_r o), (1, sg_r o1)] []
  have hin : meth.name = "<init>" := hnm
  refine gw_aload_n F 0 rfl rfl to.1 dX9_init_0 ?_
  refine gw_objInit F to.1 kw_137 kw_OI kw_OC (Nat.le_of_ble_eq_true rfl) (by decide) (by decide) dX9_init_1 ?_
  refine gw_aload_n F 0 rfl rfl to.1 dX9_init_4 ?_
  refine gw_iconst F dX9_init_5 ?_
  obtain ⟨s1, e2⟩ : ∃ z : sg_M, z = sg_up s0 o 1 0 := ⟨_, rfl⟩
  have hf := hf s1 e2
  refine gw_put0 F to (by decide) rfl sg_lay_RX9 (j := 1) (by decide) (by decide) e2 tyX9_ok nmX9 rfl (tyX9_ok 1 (by decide)) rfl (host := "") (.inl kw_139) dX9_init_6 ?_
  refine gw_aload_n F 0 rfl rfl to.1 dX9_init_9 ?_
  refine gw_iconst F dX9_init_10 ?_
  obtain ⟨s3, e4⟩ : ∃ z : sg_M, z = sg_up s1 o 2 0 := ⟨_, rfl⟩
  have hf := hf s3 e4
  refine gw_put0 F to (by decide) rfl sg_lay_RX9 (j := 2) (by decide) (by decide) e4 tyX9_ok nmX9 rfl (tyX9_ok 2 (by decide)) rfl (host := "") (.inl kw_140) dX9_init_11 ?_
  refine gw_aload_n F 0 rfl rfl to.1 dX9_init_14 ?_
  refine gw_iconst F dX9_init_15 ?_
  obtain ⟨s5, e6⟩ : ∃ z : sg_M, z = sg_up s3 o 3 0 := ⟨_, rfl⟩
  have hf := hf s5 e6
  refine gw_put0 F to (by decide) rfl sg_lay_RX9 (j := 3) (by decide) (by decide) e6 tyX9_ok nmX9 rfl (tyX9_ok 3 (by decide)) rfl (host := "") (.inl kw_141) dX9_init_16 ?_
  refine gw_aload_n F 0 rfl rfl to.1 dX9_init_19 ?_
  refine gw_iconst F dX9_init_20 ?_
  obtain ⟨s7, e8⟩ : ∃ z : sg_M, z = sg_up s5 o 4 0 := ⟨_, rfl⟩
  have hf := hf s7 e8
  refine gw_put0 F to (by decide) rfl sg_lay_RX9 (j := 4) (by decide) (by decide) e8 tyX9_ok nmX9 rfl (tyX9_ok 4 (by decide)) rfl (host := "") (.inl kw_142) dX9_init_21 ?_
  refine gw_aload_n F 0 rfl rfl to.1 dX9_init_24 ?_
  refine gw_iconst F dX9_init_25 ?_
  obtain ⟨s9, e10⟩ : ∃ z : sg_M, z = sg_up s7 o 5 0 := ⟨_, rfl⟩
  have hf := hf s9 e10
  refine gw_put0 F to (by decide) rfl sg_lay_RX9 (j := 5) (by decide) (by decide) e10 tyX9_ok nmX9 rfl (tyX9_ok 5 (by decide)) rfl (host := "") (.inl kw_143) dX9_init_26 ?_
  refine gw_aload_n F 0 rfl rfl to.1 dX9_init_29 ?_
  refine gw_iconst F dX9_init_30 ?_
  obtain ⟨s11, e12⟩ : ∃ z : sg_M, z = sg_up s9 o 6 0 := ⟨_, rfl⟩
  have hf := hf s11 e12
  refine gw_put0 F to (by decide) rfl sg_lay_RX9 (j := 6) (by decide) (by decide) e12 tyX9_ok nmX9 rfl (tyX9_ok 6 (by decide)) rfl (host := "") (.inl kw_144) dX9_init_31 ?_
  refine gw_aload_n F 0 rfl rfl to.1 dX9_init_34 ?_
  refine gw_iconst F dX9_init_35 ?_
  obtain ⟨s13, e14⟩ : ∃ z : sg_M, z = sg_up s11 o 7 0 := ⟨_, rfl⟩
  have hf := hf s13 e14
  refine gw_put0 F to (by decide) rfl sg_lay_RX9 (j := 7) (by decide) (by decide) e14 tyX9_ok nmX9 rfl (tyX9_ok 7 (by decide)) rfl (host := "") (.inl kw_148) dX9_init_36 ?_
  refine gw_aload_n F 0 rfl rfl to.1 dX9_init_39 ?_
  refine gw_aload_n F 1 rfl rfl t1.1 dX9_init_40 ?_
  obtain ⟨s15, e16⟩ : ∃ z : sg_M, z = sg_up s13 o 0 o1 := ⟨_, rfl⟩
  have hf := hf s15 e16
  refine gw_put5F F to (by decide) rfl sg_lay_RX9 (j := 0) (by decide) (D0 := tyX9 0) (fun _ => ⟨rfl, rfl⟩) t1.1 t1.2.1 e16 tyX9_ok nmX9 rfl hin rfl (tyX9_ok 0 (by decide)) rfl (host := "") kw_138 dX9_init_41 ?_
  obtain ⟨g18, hf⟩ := hf
  obtain ⟨La17, e19⟩ : ∃ z : sg_L, z = sg_se La o.toNat 9 := ⟨_, rfl⟩
  have hf := hf La17 e19
  refine gy_seal to ⟨by decide, by decide, by decide⟩ (by decide) (by decide) g18 e19 ?_
  exact gr_BC F (o := o.toNat) (kd := 9) hf (by rw [e19]; exact sg_X.both sg_X.rf) (by decide) (by decide) dX9_init_44

set_option maxHeartbeats 4000000 in
set_option maxRecDepth 100000 in
theorem NX11_init {l : Launch} {G : sg_G} {La : sg_L} {s0 : sg_M} {o : Int} (to : sg_O La o 31) {Q : sg_L → sg_M → Prop} (hf : fX11_init La s0 o Q) : sg_C l G yX11_init cX11_init 1 (none) 4 63 7473 La s0 [sg_r o] (sg_BV (sg_se La o.toNat 11) Q) := by
  refine sg_body (by decide +kernel) (Nat.le_of_ble_eq_true rfl) ?_
  intro p e s m args below meth c F hnm
  unfold fX11_init at hf
  show sg_W p l e (sg_rm 4 63 7473) s m args below meth c (MQ below (sg_Q (none) G La s.heap.size (sg_BV (sg_se La o.toNat 11) Q)) args s 63 7473 (sg_A La s.heap.size)) 1 G (sg_A La s.heap.size) La s0 0 0 0 [(0, sg_r o)] []
  have hin : meth.name = "<init>" := hnm
  refine gw_aload_n F 0 rfl rfl to.1 dX11_init_0 ?_
  refine gw_objInit F to.1 kw_117 kw_OI kw_OC (Nat.le_of_ble_eq_true rfl) (by decide) (by decide) dX11_init_1 ?_
  refine gw_aload_n F 0 rfl rfl to.1 dX11_init_4 ?_
  refine gy_new F (kd := 28) (T := TX8) (by decide) rfl sg_lay_RX8 tyX8_ok kw_120 kw_121 kw_91 ns_X8 nf_X8 nr_X8 (by decide) (by decide) (List.forall_mem_cons.mpr ⟨(Or.inl to.2.1), (fun _ h => absurd h List.not_mem_nil)⟩) (List.forall_mem_cons.mpr ⟨(Or.inl to.2.1), (fun _ h => absurd h List.not_mem_nil)⟩) dX11_init_5 (fun q1 La2 s3 o4 e5 e6 e7 t8 hX9 => ?_)
  have hf := hf q1 La2 e5 s3 e6 o4 e7
  have hn10 : La.1 ≤ o4.toNat := by rw [e7, Int.toNat_natCast]; exact (sg_X.rf : sg_X La La).1
  have t11 := to.X hX9
  have hX12 := sg_X.tr (sg_X.rf) hX9
  refine gw_dup F rfl dX11_init_8 ?_
  refine gk_BV F (gc_IN F (S := [sg_r o4, sg_r o]) (As := []) (CX8_init t8 hf) t8.1 kw_124 kw_91 kw_122 kw_123 rfl hcX8_init ⟨by decide, by decide⟩ rfl rfl (Nat.le_of_ble_eq_true rfl) ⟨by decide, by decide⟩ dX11_init_9) (List.forall_mem_cons.mpr ⟨(Or.inl t11.2.1), (fun _ h => absurd h List.not_mem_nil)⟩) (List.forall_mem_cons.mpr ⟨(Or.inl t8.2.1), (List.forall_mem_cons.mpr ⟨(Or.inl t11.2.1), (fun _ h => absurd h List.not_mem_nil)⟩)⟩) (fun La13 s14 hX15 hf => ?_)
  have t16 := (sg_O_sx t11 t8 (by decide)).X hX15
  have t17 := (sg_O_sealed t8).X hX15
  have hX18 := (sg_X_sx (hX12) hn10).tr hX15
  obtain ⟨s19, e20⟩ : ∃ z : sg_M, z = sg_up s14 o 0 o4 := ⟨_, rfl⟩
  have hf := hf s19 e20
  refine gw_put5F F t16 (by decide) rfl sg_lay_RX11 (j := 0) (by decide) (D0 := tyX11 0) (fun _ => ⟨rfl, rfl⟩) t17.1 t17.2.1 e20 tyX11_ok nmX11 rfl hin rfl (tyX11_ok 0 (by decide)) rfl (host := "") kw_326 dX11_init_12 ?_
  refine gw_aload_n F 0 rfl rfl t16.1 dX11_init_15 ?_
  refine gy_new F (kd := 29) (T := TX9) (by decide) rfl sg_lay_RX9 tyX9_ok kw_132 kw_133 kw_92 ns_X9 nf_X9 nr_X9 (by decide) (by decide) (List.forall_mem_cons.mpr ⟨(Or.inl t16.2.1), (fun _ h => absurd h List.not_mem_nil)⟩) (List.forall_mem_cons.mpr ⟨(Or.inl t16.2.1), (fun _ h => absurd h List.not_mem_nil)⟩) dX11_init_16 (fun q21 La22 s23 o24 e25 e26 e27 t28 hX29 => ?_)
  have hf := hf q21 La22 e25 s23 e26 o24 e27
  have hn30 : La.1 ≤ o24.toNat := by rw [e27, Int.toNat_natCast]; exact (hX18 : sg_X La La13).1
  have t31 := t16.X hX29
  have hX32 := sg_X.tr (hX18) hX29
  refine gw_dup F rfl dX11_init_19 ?_
  refine gw_aload_n F 0 rfl rfl t31.1 dX11_init_20 ?_
  refine gw_get5 F t31 (by decide) rfl sg_lay_RX11 (j := 0) (by decide) rfl (host := "") (.inl kw_326) dX11_init_21 (fun h33 => ?_)
  obtain ⟨g34, hf⟩ := hf
  refine gk_BV F (gc_I F (S := [sg_r o24, sg_r o]) (As := [sg_r (s23 o 0)]) (NX9_init t28 g34 hf) t28.1 kw_136 kw_92 kw_134 kw_135 rfl hcX9_init ⟨by decide, by decide⟩ rfl rfl (Nat.le_of_ble_eq_true rfl) ⟨by decide, by decide⟩ dX11_init_24) (List.forall_mem_cons.mpr ⟨(Or.inl t31.2.1), (fun _ h => absurd h List.not_mem_nil)⟩) (List.forall_mem_cons.mpr ⟨(Or.inl t28.2.1), (List.forall_mem_cons.mpr ⟨(Or.inl t31.2.1), (fun _ h => absurd h List.not_mem_nil)⟩)⟩) (fun La35 s36 hX37 hf => ?_)
  have t38 := (sg_O_sx t31 t28 (by decide)).X hX37
  have t39 := (sg_O_sealed t28).X hX37
  have hX40 := (sg_X_sx (hX32) hn30).tr hX37
  obtain ⟨s41, e42⟩ : ∃ z : sg_M, z = sg_up s36 o 1 o24 := ⟨_, rfl⟩
  have hf := hf s41 e42
  refine gw_put5F F t38 (by decide) rfl sg_lay_RX11 (j := 1) (by decide) (D0 := tyX11 1) (fun _ => ⟨rfl, rfl⟩) t39.1 t39.2.1 e42 tyX11_ok nmX11 rfl hin rfl (tyX11_ok 1 (by decide)) rfl (host := "") kw_327 dX11_init_27 ?_
  refine gw_aload_n F 0 rfl rfl t38.1 dX11_init_30 ?_
  refine gy_new F (kd := 47) (T := TX7) (by decide) rfl sg_lay_RX7 tyX7_ok kw_150 kw_151 kw_93 ns_X7 nf_X7 nr_X7 (by decide) (by decide) (List.forall_mem_cons.mpr ⟨(Or.inl t38.2.1), (fun _ h => absurd h List.not_mem_nil)⟩) (List.forall_mem_cons.mpr ⟨(Or.inl t38.2.1), (fun _ h => absurd h List.not_mem_nil)⟩) dX11_init_31 (fun q43 La44 s45 o46 e47 e48 e49 t50 hX51 => ?_)
  have hf := hf q43 La44 e47 s45 e48 o46 e49
  have hn52 : La.1 ≤ o46.toNat := by rw [e49, Int.toNat_natCast]; exact (hX40 : sg_X La La35).1
  have t53 := t38.X hX51
  have hX54 := sg_X.tr (hX40) hX51
  refine gw_dup F rfl dX11_init_34 ?_
  refine gy_new F (kd := 21) (T := TX1) (by decide) rfl sg_lay_RX1 tyX1_ok kw_152 kw_153 kw_94 ns_X1 nf_X1 nr_X1 (by decide) (by decide) (List.forall_mem_cons.mpr ⟨(Or.inl t53.2.1), (fun _ h => absurd h List.not_mem_nil)⟩) (List.forall_mem_cons.mpr ⟨(Or.inl t50.2.1), (List.forall_mem_cons.mpr ⟨(Or.inl t50.2.1), (List.forall_mem_cons.mpr ⟨(Or.inl t53.2.1), (fun _ h => absurd h List.not_mem_nil)⟩)⟩)⟩) dX11_init_35 (fun q55 La56 s57 o58 e59 e60 e61 t62 hX63 => ?_)
  have hf := hf q55 La56 e59 s57 e60 o58 e61
  have hn64 : La.1 ≤ o58.toNat := by rw [e61, Int.toNat_natCast]; exact (hX54 : sg_X La La44).1
  have t65 := t53.X hX63
  have t66 := t50.X hX63
  have hX67 := sg_X.tr (hX54) hX63
  refine gw_dup F rfl dX11_init_38 ?_
  refine gk_BV F (gc_IN F (S := [sg_r o58, sg_r o46, sg_r o46, sg_r o]) (As := []) (CX1_init t62 hf) t62.1 kw_156 kw_94 kw_154 kw_155 rfl hcX1_init ⟨by decide, by decide⟩ rfl rfl (Nat.le_of_ble_eq_true rfl) ⟨by decide, by decide⟩ dX11_init_39) (List.forall_mem_cons.mpr ⟨(Or.inl t65.2.1), (fun _ h => absurd h List.not_mem_nil)⟩) (List.forall_mem_cons.mpr ⟨(Or.inl t62.2.1), (List.forall_mem_cons.mpr ⟨(Or.inl t66.2.1), (List.forall_mem_cons.mpr ⟨(Or.inl t66.2.1), (List.forall_mem_cons.mpr ⟨(Or.inl t65.2.1), (fun _ h => absurd h List.not_mem_nil)⟩)⟩)⟩)⟩) (fun La68 s69 hX70 hf => ?_)
  have t71 := (sg_O_sx t65 t62 (by decide)).X hX70
  have t72 := (sg_O_sx t66 t62 (by decide)).X hX70
  have t73 := (sg_O_sealed t62).X hX70
  have hX74 := (sg_X_sx (hX67) hn64).tr hX70
  refine gy_new F (kd := 23) (T := TX3) (by decide) rfl sg_lay_RX3 tyX3_ok kw_172 kw_173 kw_95 ns_X3 nf_X3 nr_X3 (by decide) (by decide) (List.forall_mem_cons.mpr ⟨(Or.inl t71.2.1), (fun _ h => absurd h List.not_mem_nil)⟩) (List.forall_mem_cons.mpr ⟨(Or.inl t73.2.1), (List.forall_mem_cons.mpr ⟨(Or.inl t72.2.1), (List.forall_mem_cons.mpr ⟨(Or.inl t72.2.1), (List.forall_mem_cons.mpr ⟨(Or.inl t71.2.1), (fun _ h => absurd h List.not_mem_nil)⟩)⟩)⟩)⟩) dX11_init_42 (fun q75 La76 s77 o78 e79 e80 e81 t82 hX83 => ?_)
  have hf := hf q75 La76 e79 s77 e80 o78 e81
  have hn84 : La.1 ≤ o78.toNat := by rw [e81, Int.toNat_natCast]; exact (hX74 : sg_X La La68).1
  have t85 := t71.X hX83
  have t86 := t72.X hX83
  have t87 := t73.X hX83
  have hX88 := sg_X.tr (hX74) hX83
  refine gw_dup F rfl dX11_init_45 ?_
  refine gk_BV F (gc_IN F (S := [sg_r o78, sg_r o58, sg_r o46, sg_r o46, sg_r o]) (As := []) (CX3_init t82 hf) t82.1 kw_176 kw_95 kw_174 kw_175 rfl hcX3_init ⟨by decide, by decide⟩ rfl rfl (Nat.le_of_ble_eq_true rfl) ⟨by decide, by decide⟩ dX11_init_46) (List.forall_mem_cons.mpr ⟨(Or.inl t85.2.1), (fun _ h => absurd h List.not_mem_nil)⟩) (List.forall_mem_cons.mpr ⟨(Or.inl t82.2.1), (List.forall_mem_cons.mpr ⟨(Or.inl t87.2.1), (List.forall_mem_cons.mpr ⟨(Or.inl t86.2.1), (List.forall_mem_cons.mpr ⟨(Or.inl t86.2.1), (List.forall_mem_cons.mpr ⟨(Or.inl t85.2.1), (fun _ h => absurd h List.not_mem_nil)⟩)⟩)⟩)⟩)⟩) (fun La89 s90 hX91 hf => ?_)
  have t92 := (sg_O_sx t85 t82 (by decide)).X hX91
  have t93 := (sg_O_sx t86 t82 (by decide)).X hX91
  have t94 := (sg_O_sx t87 t82 (by decide)).X hX91
  have t95 := (sg_O_sealed t82).X hX91
  have hX96 := (sg_X_sx (hX88) hn84).tr hX91
  refine gy_new F (kd := 25) (T := TX5) (by decide) rfl sg_lay_RX5 tyX5_ok kw_184 kw_185 kw_96 ns_X5 nf_X5 nr_X5 (by decide) (by decide) (List.forall_mem_cons.mpr ⟨(Or.inl t92.2.1), (fun _ h => absurd h List.not_mem_nil)⟩) (List.forall_mem_cons.mpr ⟨(Or.inl t95.2.1), (List.forall_mem_cons.mpr ⟨(Or.inl t94.2.1), (List.forall_mem_cons.mpr ⟨(Or.inl t93.2.1), (List.forall_mem_cons.mpr ⟨(Or.inl t93.2.1), (List.forall_mem_cons.mpr ⟨(Or.inl t92.2.1), (fun _ h => absurd h List.not_mem_nil)⟩)⟩)⟩)⟩)⟩) dX11_init_49 (fun q97 La98 s99 o100 e101 e102 e103 t104 hX105 => ?_)
  have hf := hf q97 La98 e101 s99 e102 o100 e103
  have hn106 : La.1 ≤ o100.toNat := by rw [e103, Int.toNat_natCast]; exact (hX96 : sg_X La La89).1
  have t107 := t92.X hX105
  have t108 := t93.X hX105
  have t109 := t94.X hX105
  have t110 := t95.X hX105
  have hX111 := sg_X.tr (hX96) hX105
  refine gw_dup F rfl dX11_init_52 ?_
  refine gk_BV F (gc_IN F (S := [sg_r o100, sg_r o78, sg_r o58, sg_r o46, sg_r o46, sg_r o]) (As := []) (CX5_init t104 hf) t104.1 kw_188 kw_96 kw_186 kw_187 rfl hcX5_init ⟨by decide, by decide⟩ rfl rfl (Nat.le_of_ble_eq_true rfl) ⟨by decide, by decide⟩ dX11_init_53) (List.forall_mem_cons.mpr ⟨(Or.inl t107.2.1), (fun _ h => absurd h List.not_mem_nil)⟩) (List.forall_mem_cons.mpr ⟨(Or.inl t104.2.1), (List.forall_mem_cons.mpr ⟨(Or.inl t110.2.1), (List.forall_mem_cons.mpr ⟨(Or.inl t109.2.1), (List.forall_mem_cons.mpr ⟨(Or.inl t108.2.1), (List.forall_mem_cons.mpr ⟨(Or.inl t108.2.1), (List.forall_mem_cons.mpr ⟨(Or.inl t107.2.1), (fun _ h => absurd h List.not_mem_nil)⟩)⟩)⟩)⟩)⟩)⟩) (fun La112 s113 hX114 hf => ?_)
  have t115 := (sg_O_sx t107 t104 (by decide)).X hX114
  have t116 := (sg_O_sx t108 t104 (by decide)).X hX114
  have t117 := (sg_O_sx t109 t104 (by decide)).X hX114
  have t118 := (sg_O_sx t110 t104 (by decide)).X hX114
  have t119 := (sg_O_sealed t104).X hX114
  have hX120 := (sg_X_sx (hX111) hn106).tr hX114
  refine gk_BV F (gc_I F (S := [sg_r o46, sg_r o]) (As := [sg_r o58, sg_r o78, sg_r o100]) (CX7_init_A t116 t117 t118 t119 hf) t116.1 kw_214 kw_93 kw_212 kw_213 rfl hcX7_init ⟨by decide, by decide⟩ rfl rfl (Nat.le_of_ble_eq_true rfl) ⟨by decide, by decide⟩ dX11_init_56) (List.forall_mem_cons.mpr ⟨(Or.inl t115.2.1), (fun _ h => absurd h List.not_mem_nil)⟩) (List.forall_mem_cons.mpr ⟨(Or.inl t116.2.1), (List.forall_mem_cons.mpr ⟨(Or.inl t115.2.1), (fun _ h => absurd h List.not_mem_nil)⟩)⟩) (fun La121 s122 hX123 hf => ?_)
  have t124 := (sg_O_sx t115 t116 (by decide)).X hX123
  have t125 := (sg_O_sealed t116).X hX123
  have hX126 := (sg_X_sx (hX120) hn52).tr hX123
  obtain ⟨s127, e128⟩ : ∃ z : sg_M, z = sg_up s122 o 2 o46 := ⟨_, rfl⟩
  have hf := hf s127 e128
  refine gw_put5F F t124 (by decide) rfl sg_lay_RX11 (j := 2) (by decide) (D0 := tyX11 2) (fun _ => ⟨rfl, rfl⟩) t125.1 t125.2.1 e128 tyX11_ok nmX11 rfl hin rfl (tyX11_ok 2 (by decide)) rfl (host := "") kw_328 dX11_init_59 ?_
  refine gw_aload_n F 0 rfl rfl t124.1 dX11_init_62 ?_
  refine gw_iconst F dX11_init_63 ?_
  refine gy_newT F (N := 2) kw_150 (F.2.2.2.2.2.2.2.2.2.1 _ kw_243) rfl (by decide) (by decide) (by decide) (List.forall_mem_cons.mpr ⟨(Or.inl t124.2.1), (fun _ h => absurd h List.not_mem_nil)⟩) (List.forall_mem_cons.mpr ⟨(Or.inl t124.2.1), (fun _ h => absurd h List.not_mem_nil)⟩) dX11_init_64 (fun q129 La130 s131 o132 e133 e134 e135 t136 hX137 => ?_)
  have hf := hf q129 La130 e133 s131 e134 o132 e135
  have hn138 : La.1 ≤ o132.toNat := by rw [e135, Int.toNat_natCast]; exact (hX126 : sg_X La La121).1
  have t139 := t124.X hX137
  have hX140 := sg_X.tr (hX126) hX137
  obtain ⟨s141, e142⟩ : ∃ z : sg_M, z = sg_up s131 o 3 o132 := ⟨_, rfl⟩
  have hf := hf s141 e142
  refine gw_put5F F t139 (by decide) rfl sg_lay_RX11 (j := 3) (by decide) (D0 := tyX11 3) (fun _ => ⟨rfl, rfl⟩) t136.1 t136.2.1 e142 tyX11_ok nmX11 rfl hin rfl (tyX11_ok 3 (by decide)) rfl (host := "") kw_329 dX11_init_67 ?_
  refine gw_aload_n F 0 rfl rfl t139.1 dX11_init_70 ?_
  refine gy_new F (kd := 21) (T := TX1) (by decide) rfl sg_lay_RX1 tyX1_ok kw_152 kw_153 kw_94 ns_X1 nf_X1 nr_X1 (by decide) (by decide) (List.forall_mem_cons.mpr ⟨(Or.inl t139.2.1), (fun _ h => absurd h List.not_mem_nil)⟩) (List.forall_mem_cons.mpr ⟨(Or.inl t139.2.1), (fun _ h => absurd h List.not_mem_nil)⟩) dX11_init_71 (fun q143 La144 s145 o146 e147 e148 e149 t150 hX151 => ?_)
  have hf := hf q143 La144 e147 s145 e148 o146 e149
  have hn152 : La.1 ≤ o146.toNat := by rw [e149, Int.toNat_natCast]; exact (hX140 : sg_X La La130).1
  have t153 := t139.X hX151
  have hX154 := sg_X.tr (hX140) hX151
  refine gw_dup F rfl dX11_init_74 ?_
  refine gk_BV F (gc_IN F (S := [sg_r o146, sg_r o]) (As := []) (CX1_init t150 hf) t150.1 kw_156 kw_94 kw_154 kw_155 rfl hcX1_init ⟨by decide, by decide⟩ rfl rfl (Nat.le_of_ble_eq_true rfl) ⟨by decide, by decide⟩ dX11_init_75) (List.forall_mem_cons.mpr ⟨(Or.inl t153.2.1), (fun _ h => absurd h List.not_mem_nil)⟩) (List.forall_mem_cons.mpr ⟨(Or.inl t150.2.1), (List.forall_mem_cons.mpr ⟨(Or.inl t153.2.1), (fun _ h => absurd h List.not_mem_nil)⟩)⟩) (fun La155 s156 hX157 hf => ?_)
  have t158 := (sg_O_sx t153 t150 (by decide)).X hX157
  have t159 := (sg_O_sealed t150).X hX157
  have hX160 := (sg_X_sx (hX154) hn152).tr hX157
  obtain ⟨s161, e162⟩ : ∃ z : sg_M, z = sg_up s156 o 4 o146 := ⟨_, rfl⟩
  have hf := hf s161 e162
  refine gw_put5F F t158 (by decide) rfl sg_lay_RX11 (j := 4) (by decide) (D0 := tyX11 4) (fun _ => ⟨rfl, rfl⟩) t159.1 t159.2.1 e162 tyX11_ok nmX11 rfl hin rfl (tyX11_ok 4 (by decide)) rfl (host := "") kw_330 dX11_init_78 ?_
  refine gw_aload_n F 0 rfl rfl t158.1 dX11_init_81 ?_
  refine gy_new F (kd := 20) (T := TX0) (by decide) rfl sg_lay_RX0 tyX0_ok kw_244 kw_245 kw_100 ns_X0 nf_X0 nr_X0 (by decide) (by decide) (List.forall_mem_cons.mpr ⟨(Or.inl t158.2.1), (fun _ h => absurd h List.not_mem_nil)⟩) (List.forall_mem_cons.mpr ⟨(Or.inl t158.2.1), (fun _ h => absurd h List.not_mem_nil)⟩) dX11_init_82 (fun q163 La164 s165 o166 e167 e168 e169 t170 hX171 => ?_)
  have hf := hf q163 La164 e167 s165 e168 o166 e169
  have hn172 : La.1 ≤ o166.toNat := by rw [e169, Int.toNat_natCast]; exact (hX160 : sg_X La La155).1
  have t173 := t158.X hX171
  have hX174 := sg_X.tr (hX160) hX171
  refine gw_dup F rfl dX11_init_85 ?_
  refine gk_BV F (gc_IN F (S := [sg_r o166, sg_r o]) (As := []) (CX0_init t170 hf) t170.1 kw_248 kw_100 kw_246 kw_247 rfl hcX0_init ⟨by decide, by decide⟩ rfl rfl (Nat.le_of_ble_eq_true rfl) ⟨by decide, by decide⟩ dX11_init_86) (List.forall_mem_cons.mpr ⟨(Or.inl t173.2.1), (fun _ h => absurd h List.not_mem_nil)⟩) (List.forall_mem_cons.mpr ⟨(Or.inl t170.2.1), (List.forall_mem_cons.mpr ⟨(Or.inl t173.2.1), (fun _ h => absurd h List.not_mem_nil)⟩)⟩) (fun La175 s176 hX177 hf => ?_)
  have t178 := (sg_O_sx t173 t170 (by decide)).X hX177
  have t179 := (sg_O_sealed t170).X hX177
  have hX180 := (sg_X_sx (hX174) hn172).tr hX177
  obtain ⟨s181, e182⟩ : ∃ z : sg_M, z = sg_up s176 o 5 o166 := ⟨_, rfl⟩
  have hf := hf s181 e182
  refine gw_put5F F t178 (by decide) rfl sg_lay_RX11 (j := 5) (by decide) (D0 := tyX11 5) (fun _ => ⟨rfl, rfl⟩) t179.1 t179.2.1 e182 tyX11_ok nmX11 rfl hin rfl (tyX11_ok 5 (by decide)) rfl (host := "") kw_331 dX11_init_89 ?_
  refine gw_aload_n F 0 rfl rfl t178.1 dX11_init_92 ?_
  refine gy_new F (kd := 30) (T := TX10) (by decide) rfl sg_lay_RX10 tyX10_ok kw_275 kw_276 kw_101 ns_X10 nf_X10 nr_X10 (by decide) (by decide) (List.forall_mem_cons.mpr ⟨(Or.inl t178.2.1), (fun _ h => absurd h List.not_mem_nil)⟩) (List.forall_mem_cons.mpr ⟨(Or.inl t178.2.1), (fun _ h => absurd h List.not_mem_nil)⟩) dX11_init_93 (fun q183 La184 s185 o186 e187 e188 e189 t190 hX191 => ?_)
  have hf := hf q183 La184 e187 s185 e188 o186 e189
  have hn192 : La.1 ≤ o186.toNat := by rw [e189, Int.toNat_natCast]; exact (hX180 : sg_X La La175).1
  have t193 := t178.X hX191
  have hX194 := sg_X.tr (hX180) hX191
  refine gw_dup F rfl dX11_init_96 ?_
  refine gk_BV F (gc_IN F (S := [sg_r o186, sg_r o]) (As := []) (CX10_init t190 hf) t190.1 kw_279 kw_101 kw_277 kw_278 rfl hcX10_init ⟨by decide, by decide⟩ rfl rfl (Nat.le_of_ble_eq_true rfl) ⟨by decide, by decide⟩ dX11_init_97) (List.forall_mem_cons.mpr ⟨(Or.inl t193.2.1), (fun _ h => absurd h List.not_mem_nil)⟩) (List.forall_mem_cons.mpr ⟨(Or.inl t190.2.1), (List.forall_mem_cons.mpr ⟨(Or.inl t193.2.1), (fun _ h => absurd h List.not_mem_nil)⟩)⟩) (fun La195 s196 hX197 hf => ?_)
  have t198 := (sg_O_sx t193 t190 (by decide)).X hX197
  have t199 := (sg_O_sealed t190).X hX197
  have hX200 := (sg_X_sx (hX194) hn192).tr hX197
  obtain ⟨s201, e202⟩ : ∃ z : sg_M, z = sg_up s196 o 6 o186 := ⟨_, rfl⟩
  have hf := hf s201 e202
  refine gw_put5F F t198 (by decide) rfl sg_lay_RX11 (j := 6) (by decide) (D0 := tyX11 6) (fun _ => ⟨rfl, rfl⟩) t199.1 t199.2.1 e202 tyX11_ok nmX11 rfl hin rfl (tyX11_ok 6 (by decide)) rfl (host := "") kw_332 dX11_init_100 ?_
  refine gw_aload_n F 0 rfl rfl t198.1 dX11_init_103 ?_
  refine gy_new F (kd := 30) (T := TX10) (by decide) rfl sg_lay_RX10 tyX10_ok kw_275 kw_276 kw_101 ns_X10 nf_X10 nr_X10 (by decide) (by decide) (List.forall_mem_cons.mpr ⟨(Or.inl t198.2.1), (fun _ h => absurd h List.not_mem_nil)⟩) (List.forall_mem_cons.mpr ⟨(Or.inl t198.2.1), (fun _ h => absurd h List.not_mem_nil)⟩) dX11_init_104 (fun q203 La204 s205 o206 e207 e208 e209 t210 hX211 => ?_)
  have hf := hf q203 La204 e207 s205 e208 o206 e209
  have hn212 : La.1 ≤ o206.toNat := by rw [e209, Int.toNat_natCast]; exact (hX200 : sg_X La La195).1
  have t213 := t198.X hX211
  have hX214 := sg_X.tr (hX200) hX211
  refine gw_dup F rfl dX11_init_107 ?_
  refine gk_BV F (gc_IN F (S := [sg_r o206, sg_r o]) (As := []) (CX10_init t210 hf) t210.1 kw_279 kw_101 kw_277 kw_278 rfl hcX10_init ⟨by decide, by decide⟩ rfl rfl (Nat.le_of_ble_eq_true rfl) ⟨by decide, by decide⟩ dX11_init_108) (List.forall_mem_cons.mpr ⟨(Or.inl t213.2.1), (fun _ h => absurd h List.not_mem_nil)⟩) (List.forall_mem_cons.mpr ⟨(Or.inl t210.2.1), (List.forall_mem_cons.mpr ⟨(Or.inl t213.2.1), (fun _ h => absurd h List.not_mem_nil)⟩)⟩) (fun La215 s216 hX217 hf => ?_)
  have t218 := (sg_O_sx t213 t210 (by decide)).X hX217
  have t219 := (sg_O_sealed t210).X hX217
  have hX220 := (sg_X_sx (hX214) hn212).tr hX217
  obtain ⟨s221, e222⟩ : ∃ z : sg_M, z = sg_up s216 o 7 o206 := ⟨_, rfl⟩
  have hf := hf s221 e222
  refine gw_put5F F t218 (by decide) rfl sg_lay_RX11 (j := 7) (by decide) (D0 := tyX11 7) (fun _ => ⟨rfl, rfl⟩) t219.1 t219.2.1 e222 tyX11_ok nmX11 rfl hin rfl (tyX11_ok 7 (by decide)) rfl (host := "") kw_333 dX11_init_111 ?_
  refine gw_aload_n F 0 rfl rfl t218.1 dX11_init_114 ?_
  refine gy_new F (kd := 30) (T := TX10) (by decide) rfl sg_lay_RX10 tyX10_ok kw_275 kw_276 kw_101 ns_X10 nf_X10 nr_X10 (by decide) (by decide) (List.forall_mem_cons.mpr ⟨(Or.inl t218.2.1), (fun _ h => absurd h List.not_mem_nil)⟩) (List.forall_mem_cons.mpr ⟨(Or.inl t218.2.1), (fun _ h => absurd h List.not_mem_nil)⟩) dX11_init_115 (fun q223 La224 s225 o226 e227 e228 e229 t230 hX231 => ?_)
  have hf := hf q223 La224 e227 s225 e228 o226 e229
  have hn232 : La.1 ≤ o226.toNat := by rw [e229, Int.toNat_natCast]; exact (hX220 : sg_X La La215).1
  have t233 := t218.X hX231
  have hX234 := sg_X.tr (hX220) hX231
  refine gw_dup F rfl dX11_init_118 ?_
  refine gk_BV F (gc_IN F (S := [sg_r o226, sg_r o]) (As := []) (CX10_init t230 hf) t230.1 kw_279 kw_101 kw_277 kw_278 rfl hcX10_init ⟨by decide, by decide⟩ rfl rfl (Nat.le_of_ble_eq_true rfl) ⟨by decide, by decide⟩ dX11_init_119) (List.forall_mem_cons.mpr ⟨(Or.inl t233.2.1), (fun _ h => absurd h List.not_mem_nil)⟩) (List.forall_mem_cons.mpr ⟨(Or.inl t230.2.1), (List.forall_mem_cons.mpr ⟨(Or.inl t233.2.1), (fun _ h => absurd h List.not_mem_nil)⟩)⟩) (fun La235 s236 hX237 hf => ?_)
  have t238 := (sg_O_sx t233 t230 (by decide)).X hX237
  have t239 := (sg_O_sealed t230).X hX237
  have hX240 := (sg_X_sx (hX234) hn232).tr hX237
  obtain ⟨s241, e242⟩ : ∃ z : sg_M, z = sg_up s236 o 8 o226 := ⟨_, rfl⟩
  have hf := hf s241 e242
  refine gw_put5F F t238 (by decide) rfl sg_lay_RX11 (j := 8) (by decide) (D0 := tyX11 8) (fun _ => ⟨rfl, rfl⟩) t239.1 t239.2.1 e242 tyX11_ok nmX11 rfl hin rfl (tyX11_ok 8 (by decide)) rfl (host := "") kw_334 dX11_init_122 ?_
  refine gw_aload_n F 0 rfl rfl t238.1 dX11_init_125 ?_
  refine gy_new F (kd := 26) (T := TX6) (by decide) rfl sg_lay_RX6 tyX6_ok kw_304 kw_305 kw_102 ns_X6 nf_X6 nr_X6 (by decide) (by decide) (List.forall_mem_cons.mpr ⟨(Or.inl t238.2.1), (fun _ h => absurd h List.not_mem_nil)⟩) (List.forall_mem_cons.mpr ⟨(Or.inl t238.2.1), (fun _ h => absurd h List.not_mem_nil)⟩) dX11_init_126 (fun q243 La244 s245 o246 e247 e248 e249 t250 hX251 => ?_)
  have hf := hf q243 La244 e247 s245 e248 o246 e249
  have hn252 : La.1 ≤ o246.toNat := by rw [e249, Int.toNat_natCast]; exact (hX240 : sg_X La La235).1
  have t253 := t238.X hX251
  have hX254 := sg_X.tr (hX240) hX251
  refine gw_dup F rfl dX11_init_129 ?_
  refine gk_BV F (gc_IN F (S := [sg_r o246, sg_r o]) (As := []) (CX6_init t250 hf) t250.1 kw_308 kw_102 kw_306 kw_307 rfl hcX6_init ⟨by decide, by decide⟩ rfl rfl (Nat.le_of_ble_eq_true rfl) ⟨by decide, by decide⟩ dX11_init_130) (List.forall_mem_cons.mpr ⟨(Or.inl t253.2.1), (fun _ h => absurd h List.not_mem_nil)⟩) (List.forall_mem_cons.mpr ⟨(Or.inl t250.2.1), (List.forall_mem_cons.mpr ⟨(Or.inl t253.2.1), (fun _ h => absurd h List.not_mem_nil)⟩)⟩) (fun La255 s256 hX257 hf => ?_)
  have t258 := (sg_O_sx t253 t250 (by decide)).X hX257
  have t259 := (sg_O_sealed t250).X hX257
  have hX260 := (sg_X_sx (hX254) hn252).tr hX257
  obtain ⟨s261, e262⟩ : ∃ z : sg_M, z = sg_up s256 o 9 o246 := ⟨_, rfl⟩
  have hf := hf s261 e262
  refine gw_put5F F t258 (by decide) rfl sg_lay_RX11 (j := 9) (by decide) (D0 := tyX11 9) (fun _ => ⟨rfl, rfl⟩) t259.1 t259.2.1 e262 tyX11_ok nmX11 rfl hin rfl (tyX11_ok 9 (by decide)) rfl (host := "") kw_335 dX11_init_133 ?_
  refine gw_aload_n F 0 rfl rfl t258.1 dX11_init_136 ?_
  refine gy_new F (kd := 24) (T := TX4) (by decide) rfl sg_lay_RX4 tyX4_ok kw_316 kw_191 kw_97 ns_X4 nf_X4 nr_X4 (by decide) (by decide) (List.forall_mem_cons.mpr ⟨(Or.inl t258.2.1), (fun _ h => absurd h List.not_mem_nil)⟩) (List.forall_mem_cons.mpr ⟨(Or.inl t258.2.1), (fun _ h => absurd h List.not_mem_nil)⟩) dX11_init_137 (fun q263 La264 s265 o266 e267 e268 e269 t270 hX271 => ?_)
  have hf := hf q263 La264 e267 s265 e268 o266 e269
  have hn272 : La.1 ≤ o266.toNat := by rw [e269, Int.toNat_natCast]; exact (hX260 : sg_X La La255).1
  have t273 := t258.X hX271
  have hX274 := sg_X.tr (hX260) hX271
  refine gw_dup F rfl dX11_init_140 ?_
  refine gw_bipush F rfl dX11_init_141 ?_
  refine gk_BV F (gc_I F (S := [sg_r o266, sg_r o]) (As := [sg_i 40]) (CX4_init t270 (by decide) hf) t270.1 kw_194 kw_97 kw_317 kw_193 rfl hcX4_init ⟨by decide, by decide⟩ rfl rfl (Nat.le_of_ble_eq_true rfl) ⟨by decide, by decide⟩ dX11_init_143) (List.forall_mem_cons.mpr ⟨(Or.inl t273.2.1), (fun _ h => absurd h List.not_mem_nil)⟩) (List.forall_mem_cons.mpr ⟨(Or.inl t270.2.1), (List.forall_mem_cons.mpr ⟨(Or.inl t273.2.1), (fun _ h => absurd h List.not_mem_nil)⟩)⟩) (fun La275 s276 hX277 hf => ?_)
  have t278 := (sg_O_sx t273 t270 (by decide)).X hX277
  have t279 := (sg_O_sealed t270).X hX277
  have hX280 := (sg_X_sx (hX274) hn272).tr hX277
  obtain ⟨s281, e282⟩ : ∃ z : sg_M, z = sg_up s276 o 10 o266 := ⟨_, rfl⟩
  have hf := hf s281 e282
  refine gw_put5F F t278 (by decide) rfl sg_lay_RX11 (j := 10) (by decide) (D0 := tyX11 10) (fun _ => ⟨rfl, rfl⟩) t279.1 t279.2.1 e282 tyX11_ok nmX11 rfl hin rfl (tyX11_ok 10 (by decide)) rfl (host := "") kw_336 dX11_init_146 ?_
  refine gw_aload_n F 0 rfl rfl t278.1 dX11_init_149 ?_
  refine gy_new F (kd := 24) (T := TX4) (by decide) rfl sg_lay_RX4 tyX4_ok kw_316 kw_191 kw_97 ns_X4 nf_X4 nr_X4 (by decide) (by decide) (List.forall_mem_cons.mpr ⟨(Or.inl t278.2.1), (fun _ h => absurd h List.not_mem_nil)⟩) (List.forall_mem_cons.mpr ⟨(Or.inl t278.2.1), (fun _ h => absurd h List.not_mem_nil)⟩) dX11_init_150 (fun q283 La284 s285 o286 e287 e288 e289 t290 hX291 => ?_)
  have hf := hf q283 La284 e287 s285 e288 o286 e289
  have hn292 : La.1 ≤ o286.toNat := by rw [e289, Int.toNat_natCast]; exact (hX280 : sg_X La La275).1
  have t293 := t278.X hX291
  have hX294 := sg_X.tr (hX280) hX291
  refine gw_dup F rfl dX11_init_153 ?_
  refine gw_bipush F rfl dX11_init_154 ?_
  refine gk_BV F (gc_I F (S := [sg_r o286, sg_r o]) (As := [sg_i 21]) (CX4_init t290 (by decide) hf) t290.1 kw_194 kw_97 kw_317 kw_193 rfl hcX4_init ⟨by decide, by decide⟩ rfl rfl (Nat.le_of_ble_eq_true rfl) ⟨by decide, by decide⟩ dX11_init_156) (List.forall_mem_cons.mpr ⟨(Or.inl t293.2.1), (fun _ h => absurd h List.not_mem_nil)⟩) (List.forall_mem_cons.mpr ⟨(Or.inl t290.2.1), (List.forall_mem_cons.mpr ⟨(Or.inl t293.2.1), (fun _ h => absurd h List.not_mem_nil)⟩)⟩) (fun La295 s296 hX297 hf => ?_)
  have t298 := (sg_O_sx t293 t290 (by decide)).X hX297
  have t299 := (sg_O_sealed t290).X hX297
  have hX300 := (sg_X_sx (hX294) hn292).tr hX297
  obtain ⟨s301, e302⟩ : ∃ z : sg_M, z = sg_up s296 o 11 o286 := ⟨_, rfl⟩
  have hf := hf s301 e302
  refine gw_put5F F t298 (by decide) rfl sg_lay_RX11 (j := 11) (by decide) (D0 := tyX11 11) (fun _ => ⟨rfl, rfl⟩) t299.1 t299.2.1 e302 tyX11_ok nmX11 rfl hin rfl (tyX11_ok 11 (by decide)) rfl (host := "") kw_337 dX11_init_159 ?_
  refine gw_aload_n F 0 rfl rfl t298.1 dX11_init_162 ?_
  refine gy_new F (kd := 24) (T := TX4) (by decide) rfl sg_lay_RX4 tyX4_ok kw_316 kw_191 kw_97 ns_X4 nf_X4 nr_X4 (by decide) (by decide) (List.forall_mem_cons.mpr ⟨(Or.inl t298.2.1), (fun _ h => absurd h List.not_mem_nil)⟩) (List.forall_mem_cons.mpr ⟨(Or.inl t298.2.1), (fun _ h => absurd h List.not_mem_nil)⟩) dX11_init_163 (fun q303 La304 s305 o306 e307 e308 e309 t310 hX311 => ?_)
  have hf := hf q303 La304 e307 s305 e308 o306 e309
  have hn312 : La.1 ≤ o306.toNat := by rw [e309, Int.toNat_natCast]; exact (hX300 : sg_X La La295).1
  have t313 := t298.X hX311
  have hX314 := sg_X.tr (hX300) hX311
  refine gw_dup F rfl dX11_init_166 ?_
  refine gw_bipush F rfl dX11_init_167 ?_
  refine gk_BV F (gc_I F (S := [sg_r o306, sg_r o]) (As := [sg_i 101]) (CX4_init t310 (by decide) hf) t310.1 kw_194 kw_97 kw_317 kw_193 rfl hcX4_init ⟨by decide, by decide⟩ rfl rfl (Nat.le_of_ble_eq_true rfl) ⟨by decide, by decide⟩ dX11_init_169) (List.forall_mem_cons.mpr ⟨(Or.inl t313.2.1), (fun _ h => absurd h List.not_mem_nil)⟩) (List.forall_mem_cons.mpr ⟨(Or.inl t310.2.1), (List.forall_mem_cons.mpr ⟨(Or.inl t313.2.1), (fun _ h => absurd h List.not_mem_nil)⟩)⟩) (fun La315 s316 hX317 hf => ?_)
  have t318 := (sg_O_sx t313 t310 (by decide)).X hX317
  have t319 := (sg_O_sealed t310).X hX317
  have hX320 := (sg_X_sx (hX314) hn312).tr hX317
  obtain ⟨s321, e322⟩ : ∃ z : sg_M, z = sg_up s316 o 12 o306 := ⟨_, rfl⟩
  have hf := hf s321 e322
  refine gw_put5F F t318 (by decide) rfl sg_lay_RX11 (j := 12) (by decide) (D0 := tyX11 12) (fun _ => ⟨rfl, rfl⟩) t319.1 t319.2.1 e322 tyX11_ok nmX11 rfl hin rfl (tyX11_ok 12 (by decide)) rfl (host := "") kw_338 dX11_init_172 ?_
  refine gw_aload_n F 0 rfl rfl t318.1 dX11_init_175 ?_
  refine gy_new F (kd := 24) (T := TX4) (by decide) rfl sg_lay_RX4 tyX4_ok kw_316 kw_191 kw_97 ns_X4 nf_X4 nr_X4 (by decide) (by decide) (List.forall_mem_cons.mpr ⟨(Or.inl t318.2.1), (fun _ h => absurd h List.not_mem_nil)⟩) (List.forall_mem_cons.mpr ⟨(Or.inl t318.2.1), (fun _ h => absurd h List.not_mem_nil)⟩) dX11_init_176 (fun q323 La324 s325 o326 e327 e328 e329 t330 hX331 => ?_)
  have hf := hf q323 La324 e327 s325 e328 o326 e329
  have hn332 : La.1 ≤ o326.toNat := by rw [e329, Int.toNat_natCast]; exact (hX320 : sg_X La La315).1
  have t333 := t318.X hX331
  have hX334 := sg_X.tr (hX320) hX331
  refine gw_dup F rfl dX11_init_179 ?_
  refine gw_bipush F rfl dX11_init_180 ?_
  refine gk_BV F (gc_I F (S := [sg_r o326, sg_r o]) (As := [sg_i 40]) (CX4_init t330 (by decide) hf) t330.1 kw_194 kw_97 kw_317 kw_193 rfl hcX4_init ⟨by decide, by decide⟩ rfl rfl (Nat.le_of_ble_eq_true rfl) ⟨by decide, by decide⟩ dX11_init_182) (List.forall_mem_cons.mpr ⟨(Or.inl t333.2.1), (fun _ h => absurd h List.not_mem_nil)⟩) (List.forall_mem_cons.mpr ⟨(Or.inl t330.2.1), (List.forall_mem_cons.mpr ⟨(Or.inl t333.2.1), (fun _ h => absurd h List.not_mem_nil)⟩)⟩) (fun La335 s336 hX337 hf => ?_)
  have t338 := (sg_O_sx t333 t330 (by decide)).X hX337
  have t339 := (sg_O_sealed t330).X hX337
  have hX340 := (sg_X_sx (hX334) hn332).tr hX337
  obtain ⟨s341, e342⟩ : ∃ z : sg_M, z = sg_up s336 o 13 o326 := ⟨_, rfl⟩
  have hf := hf s341 e342
  refine gw_put5F F t338 (by decide) rfl sg_lay_RX11 (j := 13) (by decide) (D0 := tyX11 13) (fun _ => ⟨rfl, rfl⟩) t339.1 t339.2.1 e342 tyX11_ok nmX11 rfl hin rfl (tyX11_ok 13 (by decide)) rfl (host := "") kw_339 dX11_init_185 ?_
  refine gw_aload_n F 0 rfl rfl t338.1 dX11_init_188 ?_
  refine gy_new F (kd := 24) (T := TX4) (by decide) rfl sg_lay_RX4 tyX4_ok kw_316 kw_191 kw_97 ns_X4 nf_X4 nr_X4 (by decide) (by decide) (List.forall_mem_cons.mpr ⟨(Or.inl t338.2.1), (fun _ h => absurd h List.not_mem_nil)⟩) (List.forall_mem_cons.mpr ⟨(Or.inl t338.2.1), (fun _ h => absurd h List.not_mem_nil)⟩) dX11_init_189 (fun q343 La344 s345 o346 e347 e348 e349 t350 hX351 => ?_)
  have hf := hf q343 La344 e347 s345 e348 o346 e349
  have hn352 : La.1 ≤ o346.toNat := by rw [e349, Int.toNat_natCast]; exact (hX340 : sg_X La La335).1
  have t353 := t338.X hX351
  have hX354 := sg_X.tr (hX340) hX351
  refine gw_dup F rfl dX11_init_192 ?_
  refine gw_bipush F rfl dX11_init_193 ?_
  refine gk_BV F (gc_I F (S := [sg_r o346, sg_r o]) (As := [sg_i 40]) (CX4_init t350 (by decide) hf) t350.1 kw_194 kw_97 kw_317 kw_193 rfl hcX4_init ⟨by decide, by decide⟩ rfl rfl (Nat.le_of_ble_eq_true rfl) ⟨by decide, by decide⟩ dX11_init_195) (List.forall_mem_cons.mpr ⟨(Or.inl t353.2.1), (fun _ h => absurd h List.not_mem_nil)⟩) (List.forall_mem_cons.mpr ⟨(Or.inl t350.2.1), (List.forall_mem_cons.mpr ⟨(Or.inl t353.2.1), (fun _ h => absurd h List.not_mem_nil)⟩)⟩) (fun La355 s356 hX357 hf => ?_)
  have t358 := (sg_O_sx t353 t350 (by decide)).X hX357
  have t359 := (sg_O_sealed t350).X hX357
  have hX360 := (sg_X_sx (hX354) hn352).tr hX357
  obtain ⟨s361, e362⟩ : ∃ z : sg_M, z = sg_up s356 o 14 o346 := ⟨_, rfl⟩
  have hf := hf s361 e362
  refine gw_put5F F t358 (by decide) rfl sg_lay_RX11 (j := 14) (by decide) (D0 := tyX11 14) (fun _ => ⟨rfl, rfl⟩) t359.1 t359.2.1 e362 tyX11_ok nmX11 rfl hin rfl (tyX11_ok 14 (by decide)) rfl (host := "") kw_340 dX11_init_198 ?_
  refine gw_aload_n F 0 rfl rfl t358.1 dX11_init_201 ?_
  refine gy_new F (kd := 24) (T := TX4) (by decide) rfl sg_lay_RX4 tyX4_ok kw_316 kw_191 kw_97 ns_X4 nf_X4 nr_X4 (by decide) (by decide) (List.forall_mem_cons.mpr ⟨(Or.inl t358.2.1), (fun _ h => absurd h List.not_mem_nil)⟩) (List.forall_mem_cons.mpr ⟨(Or.inl t358.2.1), (fun _ h => absurd h List.not_mem_nil)⟩) dX11_init_202 (fun q363 La364 s365 o366 e367 e368 e369 t370 hX371 => ?_)
  have hf := hf q363 La364 e367 s365 e368 o366 e369
  have hn372 : La.1 ≤ o366.toNat := by rw [e369, Int.toNat_natCast]; exact (hX360 : sg_X La La355).1
  have t373 := t358.X hX371
  have hX374 := sg_X.tr (hX360) hX371
  refine gw_dup F rfl dX11_init_205 ?_
  refine gw_sipush F rfl dX11_init_206 ?_
  refine gk_BV F (gc_I F (S := [sg_r o366, sg_r o]) (As := [sg_i 200]) (CX4_init t370 (by decide) hf) t370.1 kw_194 kw_97 kw_317 kw_193 rfl hcX4_init ⟨by decide, by decide⟩ rfl rfl (Nat.le_of_ble_eq_true rfl) ⟨by decide, by decide⟩ dX11_init_209) (List.forall_mem_cons.mpr ⟨(Or.inl t373.2.1), (fun _ h => absurd h List.not_mem_nil)⟩) (List.forall_mem_cons.mpr ⟨(Or.inl t370.2.1), (List.forall_mem_cons.mpr ⟨(Or.inl t373.2.1), (fun _ h => absurd h List.not_mem_nil)⟩)⟩) (fun La375 s376 hX377 hf => ?_)
  have t378 := (sg_O_sx t373 t370 (by decide)).X hX377
  have t379 := (sg_O_sealed t370).X hX377
  have hX380 := (sg_X_sx (hX374) hn372).tr hX377
  obtain ⟨s381, e382⟩ : ∃ z : sg_M, z = sg_up s376 o 15 o366 := ⟨_, rfl⟩
  have hf := hf s381 e382
  refine gw_put5F F t378 (by decide) rfl sg_lay_RX11 (j := 15) (by decide) (D0 := tyX11 15) (fun _ => ⟨rfl, rfl⟩) t379.1 t379.2.1 e382 tyX11_ok nmX11 rfl hin rfl (tyX11_ok 15 (by decide)) rfl (host := "") kw_341 dX11_init_212 ?_
  refine gw_aload_n F 0 rfl rfl t378.1 dX11_init_215 ?_
  refine gw_iconst F dX11_init_216 ?_
  obtain ⟨s383, e384⟩ : ∃ z : sg_M, z = sg_up s381 o 16 0 := ⟨_, rfl⟩
  have hf := hf s383 e384
  refine gw_put0 F t378 (by decide) rfl sg_lay_RX11 (j := 16) (by decide) (by decide) e384 tyX11_ok nmX11 rfl (tyX11_ok 16 (by decide)) rfl (host := "") (.inl kw_342) dX11_init_217 ?_
  refine gw_aload_n F 0 rfl rfl t378.1 dX11_init_220 ?_
  refine gw_iconst F dX11_init_221 ?_
  obtain ⟨s385, e386⟩ : ∃ z : sg_M, z = sg_up s383 o 17 0 := ⟨_, rfl⟩
  have hf := hf s385 e386
  refine gw_put0 F t378 (by decide) rfl sg_lay_RX11 (j := 17) (by decide) (by decide) e386 tyX11_ok nmX11 rfl (tyX11_ok 17 (by decide)) rfl (host := "") (.inl kw_343) dX11_init_222 ?_
  refine gw_aload_n F 0 rfl rfl t378.1 dX11_init_225 ?_
  refine gw_iconst F dX11_init_226 ?_
  obtain ⟨s387, e388⟩ : ∃ z : sg_M, z = sg_up s385 o 18 (-1) := ⟨_, rfl⟩
  have hf := hf s387 e388
  refine gw_put0 F t378 (by decide) rfl sg_lay_RX11 (j := 18) (by decide) (by decide) e388 tyX11_ok nmX11 rfl (tyX11_ok 18 (by decide)) rfl (host := "") (.inl kw_344) dX11_init_227 ?_
  refine gw_aload_n F 0 rfl rfl t378.1 dX11_init_230 ?_
  refine gw_get5 F t378 (by decide) rfl sg_lay_RX11 (j := 2) (by decide) rfl (host := "") (.inl kw_328) dX11_init_231 (fun h389 => ?_)
  obtain ⟨g390, hf⟩ := hf
  refine gw_get4 F g390 (by decide) rfl sg_lay_RX7 (j := 0) (by decide) rfl (.inr kw_234) dX11_init_234 (fun h391 => ?_)
  refine gw_iconst F dX11_init_237 ?_
  refine gw_bipush F rfl dX11_init_238 ?_
  refine gw_iconst F dX11_init_240 ?_
  refine gw_iconst F dX11_init_241 ?_
  refine gw_iconst F dX11_init_242 ?_
  obtain ⟨g392, hf⟩ := hf
  have t393 := sg_nn h391 g392
  refine gk_HV F (gc_V F (S := []) (As := [sg_i 3, sg_i 30, sg_i 5, sg_i 0, sg_i 0]) (T := TX1) (N := 7) (CX1_addAlike t393 (by decide) (by decide) (by decide) (by decide) (by decide) hf) t393 (by decide) rfl kw_321 kw_94 kw_318 kw_319 kw_320 hcX1_addAlike ⟨by decide, by decide⟩ rfl rfl (Nat.le_of_ble_eq_true rfl) ⟨by decide, by decide⟩ dX11_init_243) (fun s394 hf => ?_)
  refine gw_aload_n F 0 rfl rfl t378.1 dX11_init_246 ?_
  refine gw_get5 F t378 (by decide) rfl sg_lay_RX11 (j := 2) (by decide) rfl (host := "") (.inl kw_328) dX11_init_247 (fun h395 => ?_)
  obtain ⟨g396, hf⟩ := hf
  refine gw_get4 F g396 (by decide) rfl sg_lay_RX7 (j := 0) (by decide) rfl (.inr kw_234) dX11_init_250 (fun h397 => ?_)
  obtain ⟨g398, hf⟩ := hf
  have t399 := sg_nn h397 g398
  refine gk_HV F (gc_V F (S := []) (As := []) (T := TX1) (N := 7) (CX1_fillUntold t399 hf) t399 (by decide) rfl kw_325 kw_94 kw_322 kw_323 kw_324 hcX1_fillUntold ⟨by decide, by decide⟩ rfl rfl (Nat.le_of_ble_eq_true rfl) ⟨by decide, by decide⟩ dX11_init_253) (fun s400 hf => ?_)
  obtain ⟨g402, hf⟩ := hf
  obtain ⟨La401, e403⟩ : ∃ z : sg_L, z = sg_se La375 o.toNat 11 := ⟨_, rfl⟩
  have hf := hf La401 e403
  refine gy_seal t378 ⟨by decide, by decide, by decide⟩ (by decide) (by decide) g402 e403 ?_
  exact gr_BC F (o := o.toNat) (kd := 11) hf (by rw [e403]; exact sg_X.both hX380) (by decide) (by decide) dX11_init_256

end SGCT
