theorem dX5_init_0 : decode cX5_init 0 = .ok (.aload_n 0, 1) := by decide +kernel
theorem dX5_init_1 : decode cX5_init 1 = .ok (.invokespecial 3, 3) := by decide +kernel
theorem dX5_init_4 : decode cX5_init 4 = .ok (.aload_n 0, 1) := by decide +kernel
theorem dX5_init_5 : decode cX5_init 5 = .ok (.new 9, 3) := by decide +kernel
theorem dX5_init_8 : decode cX5_init 8 = .ok (.dup, 1) := by decide +kernel
theorem dX5_init_9 : decode cX5_init 9 = .ok (.bipush 40, 2) := by decide +kernel
theorem dX5_init_11 : decode cX5_init 11 = .ok (.invokespecial 13, 3) := by decide +kernel
theorem dX5_init_14 : decode cX5_init 14 = .ok (.putfield 16, 3) := by decide +kernel
theorem dX5_init_17 : decode cX5_init 17 = .ok (.aload_n 0, 1) := by decide +kernel
theorem dX5_init_18 : decode cX5_init 18 = .ok (.new 9, 3) := by decide +kernel
theorem dX5_init_21 : decode cX5_init 21 = .ok (.dup, 1) := by decide +kernel
theorem dX5_init_22 : decode cX5_init 22 = .ok (.bipush 40, 2) := by decide +kernel
theorem dX5_init_24 : decode cX5_init 24 = .ok (.invokespecial 13, 3) := by decide +kernel
theorem dX5_init_27 : decode cX5_init 27 = .ok (.putfield 20, 3) := by decide +kernel
theorem dX5_init_30 : decode cX5_init 30 = .ok (.aload_n 0, 1) := by decide +kernel
theorem dX5_init_31 : decode cX5_init 31 = .ok (.new 9, 3) := by decide +kernel
theorem dX5_init_34 : decode cX5_init 34 = .ok (.dup, 1) := by decide +kernel
theorem dX5_init_35 : decode cX5_init 35 = .ok (.bipush 40, 2) := by decide +kernel
theorem dX5_init_37 : decode cX5_init 37 = .ok (.invokespecial 13, 3) := by decide +kernel
theorem dX5_init_40 : decode cX5_init 40 = .ok (.putfield 23, 3) := by decide +kernel
theorem dX5_init_43 : decode cX5_init 43 = .ok (.aload_n 0, 1) := by decide +kernel
theorem dX5_init_44 : decode cX5_init 44 = .ok (.iconst 0, 1) := by decide +kernel
theorem dX5_init_45 : decode cX5_init 45 = .ok (.putfield 26, 3) := by decide +kernel
theorem dX5_init_48 : decode cX5_init 48 = .ok (.return_, 1) := by decide +kernel
theorem hcX5_init : yX5_init.cls ≠ "java/lang/invoke/MethodHandle" ∧ yX5_init.cls ≠ "java/lang/invoke/VarHandle" ∧ (parseMethodDescriptor yX5_init.desc).map (fun d => d.parameters.length) = some 0 := ⟨by decide +kernel, by decide +kernel, by decide +kernel⟩
def fX5_init (La : sg_L) (s0 : sg_M) (o : Int) (Q : sg_L → sg_M → Prop) : Prop := ∀ (q1 : Nat) (La2 : sg_L), La2 = sg_pu La 24 q1 → ∀ s3 : sg_M, s3 = sg_nw s0 La.1 24 → ∀ o4 : Int, o4 = (La.1 : Int) → fX4_init La2 s3 o4 40 (fun La13 s14 => ∀ s19 : sg_M, s19 = sg_up s14 o 0 o4 → ∀ (q21 : Nat) (La22 : sg_L), La22 = sg_pu La13 24 q21 → ∀ s23 : sg_M, s23 = sg_nw s19 La13.1 24 → ∀ o24 : Int, o24 = (La13.1 : Int) → fX4_init La22 s23 o24 40 (fun La33 s34 => ∀ s39 : sg_M, s39 = sg_up s34 o 1 o24 → ∀ (q41 : Nat) (La42 : sg_L), La42 = sg_pu La33 24 q41 → ∀ s43 : sg_M, s43 = sg_nw s39 La33.1 24 → ∀ o44 : Int, o44 = (La33.1 : Int) → fX4_init La42 s43 o44 40 (fun La53 s54 => ∀ s59 : sg_M, s59 = sg_up s54 o 2 o44 → ∀ s61 : sg_M, s61 = sg_up s59 o 3 0 → sg_sealed La53 s61 o 25 5 ∧ ∀ La63 : sg_L, La63 = sg_se La53 o.toNat 5 → Q La63 s61)))
set_option maxHeartbeats 4000000 in
set_option maxRecDepth 100000 in
theorem CX5_init {l : Launch} {G : sg_G} {La : sg_L} {s0 : sg_M} {o : Int} (to : sg_O La o 25) {Q : sg_L → sg_M → Prop} (hf : fX5_init La s0 o Q) : sg_C l G yX5_init cX5_init 1 (none) 2 6 609 La s0 [sg_r o] (sg_BV (sg_se La o.toNat 5) Q) := by
  refine sg_body (by decide +kernel) (Nat.le_of_ble_eq_true rfl) ?_
  intro p e s m args below meth c F hnm
  unfold fX5_init at hf
  show sg_W p l e (sg_rm 2 6 609) s m args below meth c (MQ below (sg_Q (none) G La s.heap.size (sg_BV (sg_se La o.toNat 5) Q)) args s 6 609 (sg_A La s.heap.size)) 1 G (sg_A La s.heap.size) La s0 0 0 0 [(0, sg_r o)] []
  have hin : meth.name = "<init>" := hnm
  refine gw_aload_n F 0 rfl rfl to.1 dX5_init_0 ?_
  refine gw_objInit F to.1 kw_189 kw_OI kw_OC (Nat.le_of_ble_eq_true rfl) (by decide) (by decide) dX5_init_1 ?_
  refine gw_aload_n F 0 rfl rfl to.1 dX5_init_4 ?_
  refine gy_new F (kd := 24) (T := TX4) (by decide) rfl sg_lay_RX4 tyX4_ok kw_190 kw_191 kw_97 ns_X4 nf_X4 nr_X4 (by decide) (by decide) (List.forall_mem_cons.mpr ⟨(Or.inl to.2.1), (fun _ h => absurd h List.not_mem_nil)⟩) (List.forall_mem_cons.mpr ⟨(Or.inl to.2.1), (fun _ h => absurd h List.not_mem_nil)⟩) dX5_init_5 (fun q1 La2 s3 o4 e5 e6 e7 t8 hX9 => ?_)
  have hf := hf q1 La2 e5 s3 e6 o4 e7
  have hn10 : La.1 ≤ o4.toNat := by rw [e7, Int.toNat_natCast]; exact (sg_X.rf : sg_X La La).1
  have t11 := to.X hX9
  have hX12 := sg_X.tr (sg_X.rf) hX9
  refine gw_dup F rfl dX5_init_8 ?_
  refine gw_bipush F rfl dX5_init_9 ?_
  refine gk_BV F (gc_I F (S := [sg_r o4, sg_r o]) (As := [sg_i 40]) (CX4_init t8 (by decide) hf) t8.1 kw_194 kw_97 kw_192 kw_193 rfl hcX4_init ⟨by decide, by decide⟩ rfl rfl (Nat.le_of_ble_eq_true rfl) ⟨by decide, by decide⟩ dX5_init_11) (List.forall_mem_cons.mpr ⟨(Or.inl t11.2.1), (fun _ h => absurd h List.not_mem_nil)⟩) (List.forall_mem_cons.mpr ⟨(Or.inl t8.2.1), (List.forall_mem_cons.mpr ⟨(Or.inl t11.2.1), (fun _ h => absurd h List.not_mem_nil)⟩)⟩) (fun La13 s14 hX15 hf => ?_)
  have t16 := (sg_O_sx t11 t8 (by decide)).X hX15
  have t17 := (sg_O_sealed t8).X hX15
  have hX18 := (sg_X_sx (hX12) hn10).tr hX15
  obtain ⟨s19, e20⟩ : ∃ z : sg_M, z = sg_up s14 o 0 o4 := ⟨_, rfl⟩
  have hf := hf s19 e20
  refine gw_put5F F t16 (by decide) rfl sg_lay_RX5 (j := 0) (by decide) (D0 := tyX5 0) (fun _ => ⟨rfl, rfl⟩) t17.1 t17.2.1 e20 tyX5_ok nmX5 rfl hin rfl (tyX5_ok 0 (by decide)) rfl (host := "") kw_207 dX5_init_14 ?_
  refine gw_aload_n F 0 rfl rfl t16.1 dX5_init_17 ?_
  refine gy_new F (kd := 24) (T := TX4) (by decide) rfl sg_lay_RX4 tyX4_ok kw_190 kw_191 kw_97 ns_X4 nf_X4 nr_X4 (by decide) (by decide) (List.forall_mem_cons.mpr ⟨(Or.inl t16.2.1), (fun _ h => absurd h List.not_mem_nil)⟩) (List.forall_mem_cons.mpr ⟨(Or.inl t16.2.1), (fun _ h => absurd h List.not_mem_nil)⟩) dX5_init_18 (fun q21 La22 s23 o24 e25 e26 e27 t28 hX29 => ?_)
  have hf := hf q21 La22 e25 s23 e26 o24 e27
  have hn30 : La.1 ≤ o24.toNat := by rw [e27, Int.toNat_natCast]; exact (hX18 : sg_X La La13).1
  have t31 := t16.X hX29
  have hX32 := sg_X.tr (hX18) hX29
  refine gw_dup F rfl dX5_init_21 ?_
  refine gw_bipush F rfl dX5_init_22 ?_
  refine gk_BV F (gc_I F (S := [sg_r o24, sg_r o]) (As := [sg_i 40]) (CX4_init t28 (by decide) hf) t28.1 kw_194 kw_97 kw_192 kw_193 rfl hcX4_init ⟨by decide, by decide⟩ rfl rfl (Nat.le_of_ble_eq_true rfl) ⟨by decide, by decide⟩ dX5_init_24) (List.forall_mem_cons.mpr ⟨(Or.inl t31.2.1), (fun _ h => absurd h List.not_mem_nil)⟩) (List.forall_mem_cons.mpr ⟨(Or.inl t28.2.1), (List.forall_mem_cons.mpr ⟨(Or.inl t31.2.1), (fun _ h => absurd h List.not_mem_nil)⟩)⟩) (fun La33 s34 hX35 hf => ?_)
  have t36 := (sg_O_sx t31 t28 (by decide)).X hX35
  have t37 := (sg_O_sealed t28).X hX35
  have hX38 := (sg_X_sx (hX32) hn30).tr hX35
  obtain ⟨s39, e40⟩ : ∃ z : sg_M, z = sg_up s34 o 1 o24 := ⟨_, rfl⟩
  have hf := hf s39 e40
  refine gw_put5F F t36 (by decide) rfl sg_lay_RX5 (j := 1) (by decide) (D0 := tyX5 1) (fun _ => ⟨rfl, rfl⟩) t37.1 t37.2.1 e40 tyX5_ok nmX5 rfl hin rfl (tyX5_ok 1 (by decide)) rfl (host := "") kw_208 dX5_init_27 ?_
  refine gw_aload_n F 0 rfl rfl t36.1 dX5_init_30 ?_
  refine gy_new F (kd := 24) (T := TX4) (by decide) rfl sg_lay_RX4 tyX4_ok kw_190 kw_191 kw_97 ns_X4 nf_X4 nr_X4 (by decide) (by decide) (List.forall_mem_cons.mpr ⟨(Or.inl t36.2.1), (fun _ h => absurd h List.not_mem_nil)⟩) (List.forall_mem_cons.mpr ⟨(Or.inl t36.2.1), (fun _ h => absurd h List.not_mem_nil)⟩) dX5_init_31 (fun q41 La42 s43 o44 e45 e46 e47 t48 hX49 => ?_)
  have hf := hf q41 La42 e45 s43 e46 o44 e47
  have hn50 : La.1 ≤ o44.toNat := by rw [e47, Int.toNat_natCast]; exact (hX38 : sg_X La La33).1
  have t51 := t36.X hX49
  have hX52 := sg_X.tr (hX38) hX49
  refine gw_dup F rfl dX5_init_34 ?_
  refine gw_bipush F rfl dX5_init_35 ?_
  refine gk_BV F (gc_I F (S := [sg_r o44, sg_r o]) (As := [sg_i 40]) (CX4_init t48 (by decide) hf) t48.1 kw_194 kw_97 kw_192 kw_193 rfl hcX4_init ⟨by decide, by decide⟩ rfl rfl (Nat.le_of_ble_eq_true rfl) ⟨by decide, by decide⟩ dX5_init_37) (List.forall_mem_cons.mpr ⟨(Or.inl t51.2.1), (fun _ h => absurd h List.not_mem_nil)⟩) (List.forall_mem_cons.mpr ⟨(Or.inl t48.2.1), (List.forall_mem_cons.mpr ⟨(Or.inl t51.2.1), (fun _ h => absurd h List.not_mem_nil)⟩)⟩) (fun La53 s54 hX55 hf => ?_)
  have t56 := (sg_O_sx t51 t48 (by decide)).X hX55
  have t57 := (sg_O_sealed t48).X hX55
  have hX58 := (sg_X_sx (hX52) hn50).tr hX55
  obtain ⟨s59, e60⟩ : ∃ z : sg_M, z = sg_up s54 o 2 o44 := ⟨_, rfl⟩
  have hf := hf s59 e60
  refine gw_put5F F t56 (by decide) rfl sg_lay_RX5 (j := 2) (by decide) (D0 := tyX5 2) (fun _ => ⟨rfl, rfl⟩) t57.1 t57.2.1 e60 tyX5_ok nmX5 rfl hin rfl (tyX5_ok 2 (by decide)) rfl (host := "") kw_209 dX5_init_40 ?_
  refine gw_aload_n F 0 rfl rfl t56.1 dX5_init_43 ?_
  refine gw_iconst F dX5_init_44 ?_
  obtain ⟨s61, e62⟩ : ∃ z : sg_M, z = sg_up s59 o 3 0 := ⟨_, rfl⟩
  have hf := hf s61 e62
  refine gw_put0 F t56 (by decide) rfl sg_lay_RX5 (j := 3) (by decide) (by decide) e62 tyX5_ok nmX5 rfl (tyX5_ok 3 (by decide)) rfl (host := "") (.inl kw_210) dX5_init_45 ?_
  obtain ⟨g64, hf⟩ := hf
  obtain ⟨La63, e65⟩ : ∃ z : sg_L, z = sg_se La53 o.toNat 5 := ⟨_, rfl⟩
  have hf := hf La63 e65
  refine gy_seal t56 ⟨by decide, by decide, by decide⟩ (by decide) (by decide) g64 e65 ?_
  exact gr_BC F (o := o.toNat) (kd := 5) hf (by rw [e65]; exact sg_X.both hX58) (by decide) (by decide) dX5_init_48

theorem dX8_init_0 : decode cX8_init 0 = .ok (.aload_n 0, 1) := by decide +kernel
theorem dX8_init_1 : decode cX8_init 1 = .ok (.invokespecial 3, 3) := by decide +kernel
theorem dX8_init_4 : decode cX8_init 4 = .ok (.aload_n 0, 1) := by decide +kernel
theorem dX8_init_5 : decode cX8_init 5 = .ok (.sipush 540, 3) := by decide +kernel
theorem dX8_init_8 : decode cX8_init 8 = .ok (.newarray .int, 2) := by decide +kernel
theorem dX8_init_10 : decode cX8_init 10 = .ok (.putfield 9, 3) := by decide +kernel
theorem dX8_init_13 : decode cX8_init 13 = .ok (.aload_n 0, 1) := by decide +kernel
theorem dX8_init_14 : decode cX8_init 14 = .ok (.iconst 0, 1) := by decide +kernel
theorem dX8_init_15 : decode cX8_init 15 = .ok (.putfield 15, 3) := by decide +kernel
theorem dX8_init_18 : decode cX8_init 18 = .ok (.return_, 1) := by decide +kernel
theorem hcX8_init : yX8_init.cls ≠ "java/lang/invoke/MethodHandle" ∧ yX8_init.cls ≠ "java/lang/invoke/VarHandle" ∧ (parseMethodDescriptor yX8_init.desc).map (fun d => d.parameters.length) = some 0 := ⟨by decide +kernel, by decide +kernel, by decide +kernel⟩
def fX8_init (La : sg_L) (s0 : sg_M) (o : Int) (Q : sg_L → sg_M → Prop) : Prop := ∀ (q1 : Nat) (La2 : sg_L), La2 = sg_pu La 10540 q1 → ∀ s3 : sg_M, s3 = sg_nw s0 La.1 10540 → ∀ o4 : Int, o4 = (La.1 : Int) → ∀ s14 : sg_M, s14 = sg_up s3 o 0 o4 → ∀ s16 : sg_M, s16 = sg_up s14 o 1 0 → sg_sealed La2 s16 o 28 8 ∧ ∀ La18 : sg_L, La18 = sg_se La2 o.toNat 8 → Q La18 s16
set_option maxHeartbeats 4000000 in
set_option maxRecDepth 100000 in
theorem CX8_init {l : Launch} {G : sg_G} {La : sg_L} {s0 : sg_M} {o : Int} (to : sg_O La o 28) {Q : sg_L → sg_M → Prop} (hf : fX8_init La s0 o Q) : sg_C l G yX8_init cX8_init 1 (none) 1 1 540 La s0 [sg_r o] (sg_BV (sg_se La o.toNat 8) Q) := by
  refine sg_body (by decide +kernel) (Nat.le_of_ble_eq_true rfl) ?_
  intro p e s m args below meth c F hnm
  unfold fX8_init at hf
  show sg_W p l e (sg_rm 1 1 540) s m args below meth c (MQ below (sg_Q (none) G La s.heap.size (sg_BV (sg_se La o.toNat 8) Q)) args s 1 540 (sg_A La s.heap.size)) 1 G (sg_A La s.heap.size) La s0 0 0 0 [(0, sg_r o)] []
  have hin : meth.name = "<init>" := hnm
  refine gw_aload_n F 0 rfl rfl to.1 dX8_init_0 ?_
  refine gw_objInit F to.1 kw_125 kw_OI kw_OC (Nat.le_of_ble_eq_true rfl) (by decide) (by decide) dX8_init_1 ?_
  refine gw_aload_n F 0 rfl rfl to.1 dX8_init_4 ?_
  refine gw_sipush F rfl dX8_init_5 ?_
  refine gy_newI F (N := 540) kw_131 rfl (by decide) (by decide) (by decide) (List.forall_mem_cons.mpr ⟨(Or.inl to.2.1), (fun _ h => absurd h List.not_mem_nil)⟩) (List.forall_mem_cons.mpr ⟨(Or.inl to.2.1), (fun _ h => absurd h List.not_mem_nil)⟩) dX8_init_8 (fun q1 La2 s3 o4 e5 e6 e7 t8 hX9 => ?_)
  have hf := hf q1 La2 e5 s3 e6 o4 e7
  have hn10 : La.1 ≤ o4.toNat := by rw [e7, Int.toNat_natCast]; exact (sg_X.rf : sg_X La La).1
  have t11 := to.X hX9
  have hX12 := sg_X.tr (sg_X.rf) hX9
  have t13 := sg_AN_of (n := 540) t8 (by decide) (by decide) (by decide)
  obtain ⟨s14, e15⟩ : ∃ z : sg_M, z = sg_up s3 o 0 o4 := ⟨_, rfl⟩
  have hf := hf s14 e15
  refine gw_put5F F t11 (by decide) rfl sg_lay_RX8 (j := 0) (by decide) (D0 := tyX8 0) (fun _ => ⟨rfl, rfl⟩) t13.1 t13.2.1 e15 tyX8_ok nmX8 rfl hin rfl (tyX8_ok 0 (by decide)) rfl (host := "") kw_126 dX8_init_10 ?_
  refine gw_aload_n F 0 rfl rfl t11.1 dX8_init_13 ?_
  refine gw_iconst F dX8_init_14 ?_
  obtain ⟨s16, e17⟩ : ∃ z : sg_M, z = sg_up s14 o 1 0 := ⟨_, rfl⟩
  have hf := hf s16 e17
  refine gw_put0 F t11 (by decide) rfl sg_lay_RX8 (j := 1) (by decide) (by decide) e17 tyX8_ok nmX8 rfl (tyX8_ok 1 (by decide)) rfl (host := "") (.inl kw_127) dX8_init_15 ?_
  obtain ⟨g19, hf⟩ := hf
  obtain ⟨La18, e20⟩ : ∃ z : sg_L, z = sg_se La2 o.toNat 8 := ⟨_, rfl⟩
  have hf := hf La18 e20
  refine gy_seal t11 ⟨by decide, by decide, by decide⟩ (by decide) (by decide) g19 e20 ?_
  exact gr_BC F (o := o.toNat) (kd := 8) hf (by rw [e20]; exact sg_X.both hX12) (by decide) (by decide) dX8_init_18

theorem dX10_init_0 : decode cX10_init 0 = .ok (.aload_n 0, 1) := by decide +kernel
theorem dX10_init_1 : decode cX10_init 1 = .ok (.invokespecial 3, 3) := by decide +kernel
theorem dX10_init_4 : decode cX10_init 4 = .ok (.aload_n 0, 1) := by decide +kernel
theorem dX10_init_5 : decode cX10_init 5 = .ok (.new 9, 3) := by decide +kernel
theorem dX10_init_8 : decode cX10_init 8 = .ok (.dup, 1) := by decide +kernel
theorem dX10_init_9 : decode cX10_init 9 = .ok (.bipush 60, 2) := by decide +kernel
theorem dX10_init_11 : decode cX10_init 11 = .ok (.invokespecial 11, 3) := by decide +kernel
theorem dX10_init_14 : decode cX10_init 14 = .ok (.putfield 14, 3) := by decide +kernel
theorem dX10_init_17 : decode cX10_init 17 = .ok (.aload_n 0, 1) := by decide +kernel
theorem dX10_init_18 : decode cX10_init 18 = .ok (.iconst 0, 1) := by decide +kernel
theorem dX10_init_19 : decode cX10_init 19 = .ok (.putfield 20, 3) := by decide +kernel
theorem dX10_init_22 : decode cX10_init 22 = .ok (.aload_n 0, 1) := by decide +kernel
theorem dX10_init_23 : decode cX10_init 23 = .ok (.iconst 0, 1) := by decide +kernel
theorem dX10_init_24 : decode cX10_init 24 = .ok (.putfield 24, 3) := by decide +kernel
theorem dX10_init_27 : decode cX10_init 27 = .ok (.aload_n 0, 1) := by decide +kernel
theorem dX10_init_28 : decode cX10_init 28 = .ok (.iconst 0, 1) := by decide +kernel
theorem dX10_init_29 : decode cX10_init 29 = .ok (.putfield 27, 3) := by decide +kernel
theorem dX10_init_32 : decode cX10_init 32 = .ok (.aload_n 0, 1) := by decide +kernel
theorem dX10_init_33 : decode cX10_init 33 = .ok (.iconst 0, 1) := by decide +kernel
theorem dX10_init_34 : decode cX10_init 34 = .ok (.putfield 30, 3) := by decide +kernel
theorem dX10_init_37 : decode cX10_init 37 = .ok (.aload_n 0, 1) := by decide +kernel
theorem dX10_init_38 : decode cX10_init 38 = .ok (.iconst 0, 1) := by decide +kernel
theorem dX10_init_39 : decode cX10_init 39 = .ok (.putfield 33, 3) := by decide +kernel
theorem dX10_init_42 : decode cX10_init 42 = .ok (.aload_n 0, 1) := by decide +kernel
theorem dX10_init_43 : decode cX10_init 43 = .ok (.iconst 0, 1) := by decide +kernel
theorem dX10_init_44 : decode cX10_init 44 = .ok (.putfield 37, 3) := by decide +kernel
theorem dX10_init_47 : decode cX10_init 47 = .ok (.return_, 1) := by decide +kernel
theorem hcX10_init : yX10_init.cls ≠ "java/lang/invoke/MethodHandle" ∧ yX10_init.cls ≠ "java/lang/invoke/VarHandle" ∧ (parseMethodDescriptor yX10_init.desc).map (fun d => d.parameters.length) = some 0 := ⟨by decide +kernel, by decide +kernel, by decide +kernel⟩
def fX10_init (La : sg_L) (s0 : sg_M) (o : Int) (Q : sg_L → sg_M → Prop) : Prop := ∀ (q1 : Nat) (La2 : sg_L), La2 = sg_pu La 24 q1 → ∀ s3 : sg_M, s3 = sg_nw s0 La.1 24 → ∀ o4 : Int, o4 = (La.1 : Int) → fX4_init La2 s3 o4 60 (fun La13 s14 => ∀ s19 : sg_M, s19 = sg_up s14 o 0 o4 → ∀ s21 : sg_M, s21 = sg_up s19 o 1 0 → ∀ s23 : sg_M, s23 = sg_up s21 o 2 0 → ∀ s25 : sg_M, s25 = sg_up s23 o 3 0 → ∀ s27 : sg_M, s27 = sg_up s25 o 4 0 → ∀ s29 : sg_M, s29 = sg_up s27 o 5 0 → ∀ s31 : sg_M, s31 = sg_up s29 o 6 0 → sg_sealed La13 s31 o 30 10 ∧ ∀ La33 : sg_L, La33 = sg_se La13 o.toNat 10 → Q La33 s31)
set_option maxHeartbeats 4000000 in
set_option maxRecDepth 100000 in
theorem CX10_init {l : Launch} {G : sg_G} {La : sg_L} {s0 : sg_M} {o : Int} (to : sg_O La o 30) {Q : sg_L → sg_M → Prop} (hf : fX10_init La s0 o Q) : sg_C l G yX10_init cX10_init 1 (none) 2 2 203 La s0 [sg_r o] (sg_BV (sg_se La o.toNat 10) Q) := by
  refine sg_body (by decide +kernel) (Nat.le_of_ble_eq_true rfl) ?_
  intro p e s m args below meth c F hnm
  unfold fX10_init at hf
  show sg_W p l e (sg_rm 2 2 203) s m args below meth c (MQ below (sg_Q (none) G La s.heap.size (sg_BV (sg_se La o.toNat 10) Q)) args s 2 203 (sg_A La s.heap.size)) 1 G (sg_A La s.heap.size) La s0 0 0 0 [(0, sg_r o)] []
  have hin : meth.name = "<init>" := hnm
  refine gw_aload_n F 0 rfl rfl to.1 dX10_init_0 ?_
  refine gw_objInit F to.1 kw_280 kw_OI kw_OC (Nat.le_of_ble_eq_true rfl) (by decide) (by decide) dX10_init_1 ?_
  refine gw_aload_n F 0 rfl rfl to.1 dX10_init_4 ?_
  refine gy_new F (kd := 24) (T := TX4) (by decide) rfl sg_lay_RX4 tyX4_ok kw_281 kw_191 kw_97 ns_X4 nf_X4 nr_X4 (by decide) (by decide) (List.forall_mem_cons.mpr ⟨(Or.inl to.2.1), (fun _ h => absurd h List.not_mem_nil)⟩) (List.forall_mem_cons.mpr ⟨(Or.inl to.2.1), (fun _ h => absurd h List.not_mem_nil)⟩) dX10_init_5 (fun q1 La2 s3 o4 e5 e6 e7 t8 hX9 => ?_)
  have hf := hf q1 La2 e5 s3 e6 o4 e7
  have hn10 : La.1 ≤ o4.toNat := by rw [e7, Int.toNat_natCast]; exact (sg_X.rf : sg_X La La).1
  have t11 := to.X hX9
  have hX12 := sg_X.tr (sg_X.rf) hX9
  refine gw_dup F rfl dX10_init_8 ?_
  refine gw_bipush F rfl dX10_init_9 ?_
  refine gk_BV F (gc_I F (S := [sg_r o4, sg_r o]) (As := [sg_i 60]) (CX4_init t8 (by decide) hf) t8.1 kw_194 kw_97 kw_282 kw_193 rfl hcX4_init ⟨by decide, by decide⟩ rfl rfl (Nat.le_of_ble_eq_true rfl) ⟨by decide, by decide⟩ dX10_init_11) (List.forall_mem_cons.mpr ⟨(Or.inl t11.2.1), (fun _ h => absurd h List.not_mem_nil)⟩) (List.forall_mem_cons.mpr ⟨(Or.inl t8.2.1), (List.forall_mem_cons.mpr ⟨(Or.inl t11.2.1), (fun _ h => absurd h List.not_mem_nil)⟩)⟩) (fun La13 s14 hX15 hf => ?_)
  have t16 := (sg_O_sx t11 t8 (by decide)).X hX15
  have t17 := (sg_O_sealed t8).X hX15
  have hX18 := (sg_X_sx (hX12) hn10).tr hX15
  obtain ⟨s19, e20⟩ : ∃ z : sg_M, z = sg_up s14 o 0 o4 := ⟨_, rfl⟩
  have hf := hf s19 e20
  refine gw_put5F F t16 (by decide) rfl sg_lay_RX10 (j := 0) (by decide) (D0 := tyX10 0) (fun _ => ⟨rfl, rfl⟩) t17.1 t17.2.1 e20 tyX10_ok nmX10 rfl hin rfl (tyX10_ok 0 (by decide)) rfl (host := "") kw_283 dX10_init_14 ?_
  refine gw_aload_n F 0 rfl rfl t16.1 dX10_init_17 ?_
  refine gw_iconst F dX10_init_18 ?_
  obtain ⟨s21, e22⟩ : ∃ z : sg_M, z = sg_up s19 o 1 0 := ⟨_, rfl⟩
  have hf := hf s21 e22
  refine gw_put0 F t16 (by decide) rfl sg_lay_RX10 (j := 1) (by decide) (by decide) e22 tyX10_ok nmX10 rfl (tyX10_ok 1 (by decide)) rfl (host := "") (.inl kw_286) dX10_init_19 ?_
  refine gw_aload_n F 0 rfl rfl t16.1 dX10_init_22 ?_
  refine gw_iconst F dX10_init_23 ?_
  obtain ⟨s23, e24⟩ : ∃ z : sg_M, z = sg_up s21 o 2 0 := ⟨_, rfl⟩
  have hf := hf s23 e24
  refine gw_put0 F t16 (by decide) rfl sg_lay_RX10 (j := 2) (by decide) (by decide) e24 tyX10_ok nmX10 rfl (tyX10_ok 2 (by decide)) rfl (host := "") (.inl kw_289) dX10_init_24 ?_
  refine gw_aload_n F 0 rfl rfl t16.1 dX10_init_27 ?_
  refine gw_iconst F dX10_init_28 ?_
  obtain ⟨s25, e26⟩ : ∃ z : sg_M, z = sg_up s23 o 3 0 := ⟨_, rfl⟩
  have hf := hf s25 e26
  refine gw_put0 F t16 (by decide) rfl sg_lay_RX10 (j := 3) (by decide) (by decide) e26 tyX10_ok nmX10 rfl (tyX10_ok 3 (by decide)) rfl (host := "") (.inl kw_292) dX10_init_29 ?_
  refine gw_aload_n F 0 rfl rfl t16.1 dX10_init_32 ?_
  refine gw_iconst F dX10_init_33 ?_
  obtain ⟨s27, e28⟩ : ∃ z : sg_M, z = sg_up s25 o 4 0 := ⟨_, rfl⟩
  have hf := hf s27 e28
  refine gw_put0 F t16 (by decide) rfl sg_lay_RX10 (j := 4) (by decide) (by decide) e28 tyX10_ok nmX10 rfl (tyX10_ok 4 (by decide)) rfl (host := "") (.inl kw_295) dX10_init_34 ?_
  refine gw_aload_n F 0 rfl rfl t16.1 dX10_init_37 ?_
  refine gw_iconst F dX10_init_38 ?_
  obtain ⟨s29, e30⟩ : ∃ z : sg_M, z = sg_up s27 o 5 0 := ⟨_, rfl⟩
  have hf := hf s29 e30
  refine gw_put1 F t16 (by decide) rfl sg_lay_RX10 (j := 5) (by decide) (by decide) e30 tyX10_ok nmX10 rfl (tyX10_ok 5 (by decide)) rfl (host := "") (.inl kw_298) dX10_init_39 ?_
  refine gw_aload_n F 0 rfl rfl t16.1 dX10_init_42 ?_
  refine gw_iconst F dX10_init_43 ?_
  obtain ⟨s31, e32⟩ : ∃ z : sg_M, z = sg_up s29 o 6 0 := ⟨_, rfl⟩
  have hf := hf s31 e32
  refine gw_put1 F t16 (by decide) rfl sg_lay_RX10 (j := 6) (by decide) (by decide) e32 tyX10_ok nmX10 rfl (tyX10_ok 6 (by decide)) rfl (host := "") (.inl kw_301) dX10_init_44 ?_
  obtain ⟨g34, hf⟩ := hf
  obtain ⟨La33, e35⟩ : ∃ z : sg_L, z = sg_se La13 o.toNat 10 := ⟨_, rfl⟩
  have hf := hf La33 e35
  refine gy_seal t16 ⟨by decide, by decide, by decide⟩ (by decide) (by decide) g34 e35 ?_
  exact gr_BC F (o := o.toNat) (kd := 10) hf (by rw [e35]; exact sg_X.both hX18) (by decide) (by decide) dX10_init_47

theorem dX11_init_0 : decode cX11_init 0 = .ok (.aload_n 0, 1) := by decide +kernel
theorem dX11_init_1 : decode cX11_init 1 = .ok (.invokespecial 1, 3) := by decide +kernel
theorem dX11_init_4 : decode cX11_init 4 = .ok (.aload_n 0, 1) := by decide +kernel
theorem dX11_init_5 : decode cX11_init 5 = .ok (.new 7, 3) := by decide +kernel
theorem dX11_init_8 : decode cX11_init 8 = .ok (.dup, 1) := by decide +kernel
theorem dX11_init_9 : decode cX11_init 9 = .ok (.invokespecial 9, 3) := by decide +kernel
theorem dX11_init_12 : decode cX11_init 12 = .ok (.putfield 10, 3) := by decide +kernel
theorem dX11_init_15 : decode cX11_init 15 = .ok (.aload_n 0, 1) := by decide +kernel
theorem dX11_init_16 : decode cX11_init 16 = .ok (.new 16, 3) := by decide +kernel
theorem dX11_init_19 : decode cX11_init 19 = .ok (.dup, 1) := by decide +kernel
theorem dX11_init_20 : decode cX11_init 20 = .ok (.aload_n 0, 1) := by decide +kernel
theorem dX11_init_21 : decode cX11_init 21 = .ok (.getfield 10, 3) := by decide +kernel
theorem dX11_init_24 : decode cX11_init 24 = .ok (.invokespecial 18, 3) := by decide +kernel
theorem dX11_init_27 : decode cX11_init 27 = .ok (.putfield 21, 3) := by decide +kernel
theorem dX11_init_30 : decode cX11_init 30 = .ok (.aload_n 0, 1) := by decide +kernel
theorem dX11_init_31 : decode cX11_init 31 = .ok (.new 25, 3) := by decide +kernel
theorem dX11_init_34 : decode cX11_init 34 = .ok (.dup, 1) := by decide +kernel
theorem dX11_init_35 : decode cX11_init 35 = .ok (.new 27, 3) := by decide +kernel
theorem dX11_init_38 : decode cX11_init 38 = .ok (.dup, 1) := by decide +kernel
theorem dX11_init_39 : decode cX11_init 39 = .ok (.invokespecial 29, 3) := by decide +kernel
theorem dX11_init_42 : decode cX11_init 42 = .ok (.new 30, 3) := by decide +kernel
theorem dX11_init_45 : decode cX11_init 45 = .ok (.dup, 1) := by decide +kernel
theorem dX11_init_46 : decode cX11_init 46 = .ok (.invokespecial 32, 3) := by decide +kernel
theorem dX11_init_49 : decode cX11_init 49 = .ok (.new 33, 3) := by decide +kernel
theorem dX11_init_52 : decode cX11_init 52 = .ok (.dup, 1) := by decide +kernel
theorem dX11_init_53 : decode cX11_init 53 = .ok (.invokespecial 35, 3) := by decide +kernel
theorem dX11_init_56 : decode cX11_init 56 = .ok (.invokespecial 36, 3) := by decide +kernel
theorem dX11_init_59 : decode cX11_init 59 = .ok (.putfield 39, 3) := by decide +kernel
theorem dX11_init_62 : decode cX11_init 62 = .ok (.aload_n 0, 1) := by decide +kernel
theorem dX11_init_63 : decode cX11_init 63 = .ok (.iconst 2, 1) := by decide +kernel
theorem dX11_init_64 : decode cX11_init 64 = .ok (.anewarray 25, 3) := by decide +kernel
theorem dX11_init_67 : decode cX11_init 67 = .ok (.putfield 43, 3) := by decide +kernel
theorem dX11_init_70 : decode cX11_init 70 = .ok (.aload_n 0, 1) := by decide +kernel
theorem dX11_init_71 : decode cX11_init 71 = .ok (.new 27, 3) := by decide +kernel
theorem dX11_init_74 : decode cX11_init 74 = .ok (.dup, 1) := by decide +kernel
theorem dX11_init_75 : decode cX11_init 75 = .ok (.invokespecial 29, 3) := by decide +kernel
theorem dX11_init_78 : decode cX11_init 78 = .ok (.putfield 47, 3) := by decide +kernel
theorem dX11_init_81 : decode cX11_init 81 = .ok (.aload_n 0, 1) := by decide +kernel
theorem dX11_init_82 : decode cX11_init 82 = .ok (.new 51, 3) := by decide +kernel
theorem dX11_init_85 : decode cX11_init 85 = .ok (.dup, 1) := by decide +kernel
theorem dX11_init_86 : decode cX11_init 86 = .ok (.invokespecial 53, 3) := by decide +kernel
theorem dX11_init_89 : decode cX11_init 89 = .ok (.putfield 54, 3) := by decide +kernel
theorem dX11_init_92 : decode cX11_init 92 = .ok (.aload_n 0, 1) := by decide +kernel
theorem dX11_init_93 : decode cX11_init 93 = .ok (.new 58, 3) := by decide +kernel
theorem dX11_init_96 : decode cX11_init 96 = .ok (.dup, 1) := by decide +kernel
theorem dX11_init_97 : decode cX11_init 97 = .ok (.invokespecial 60, 3) := by decide +kernel
theorem dX11_init_100 : decode cX11_init 100 = .ok (.putfield 61, 3) := by decide +kernel
theorem dX11_init_103 : decode cX11_init 103 = .ok (.aload_n 0, 1) := by decide +kernel
theorem dX11_init_104 : decode cX11_init 104 = .ok (.new 58, 3) := by decide +kernel
theorem dX11_init_107 : decode cX11_init 107 = .ok (.dup, 1) := by decide +kernel
theorem dX11_init_108 : decode cX11_init 108 = .ok (.invokespecial 60, 3) := by decide +kernel
theorem dX11_init_111 : decode cX11_init 111 = .ok (.putfield 65, 3) := by decide +kernel
theorem dX11_init_114 : decode cX11_init 114 = .ok (.aload_n 0, 1) := by decide +kernel
theorem dX11_init_115 : decode cX11_init 115 = .ok (.new 58, 3) := by decide +kernel
theorem dX11_init_118 : decode cX11_init 118 = .ok (.dup, 1) := by decide +kernel
theorem dX11_init_119 : decode cX11_init 119 = .ok (.invokespecial 60, 3) := by decide +kernel
theorem dX11_init_122 : decode cX11_init 122 = .ok (.putfield 68, 3) := by decide +kernel
theorem dX11_init_125 : decode cX11_init 125 = .ok (.aload_n 0, 1) := by decide +kernel
theorem dX11_init_126 : decode cX11_init 126 = .ok (.new 71, 3) := by decide +kernel
theorem dX11_init_129 : decode cX11_init 129 = .ok (.dup, 1) := by decide +kernel
theorem dX11_init_130 : decode cX11_init 130 = .ok (.invokespecial 73, 3) := by decide +kernel
theorem dX11_init_133 : decode cX11_init 133 = .ok (.putfield 74, 3) := by decide +kernel
theorem dX11_init_136 : decode cX11_init 136 = .ok (.aload_n 0, 1) := by decide +kernel
theorem dX11_init_137 : decode cX11_init 137 = .ok (.new 78, 3) := by decide +kernel
theorem dX11_init_140 : decode cX11_init 140 = .ok (.dup, 1) := by decide +kernel
theorem dX11_init_141 : decode cX11_init 141 = .ok (.bipush 40, 2) := by decide +kernel
theorem dX11_init_143 : decode cX11_init 143 = .ok (.invokespecial 80, 3) := by decide +kernel
theorem dX11_init_146 : decode cX11_init 146 = .ok (.putfield 83, 3) := by decide +kernel
theorem dX11_init_149 : decode cX11_init 149 = .ok (.aload_n 0, 1) := by decide +kernel
theorem dX11_init_150 : decode cX11_init 150 = .ok (.new 78, 3) := by decide +kernel
theorem dX11_init_153 : decode cX11_init 153 = .ok (.dup, 1) := by decide +kernel
theorem dX11_init_154 : decode cX11_init 154 = .ok (.bipush 21, 2) := by decide +kernel
theorem dX11_init_156 : decode cX11_init 156 = .ok (.invokespecial 80, 3) := by decide +kernel
theorem dX11_init_159 : decode cX11_init 159 = .ok (.putfield 87, 3) := by decide +kernel
theorem dX11_init_162 : decode cX11_init 162 = .ok (.aload_n 0, 1) := by decide +kernel
theorem dX11_init_163 : decode cX11_init 163 = .ok (.new 78, 3) := by decide +kernel
theorem dX11_init_166 : decode cX11_init 166 = .ok (.dup, 1) := by decide +kernel
theorem dX11_init_167 : decode cX11_init 167 = .ok (.bipush 101, 2) := by decide +kernel
theorem dX11_init_169 : decode cX11_init 169 = .ok (.invokespecial 80, 3) := by decide +kernel
theorem dX11_init_172 : decode cX11_init 172 = .ok (.putfield 90, 3) := by decide +kernel
theorem dX11_init_175 : decode cX11_init 175 = .ok (.aload_n 0, 1) := by decide +kernel
theorem dX11_init_176 : decode cX11_init 176 = .ok (.new 78, 3) := by decide +kernel
theorem dX11_init_179 : decode cX11_init 179 = .ok (.dup, 1) := by decide +kernel
theorem dX11_init_180 : decode cX11_init 180 = .ok (.bipush 40, 2) := by decide +kernel
theorem dX11_init_182 : decode cX11_init 182 = .ok (.invokespecial 80, 3) := by decide +kernel
theorem dX11_init_185 : decode cX11_init 185 = .ok (.putfield 93, 3) := by decide +kernel
theorem dX11_init_188 : decode cX11_init 188 = .ok (.aload_n 0, 1) := by decide +kernel
theorem dX11_init_189 : decode cX11_init 189 = .ok (.new 78, 3) := by decide +kernel
theorem dX11_init_192 : decode cX11_init 192 = .ok (.dup, 1) := by decide +kernel
theorem dX11_init_193 : decode cX11_init 193 = .ok (.bipush 40, 2) := by decide +kernel
theorem dX11_init_195 : decode cX11_init 195 = .ok (.invokespecial 80, 3) := by decide +kernel
theorem dX11_init_198 : decode cX11_init 198 = .ok (.putfield 96, 3) := by decide +kernel
theorem dX11_init_201 : decode cX11_init 201 = .ok (.aload_n 0, 1) := by decide +kernel
theorem dX11_init_202 : decode cX11_init 202 = .ok (.new 78, 3) := by decide +kernel
theorem dX11_init_205 : decode cX11_init 205 = .ok (.dup, 1) := by decide +kernel
theorem dX11_init_206 : decode cX11_init 206 = .ok (.sipush 200, 3) := by decide +kernel
theorem dX11_init_209 : decode cX11_init 209 = .ok (.invokespecial 80, 3) := by decide +kernel
theorem dX11_init_212 : decode cX11_init 212 = .ok (.putfield 99, 3) := by decide +kernel
theorem dX11_init_215 : decode cX11_init 215 = .ok (.aload_n 0, 1) := by decide +kernel
theorem dX11_init_216 : decode cX11_init 216 = .ok (.iconst 0, 1) := by decide +kernel
theorem dX11_init_217 : decode cX11_init 217 = .ok (.putfield 102, 3) := by decide +kernel
theorem dX11_init_220 : decode cX11_init 220 = .ok (.aload_n 0, 1) := by decide +kernel
theorem dX11_init_221 : decode cX11_init 221 = .ok (.iconst 0, 1) := by decide +kernel
theorem dX11_init_222 : decode cX11_init 222 = .ok (.putfield 106, 3) := by decide +kernel
theorem dX11_init_225 : decode cX11_init 225 = .ok (.aload_n 0, 1) := by decide +kernel
theorem dX11_init_226 : decode cX11_init 226 = .ok (.iconst (-1), 1) := by decide +kernel
theorem dX11_init_227 : decode cX11_init 227 = .ok (.putfield 109, 3) := by decide +kernel
theorem dX11_init_230 : decode cX11_init 230 = .ok (.aload_n 0, 1) := by decide +kernel
theorem dX11_init_231 : decode cX11_init 231 = .ok (.getfield 39, 3) := by decide +kernel
theorem dX11_init_234 : decode cX11_init 234 = .ok (.getfield 112, 3) := by decide +kernel
theorem dX11_init_237 : decode cX11_init 237 = .ok (.iconst 3, 1) := by decide +kernel
theorem dX11_init_238 : decode cX11_init 238 = .ok (.bipush 30, 2) := by decide +kernel
theorem dX11_init_240 : decode cX11_init 240 = .ok (.iconst 5, 1) := by decide +kernel
theorem dX11_init_241 : decode cX11_init 241 = .ok (.iconst 0, 1) := by decide +kernel
theorem dX11_init_242 : decode cX11_init 242 = .ok (.iconst 0, 1) := by decide +kernel
theorem dX11_init_243 : decode cX11_init 243 = .ok (.invokevirtual 115, 3) := by decide +kernel
theorem dX11_init_246 : decode cX11_init 246 = .ok (.aload_n 0, 1) := by decide +kernel
theorem dX11_init_247 : decode cX11_init 247 = .ok (.getfield 39, 3) := by decide +kernel
theorem dX11_init_250 : decode cX11_init 250 = .ok (.getfield 112, 3) := by decide +kernel
theorem dX11_init_253 : decode cX11_init 253 = .ok (.invokevirtual 119, 3) := by decide +kernel
theorem dX11_init_256 : decode cX11_init 256 = .ok (.return_, 1) := by decide +kernel
theorem hcX11_init : yX11_init.cls ≠ "java/lang/invoke/MethodHandle" ∧ yX11_init.cls ≠ "java/lang/invoke/VarHandle" ∧ (parseMethodDescriptor yX11_init.desc).map (fun d => d.parameters.length) = some 0 := ⟨by decide +kernel, by decide +kernel, by decide +kernel⟩
def fX11_init (La : sg_L) (s0 : sg_M) (o : Int) (Q : sg_L → sg_M → Prop) : Prop := ∀ (q1 : Nat) (La2 : sg_L), La2 = sg_pu La 28 q1 → ∀ s3 : sg_M, s3 = sg_nw s0 La.1 28 → ∀ o4 : Int, o4 = (La.1 : Int) → fX8_init La2 s3 o4 (fun La14 s15 => ∀ s21 : sg_M, s21 = sg_up s15 o 0 o4 → ∀ (q23 : Nat) (La24 : sg_L), La24 = sg_pu La14 29 q23 → ∀ s25 : sg_M, s25 = sg_nw s21 La14.1 29 → ∀ o26 : Int, o26 = (La14.1 : Int) → (sg_O La24 (s25 o 0) 8) ∧ fX9_init La24 s25 o26 (s25 o 0) (fun La38 s39 => ∀ s45 : sg_M, s45 = sg_up s39 o 1 o26 → ∀ (q47 : Nat) (La48 : sg_L), La48 = sg_pu La38 47 q47 → ∀ s49 : sg_M, s49 = sg_nw s45 La38.1 47 → ∀ o50 : Int, o50 = (La38.1 : Int) → ∀ (q60 : Nat) (La61 : sg_L), La61 = sg_pu La48 21 q60 → ∀ s62 : sg_M, s62 = sg_nw s49 La48.1 21 → ∀ o63 : Int, o63 = (La48.1 : Int) → fX1_init La61 s62 o63 (fun La74 s75 => ∀ (q82 : Nat) (La83 : sg_L), La83 = sg_pu La74 23 q82 → ∀ s84 : sg_M, s84 = sg_nw s75 La74.1 23 → ∀ o85 : Int, o85 = (La74.1 : Int) → fX3_init La83 s84 o85 (fun La97 s98 => ∀ (q106 : Nat) (La107 : sg_L), La107 = sg_pu La97 25 q106 → ∀ s108 : sg_M, s108 = sg_nw s98 La97.1 25 → ∀ o109 : Int, o109 = (La97.1 : Int) → fX5_init La107 s108 o109 (fun La122 s123 => fX7_init_A La122 s123 o50 o63 o85 o109 (fun La132 s133 => ∀ s139 : sg_M, s139 = sg_up s133 o 2 o50 → ∀ (q141 : Nat) (La142 : sg_L), La142 = sg_pu La132 40002 q141 → ∀ s143 : sg_M, s143 = sg_nw s139 La132.1 40002 → ∀ o144 : Int, o144 = (La132.1 : Int) → ∀ s154 : sg_M, s154 = sg_up s143 o 3 o144 → ∀ (q156 : Nat) (La157 : sg_L), La157 = sg_pu La142 21 q156 → ∀ s158 : sg_M, s158 = sg_nw s154 La142.1 21 → ∀ o159 : Int, o159 = (La142.1 : Int) → fX1_init La157 s158 o159 (fun La169 s170 => ∀ s176 : sg_M, s176 = sg_up s170 o 4 o159 → ∀ (q178 : Nat) (La179 : sg_L), La179 = sg_pu La169 20 q178 → ∀ s180 : sg_M, s180 = sg_nw s176 La169.1 20 → ∀ o181 : Int, o181 = (La169.1 : Int) → fX0_init La179 s180 o181 (fun La191 s192 => ∀ s198 : sg_M, s198 = sg_up s192 o 5 o181 → ∀ (q200 : Nat) (La201 : sg_L), La201 = sg_pu La191 30 q200 → ∀ s202 : sg_M, s202 = sg_nw s198 La191.1 30 → ∀ o203 : Int, o203 = (La191.1 : Int) → fX10_init La201 s202 o203 (fun La213 s214 => ∀ s220 : sg_M, s220 = sg_up s214 o 6 o203 → ∀ (q222 : Nat) (La223 : sg_L), La223 = sg_pu La213 30 q222 → ∀ s224 : sg_M, s224 = sg_nw s220 La213.1 30 → ∀ o225 : Int, o225 = (La213.1 : Int) → fX10_init La223 s224 o225 (fun La235 s236 => ∀ s242 : sg_M, s242 = sg_up s236 o 7 o225 → ∀ (q244 : Nat) (La245 : sg_L), La245 = sg_pu La235 30 q244 → ∀ s246 : sg_M, s246 = sg_nw s242 La235.1 30 → ∀ o247 : Int, o247 = (La235.1 : Int) → fX10_init La245 s246 o247 (fun La257 s258 => ∀ s264 : sg_M, s264 = sg_up s258 o 8 o247 → ∀ (q266 : Nat) (La267 : sg_L), La267 = sg_pu La257 26 q266 → ∀ s268 : sg_M, s268 = sg_nw s264 La257.1 26 → ∀ o269 : Int, o269 = (La257.1 : Int) → fX6_init La267 s268 o269 (fun La279 s280 => ∀ s286 : sg_M, s286 = sg_up s280 o 9 o269 → ∀ (q288 : Nat) (La289 : sg_L), La289 = sg_pu La279 24 q288 → ∀ s290 : sg_M, s290 = sg_nw s286 La279.1 24 → ∀ o291 : Int, o291 = (La279.1 : Int) → fX4_init La289 s290 o291 40 (fun La301 s302 => ∀ s308 : sg_M, s308 = sg_up s302 o 10 o291 → ∀ (q310 : Nat) (La311 : sg_L), La311 = sg_pu La301 24 q310 → ∀ s312 : sg_M, s312 = sg_nw s308 La301.1 24 → ∀ o313 : Int, o313 = (La301.1 : Int) → fX4_init La311 s312 o313 21 (fun La323 s324 => ∀ s330 : sg_M, s330 = sg_up s324 o 11 o313 → ∀ (q332 : Nat) (La333 : sg_L), La333 = sg_pu La323 24 q332 → ∀ s334 : sg_M, s334 = sg_nw s330 La323.1 24 → ∀ o335 : Int, o335 = (La323.1 : Int) → fX4_init La333 s334 o335 101 (fun La345 s346 => ∀ s352 : sg_M, s352 = sg_up s346 o 12 o335 → ∀ (q354 : Nat) (La355 : sg_L), La355 = sg_pu La345 24 q354 → ∀ s356 : sg_M, s356 = sg_nw s352 La345.1 24 → ∀ o357 : Int, o357 = (La345.1 : Int) → fX4_init La355 s356 o357 40 (fun La367 s368 => ∀ s374 : sg_M, s374 = sg_up s368 o 13 o357 → ∀ (q376 : Nat) (La377 : sg_L), La377 = sg_pu La367 24 q376 → ∀ s378 : sg_M, s378 = sg_nw s374 La367.1 24 → ∀ o379 : Int, o379 = (La367.1 : Int) → fX4_init La377 s378 o379 40 (fun La389 s390 => ∀ s396 : sg_M, s396 = sg_up s390 o 14 o379 → ∀ (q398 : Nat) (La399 : sg_L), La399 = sg_pu La389 24 q398 → ∀ s400 : sg_M, s400 = sg_nw s396 La389.1 24 → ∀ o401 : Int, o401 = (La389.1 : Int) → fX4_init La399 s400 o401 200 (fun La411 s412 => ∀ s418 : sg_M, s418 = sg_up s412 o 15 o401 → ∀ s420 : sg_M, s420 = sg_up s418 o 16 0 → ∀ s422 : sg_M, s422 = sg_up s420 o 17 0 → ∀ s424 : sg_M, s424 = sg_up s422 o 18 (-1) → (sg_O La411 (s424 o 2) 27) ∧ (0 ≤ (s424 (s424 o 2) 0)) ∧ fX1_addAlike s424 (s424 (s424 o 2) 0) 3 30 5 0 0 (fun s431 => (sg_O La411 (s431 o 2) 27) ∧ (0 ≤ (s431 (s431 o 2) 0)) ∧ fX1_fillUntold s431 (s431 (s431 o 2) 0) (fun s437 => sg_sealed La411 s437 o 31 11 ∧ ∀ La438 : sg_L, La438 = sg_se La411 o.toNat 11 → Q La438 s437))))))))))))))))))))
set_option maxHeartbeats 4000000 in
set_option maxRecDepth 100000 in
theorem CX11_init {l : Launch} {G : sg_G} {La : sg_L} {s0 : sg_M} (hst : sg_St La) {o : Int} (to : sg_O La o 31) {Q : sg_L → sg_M → Prop} (hf : fX11_init La s0 o Q) : sg_C l G yX11_init cX11_init 1 (none) 4 63 7473 La s0 [sg_r o] (sg_BV (sg_se La o.toNat 11) Q) := by
  refine sg_body (by decide +kernel) (Nat.le_of_ble_eq_true rfl) ?_
  intro p e s m args below meth c F hnm
  unfold fX11_init at hf
  show sg_W p l e (sg_rm 4 63 7473) s m args below meth c (MQ below (sg_Q (none) G La s.heap.size (sg_BV (sg_se La o.toNat 11) Q)) args s 63 7473 (sg_A La s.heap.size)) 1 G (sg_A La s.heap.size) La s0 0 0 0 [(0, sg_r o)] []
  have hin : meth.name = "<init>" := hnm
  refine gw_aload_n F 0 rfl rfl to.1 dX11_init_0 ?_
  refine gw_objInit F to.1 kw_117 kw_OI kw_OC (Nat.le_of_ble_eq_true rfl) (by decide) (by decide) dX11_init_1 ?_
  refine gw_aload_n F 0 rfl rfl to.1 dX11_init_4 ?_
  refine gy_new F (kd := 28) (T := TX8) (by decide) rfl sg_lay_RX8 tyX8_ok kw_120 kw_121 kw_91 ns_X8 nf_X8 nr_X8 (by decide) (by decide) (List.forall_mem_cons.mpr ⟨(Or.inl to.2.1), (fun _ h => absurd h List.not_mem_nil)⟩) (List.forall_mem_cons.mpr ⟨(Or.inl to.2.1), (fun _ h => absurd h List.not_mem_nil)⟩) dX11_init_5 (fun q1 La2 s3 o4 e5 e6 e7 t8 hX9 => ?_)
  have hf := hf q1 La2 e5 s3 e6 o4 e7
  have hn10 : La.1 ≤ o4.toNat := by rw [e7, Int.toNat_natCast]; exact (sg_X.rf : sg_X La La).1
  have t11 := to.X hX9
  have hst12 := hst.X hX9
  have hX13 := sg_X.tr (sg_X.rf) hX9
  refine gw_dup F rfl dX11_init_8 ?_
  refine gk_BV F (gc_IN F (S := [sg_r o4, sg_r o]) (As := []) (CX8_init t8 hf) t8.1 kw_124 kw_91 kw_122 kw_123 rfl hcX8_init ⟨by decide, by decide⟩ rfl rfl (Nat.le_of_ble_eq_true rfl) ⟨by decide, by decide⟩ dX11_init_9) (List.forall_mem_cons.mpr ⟨(Or.inl t11.2.1), (fun _ h => absurd h List.not_mem_nil)⟩) (List.forall_mem_cons.mpr ⟨(Or.inl t8.2.1), (List.forall_mem_cons.mpr ⟨(Or.inl t11.2.1), (fun _ h => absurd h List.not_mem_nil)⟩)⟩) (fun La14 s15 hX16 hf => ?_)
  have t17 := (sg_O_sx t11 t8 (by decide)).X hX16
  have t18 := (sg_O_sealed t8).X hX16
  have hst19 := (sg_St_sx hst12 t8 ⟨by decide, by decide, by decide⟩).X hX16
  have hX20 := (sg_X_sx (hX13) hn10).tr hX16
  obtain ⟨s21, e22⟩ : ∃ z : sg_M, z = sg_up s15 o 0 o4 := ⟨_, rfl⟩
  have hf := hf s21 e22
  refine gw_put5F F t17 (by decide) rfl sg_lay_RX11 (j := 0) (by decide) (D0 := tyX11 0) (fun _ => ⟨rfl, rfl⟩) t18.1 t18.2.1 e22 tyX11_ok nmX11 rfl hin rfl (tyX11_ok 0 (by decide)) rfl (host := "") kw_326 dX11_init_12 ?_
  refine gw_aload_n F 0 rfl rfl t17.1 dX11_init_15 ?_
  refine gy_new F (kd := 29) (T := TX9) (by decide) rfl sg_lay_RX9 tyX9_ok kw_132 kw_133 kw_92 ns_X9 nf_X9 nr_X9 (by decide) (by decide) (List.forall_mem_cons.mpr ⟨(Or.inl t17.2.1), (fun _ h => absurd h List.not_mem_nil)⟩) (List.forall_mem_cons.mpr ⟨(Or.inl t17.2.1), (fun _ h => absurd h List.not_mem_nil)⟩) dX11_init_16 (fun q23 La24 s25 o26 e27 e28 e29 t30 hX31 => ?_)
  have hf := hf q23 La24 e27 s25 e28 o26 e29
  have hn32 : La.1 ≤ o26.toNat := by rw [e29, Int.toNat_natCast]; exact (hX20 : sg_X La La14).1
  have t33 := t17.X hX31
  have hst34 := hst19.X hX31
  have hX35 := sg_X.tr (hX20) hX31
  refine gw_dup F rfl dX11_init_19 ?_
  refine gw_aload_n F 0 rfl rfl t33.1 dX11_init_20 ?_
  refine gw_get5 F t33 (by decide) rfl sg_lay_RX11 (j := 0) (by decide) rfl (host := "") (.inl kw_326) dX11_init_21 (fun h36 => ?_)
  obtain ⟨g37, hf⟩ := hf
  refine gk_BV F (gc_I F (S := [sg_r o26, sg_r o]) (As := [sg_r (s25 o 0)]) (CX9_init hst34 t30 g37 hf) t30.1 kw_136 kw_92 kw_134 kw_135 rfl hcX9_init ⟨by decide, by decide⟩ rfl rfl (Nat.le_of_ble_eq_true rfl) ⟨by decide, by decide⟩ dX11_init_24) (List.forall_mem_cons.mpr ⟨(Or.inl t33.2.1), (fun _ h => absurd h List.not_mem_nil)⟩) (List.forall_mem_cons.mpr ⟨(Or.inl t30.2.1), (List.forall_mem_cons.mpr ⟨(Or.inl t33.2.1), (fun _ h => absurd h List.not_mem_nil)⟩)⟩) (fun La38 s39 hX40 hf => ?_)
  have t41 := (sg_O_sx t33 t30 (by decide)).X hX40
  have t42 := (sg_O_sealed t30).X hX40
  have hst43 := (sg_St_sx hst34 t30 ⟨by decide, by decide, by decide⟩).X hX40
  have hX44 := (sg_X_sx (hX35) hn32).tr hX40
  obtain ⟨s45, e46⟩ : ∃ z : sg_M, z = sg_up s39 o 1 o26 := ⟨_, rfl⟩
  have hf := hf s45 e46
  refine gw_put5F F t41 (by decide) rfl sg_lay_RX11 (j := 1) (by decide) (D0 := tyX11 1) (fun _ => ⟨rfl, rfl⟩) t42.1 t42.2.1 e46 tyX11_ok nmX11 rfl hin rfl (tyX11_ok 1 (by decide)) rfl (host := "") kw_327 dX11_init_27 ?_
  refine gw_aload_n F 0 rfl rfl t41.1 dX11_init_30 ?_
  refine gy_new F (kd := 47) (T := TX7) (by decide) rfl sg_lay_RX7 tyX7_ok kw_150 kw_151 kw_93 ns_X7 nf_X7 nr_X7 (by decide) (by decide) (List.forall_mem_cons.mpr ⟨(Or.inl t41.2.1), (fun _ h => absurd h List.not_mem_nil)⟩) (List.forall_mem_cons.mpr ⟨(Or.inl t41.2.1), (fun _ h => absurd h List.not_mem_nil)⟩) dX11_init_31 (fun q47 La48 s49 o50 e51 e52 e53 t54 hX55 => ?_)
  have hf := hf q47 La48 e51 s49 e52 o50 e53
  have hn56 : La.1 ≤ o50.toNat := by rw [e53, Int.toNat_natCast]; exact (hX44 : sg_X La La38).1
  have t57 := t41.X hX55
  have hst58 := hst43.X hX55
  have hX59 := sg_X.tr (hX44) hX55
  refine gw_dup F rfl dX11_init_34 ?_
  refine gy_new F (kd := 21) (T := TX1) (by decide) rfl sg_lay_RX1 tyX1_ok kw_152 kw_153 kw_94 ns_X1 nf_X1 nr_X1 (by decide) (by decide) (List.forall_mem_cons.mpr ⟨(Or.inl t57.2.1), (fun _ h => absurd h List.not_mem_nil)⟩) (List.forall_mem_cons.mpr ⟨(Or.inl t54.2.1), (List.forall_mem_cons.mpr ⟨(Or.inl t54.2.1), (List.forall_mem_cons.mpr ⟨(Or.inl t57.2.1), (fun _ h => absurd h List.not_mem_nil)⟩)⟩)⟩) dX11_init_35 (fun q60 La61 s62 o63 e64 e65 e66 t67 hX68 => ?_)
  have hf := hf q60 La61 e64 s62 e65 o63 e66
  have hn69 : La.1 ≤ o63.toNat := by rw [e66, Int.toNat_natCast]; exact (hX59 : sg_X La La48).1
  have t70 := t57.X hX68
  have t71 := t54.X hX68
  have hst72 := hst58.X hX68
  have hX73 := sg_X.tr (hX59) hX68
  refine gw_dup F rfl dX11_init_38 ?_
  refine gk_BV F (gc_IN F (S := [sg_r o63, sg_r o50, sg_r o50, sg_r o]) (As := []) (CX1_init t67 hf) t67.1 kw_156 kw_94 kw_154 kw_155 rfl hcX1_init ⟨by decide, by decide⟩ rfl rfl (Nat.le_of_ble_eq_true rfl) ⟨by decide, by decide⟩ dX11_init_39) (List.forall_mem_cons.mpr ⟨(Or.inl t70.2.1), (fun _ h => absurd h List.not_mem_nil)⟩) (List.forall_mem_cons.mpr ⟨(Or.inl t67.2.1), (List.forall_mem_cons.mpr ⟨(Or.inl t71.2.1), (List.forall_mem_cons.mpr ⟨(Or.inl t71.2.1), (List.forall_mem_cons.mpr ⟨(Or.inl t70.2.1), (fun _ h => absurd h List.not_mem_nil)⟩)⟩)⟩)⟩) (fun La74 s75 hX76 hf => ?_)
  have t77 := (sg_O_sx t70 t67 (by decide)).X hX76
  have t78 := (sg_O_sx t71 t67 (by decide)).X hX76
  have t79 := (sg_O_sealed t67).X hX76
  have hst80 := (sg_St_sx hst72 t67 ⟨by decide, by decide, by decide⟩).X hX76
  have hX81 := (sg_X_sx (hX73) hn69).tr hX76
  refine gy_new F (kd := 23) (T := TX3) (by decide) rfl sg_lay_RX3 tyX3_ok kw_172 kw_173 kw_95 ns_X3 nf_X3 nr_X3 (by decide) (by decide) (List.forall_mem_cons.mpr ⟨(Or.inl t77.2.1), (fun _ h => absurd h List.not_mem_nil)⟩) (List.forall_mem_cons.mpr ⟨(Or.inl t79.2.1), (List.forall_mem_cons.mpr ⟨(Or.inl t78.2.1), (List.forall_mem_cons.mpr ⟨(Or.inl t78.2.1), (List.forall_mem_cons.mpr ⟨(Or.inl t77.2.1), (fun _ h => absurd h List.not_mem_nil)⟩)⟩)⟩)⟩) dX11_init_42 (fun q82 La83 s84 o85 e86 e87 e88 t89 hX90 => ?_)
  have hf := hf q82 La83 e86 s84 e87 o85 e88
  have hn91 : La.1 ≤ o85.toNat := by rw [e88, Int.toNat_natCast]; exact (hX81 : sg_X La La74).1
  have t92 := t77.X hX90
  have t93 := t78.X hX90
  have t94 := t79.X hX90
  have hst95 := hst80.X hX90
  have hX96 := sg_X.tr (hX81) hX90
  refine gw_dup F rfl dX11_init_45 ?_
  refine gk_BV F (gc_IN F (S := [sg_r o85, sg_r o63, sg_r o50, sg_r o50, sg_r o]) (As := []) (CX3_init t89 hf) t89.1 kw_176 kw_95 kw_174 kw_175 rfl hcX3_init ⟨by decide, by decide⟩ rfl rfl (Nat.le_of_ble_eq_true rfl) ⟨by decide, by decide⟩ dX11_init_46) (List.forall_mem_cons.mpr ⟨(Or.inl t92.2.1), (fun _ h => absurd h List.not_mem_nil)⟩) (List.forall_mem_cons.mpr ⟨(Or.inl t89.2.1), (List.forall_mem_cons.mpr ⟨(Or.inl t94.2.1), (List.forall_mem_cons.mpr ⟨(Or.inl t93.2.1), (List.forall_mem_cons.mpr ⟨(Or.inl t93.2.1), (List.forall_mem_cons.mpr ⟨(Or.inl t92.2.1), (fun _ h => absurd h List.not_mem_nil)⟩)⟩)⟩)⟩)⟩) (fun La97 s98 hX99 hf => ?_)
  have t100 := (sg_O_sx t92 t89 (by decide)).X hX99
  have t101 := (sg_O_sx t93 t89 (by decide)).X hX99
  have t102 := (sg_O_sx t94 t89 (by decide)).X hX99
  have t103 := (sg_O_sealed t89).X hX99
  have hst104 := (sg_St_sx hst95 t89 ⟨by decide, by decide, by decide⟩).X hX99
  have hX105 := (sg_X_sx (hX96) hn91).tr hX99
  refine gy_new F (kd := 25) (T := TX5) (by decide) rfl sg_lay_RX5 tyX5_ok kw_184 kw_185 kw_96 ns_X5 nf_X5 nr_X5 (by decide) (by decide) (List.forall_mem_cons.mpr ⟨(Or.inl t100.2.1), (fun _ h => absurd h List.not_mem_nil)⟩) (List.forall_mem_cons.mpr ⟨(Or.inl t103.2.1), (List.forall_mem_cons.mpr ⟨(Or.inl t102.2.1), (List.forall_mem_cons.mpr ⟨(Or.inl t101.2.1), (List.forall_mem_cons.mpr ⟨(Or.inl t101.2.1), (List.forall_mem_cons.mpr ⟨(Or.inl t100.2.1), (fun _ h => absurd h List.not_mem_nil)⟩)⟩)⟩)⟩)⟩) dX11_init_49 (fun q106 La107 s108 o109 e110 e111 e112 t113 hX114 => ?_)
  have hf := hf q106 La107 e110 s108 e111 o109 e112
  have hn115 : La.1 ≤ o109.toNat := by rw [e112, Int.toNat_natCast]; exact (hX105 : sg_X La La97).1
  have t116 := t100.X hX114
  have t117 := t101.X hX114
  have t118 := t102.X hX114
  have t119 := t103.X hX114
  have hst120 := hst104.X hX114
  have hX121 := sg_X.tr (hX105) hX114
  refine gw_dup F rfl dX11_init_52 ?_
  refine gk_BV F (gc_IN F (S := [sg_r o109, sg_r o85, sg_r o63, sg_r o50, sg_r o50, sg_r o]) (As := []) (CX5_init t113 hf) t113.1 kw_188 kw_96 kw_186 kw_187 rfl hcX5_init ⟨by decide, by decide⟩ rfl rfl (Nat.le_of_ble_eq_true rfl) ⟨by decide, by decide⟩ dX11_init_53) (List.forall_mem_cons.mpr ⟨(Or.inl t116.2.1), (fun _ h => absurd h List.not_mem_nil)⟩) (List.forall_mem_cons.mpr ⟨(Or.inl t113.2.1), (List.forall_mem_cons.mpr ⟨(Or.inl t119.2.1), (List.forall_mem_cons.mpr ⟨(Or.inl t118.2.1), (List.forall_mem_cons.mpr ⟨(Or.inl t117.2.1), (List.forall_mem_cons.mpr ⟨(Or.inl t117.2.1), (List.forall_mem_cons.mpr ⟨(Or.inl t116.2.1), (fun _ h => absurd h List.not_mem_nil)⟩)⟩)⟩)⟩)⟩)⟩) (fun La122 s123 hX124 hf => ?_)
  have t125 := (sg_O_sx t116 t113 (by decide)).X hX124
  have t126 := (sg_O_sx t117 t113 (by decide)).X hX124
  have t127 := (sg_O_sx t118 t113 (by decide)).X hX124
  have t128 := (sg_O_sx t119 t113 (by decide)).X hX124
  have t129 := (sg_O_sealed t113).X hX124
  have hst130 := (sg_St_sx hst120 t113 ⟨by decide, by decide, by decide⟩).X hX124
  have hX131 := (sg_X_sx (hX121) hn115).tr hX124
  refine gk_BV F (gc_I F (S := [sg_r o50, sg_r o]) (As := [sg_r o63, sg_r o85, sg_r o109]) (CX7_init_A t126 t127 t128 t129 hf) t126.1 kw_214 kw_93 kw_212 kw_213 rfl hcX7_init ⟨by decide, by decide⟩ rfl rfl (Nat.le_of_ble_eq_true rfl) ⟨by decide, by decide⟩ dX11_init_56) (List.forall_mem_cons.mpr ⟨(Or.inl t125.2.1), (fun _ h => absurd h List.not_mem_nil)⟩) (List.forall_mem_cons.mpr ⟨(Or.inl t126.2.1), (List.forall_mem_cons.mpr ⟨(Or.inl t125.2.1), (fun _ h => absurd h List.not_mem_nil)⟩)⟩) (fun La132 s133 hX134 hf => ?_)
  have t135 := (sg_O_sx t125 t126 (by decide)).X hX134
  have t136 := (sg_O_sealed t126).X hX134
  have hst137 := (sg_St_sx hst130 t126 ⟨by decide, by decide, by decide⟩).X hX134
  have hX138 := (sg_X_sx (hX131) hn56).tr hX134
  obtain ⟨s139, e140⟩ : ∃ z : sg_M, z = sg_up s133 o 2 o50 := ⟨_, rfl⟩
  have hf := hf s139 e140
  refine gw_put5F F t135 (by decide) rfl sg_lay_RX11 (j := 2) (by decide) (D0 := tyX11 2) (fun _ => ⟨rfl, rfl⟩) t136.1 t136.2.1 e140 tyX11_ok nmX11 rfl hin rfl (tyX11_ok 2 (by decide)) rfl (host := "") kw_328 dX11_init_59 ?_
  refine gw_aload_n F 0 rfl rfl t135.1 dX11_init_62 ?_
  refine gw_iconst F dX11_init_63 ?_
  refine gy_newT F (N := 2) kw_150 (F.2.2.2.2.2.2.2.2.2.1 _ kw_243) rfl (by decide) (by decide) (by decide) (List.forall_mem_cons.mpr ⟨(Or.inl t135.2.1), (fun _ h => absurd h List.not_mem_nil)⟩) (List.forall_mem_cons.mpr ⟨(Or.inl t135.2.1), (fun _ h => absurd h List.not_mem_nil)⟩) dX11_init_64 (fun q141 La142 s143 o144 e145 e146 e147 t148 hX149 => ?_)
  have hf := hf q141 La142 e145 s143 e146 o144 e147
  have hn150 : La.1 ≤ o144.toNat := by rw [e147, Int.toNat_natCast]; exact (hX138 : sg_X La La132).1
  have t151 := t135.X hX149
  have hst152 := hst137.X hX149
  have hX153 := sg_X.tr (hX138) hX149
  obtain ⟨s154, e155⟩ : ∃ z : sg_M, z = sg_up s143 o 3 o144 := ⟨_, rfl⟩
  have hf := hf s154 e155
  refine gw_put5F F t151 (by decide) rfl sg_lay_RX11 (j := 3) (by decide) (D0 := tyX11 3) (fun _ => ⟨rfl, rfl⟩) t148.1 t148.2.1 e155 tyX11_ok nmX11 rfl hin rfl (tyX11_ok 3 (by decide)) rfl (host := "") kw_329 dX11_init_67 ?_
  refine gw_aload_n F 0 rfl rfl t151.1 dX11_init_70 ?_
  refine gy_new F (kd := 21) (T := TX1) (by decide) rfl sg_lay_RX1 tyX1_ok kw_152 kw_153 kw_94 ns_X1 nf_X1 nr_X1 (by decide) (by decide) (List.forall_mem_cons.mpr ⟨(Or.inl t151.2.1), (fun _ h => absurd h List.not_mem_nil)⟩) (List.forall_mem_cons.mpr ⟨(Or.inl t151.2.1), (fun _ h => absurd h List.not_mem_nil)⟩) dX11_init_71 (fun q156 La157 s158 o159 e160 e161 e162 t163 hX164 => ?_)
  have hf := hf q156 La157 e160 s158 e161 o159 e162
  have hn165 : La.1 ≤ o159.toNat := by rw [e162, Int.toNat_natCast]; exact (hX153 : sg_X La La142).1
  have t166 := t151.X hX164
  have hst167 := hst152.X hX164
  have hX168 := sg_X.tr (hX153) hX164
  refine gw_dup F rfl dX11_init_74 ?_
  refine gk_BV F (gc_IN F (S := [sg_r o159, sg_r o]) (As := []) (CX1_init t163 hf) t163.1 kw_156 kw_94 kw_154 kw_155 rfl hcX1_init ⟨by decide, by decide⟩ rfl rfl (Nat.le_of_ble_eq_true rfl) ⟨by decide, by decide⟩ dX11_init_75) (List.forall_mem_cons.mpr ⟨(Or.inl t166.2.1), (fun _ h => absurd h List.not_mem_nil)⟩) (List.forall_mem_cons.mpr ⟨(Or.inl t163.2.1), (List.forall_mem_cons.mpr ⟨(Or.inl t166.2.1), (fun _ h => absurd h List.not_mem_nil)⟩)⟩) (fun La169 s170 hX171 hf => ?_)
  have t172 := (sg_O_sx t166 t163 (by decide)).X hX171
  have t173 := (sg_O_sealed t163).X hX171
  have hst174 := (sg_St_sx hst167 t163 ⟨by decide, by decide, by decide⟩).X hX171
  have hX175 := (sg_X_sx (hX168) hn165).tr hX171
  obtain ⟨s176, e177⟩ : ∃ z : sg_M, z = sg_up s170 o 4 o159 := ⟨_, rfl⟩
  have hf := hf s176 e177
  refine gw_put5F F t172 (by decide) rfl sg_lay_RX11 (j := 4) (by decide) (D0 := tyX11 4) (fun _ => ⟨rfl, rfl⟩) t173.1 t173.2.1 e177 tyX11_ok nmX11 rfl hin rfl (tyX11_ok 4 (by decide)) rfl (host := "") kw_330 dX11_init_78 ?_
  refine gw_aload_n F 0 rfl rfl t172.1 dX11_init_81 ?_
  refine gy_new F (kd := 20) (T := TX0) (by decide) rfl sg_lay_RX0 tyX0_ok kw_244 kw_245 kw_100 ns_X0 nf_X0 nr_X0 (by decide) (by decide) (List.forall_mem_cons.mpr ⟨(Or.inl t172.2.1), (fun _ h => absurd h List.not_mem_nil)⟩) (List.forall_mem_cons.mpr ⟨(Or.inl t172.2.1), (fun _ h => absurd h List.not_mem_nil)⟩) dX11_init_82 (fun q178 La179 s180 o181 e182 e183 e184 t185 hX186 => ?_)
  have hf := hf q178 La179 e182 s180 e183 o181 e184
  have hn187 : La.1 ≤ o181.toNat := by rw [e184, Int.toNat_natCast]; exact (hX175 : sg_X La La169).1
  have t188 := t172.X hX186
  have hst189 := hst174.X hX186
  have hX190 := sg_X.tr (hX175) hX186
  refine gw_dup F rfl dX11_init_85 ?_
  refine gk_BV F (gc_IN F (S := [sg_r o181, sg_r o]) (As := []) (CX0_init t185 hf) t185.1 kw_248 kw_100 kw_246 kw_247 rfl hcX0_init ⟨by decide, by decide⟩ rfl rfl (Nat.le_of_ble_eq_true rfl) ⟨by decide, by decide⟩ dX11_init_86) (List.forall_mem_cons.mpr ⟨(Or.inl t188.2.1), (fun _ h => absurd h List.not_mem_nil)⟩) (List.forall_mem_cons.mpr ⟨(Or.inl t185.2.1), (List.forall_mem_cons.mpr ⟨(Or.inl t188.2.1), (fun _ h => absurd h List.not_mem_nil)⟩)⟩) (fun La191 s192 hX193 hf => ?_)
  have t194 := (sg_O_sx t188 t185 (by decide)).X hX193
  have t195 := (sg_O_sealed t185).X hX193
  have hst196 := (sg_St_sx hst189 t185 ⟨by decide, by decide, by decide⟩).X hX193
  have hX197 := (sg_X_sx (hX190) hn187).tr hX193
  obtain ⟨s198, e199⟩ : ∃ z : sg_M, z = sg_up s192 o 5 o181 := ⟨_, rfl⟩
  have hf := hf s198 e199
  refine gw_put5F F t194 (by decide) rfl sg_lay_RX11 (j := 5) (by decide) (D0 := tyX11 5) (fun _ => ⟨rfl, rfl⟩) t195.1 t195.2.1 e199 tyX11_ok nmX11 rfl hin rfl (tyX11_ok 5 (by decide)) rfl (host := "") kw_331 dX11_init_89 ?_
  refine gw_aload_n F 0 rfl rfl t194.1 dX11_init_92 ?_
  refine gy_new F (kd := 30) (T := TX10) (by decide) rfl sg_lay_RX10 tyX10_ok kw_275 kw_276 kw_101 ns_X10 nf_X10 nr_X10 (by decide) (by decide) (List.forall_mem_cons.mpr ⟨(Or.inl t194.2.1), (fun _ h => absurd h List.not_mem_nil)⟩) (List.forall_mem_cons.mpr ⟨(Or.inl t194.2.1), (fun _ h => absurd h List.not_mem_nil)⟩) dX11_init_93 (fun q200 La201 s202 o203 e204 e205 e206 t207 hX208 => ?_)
  have hf := hf q200 La201 e204 s202 e205 o203 e206
  have hn209 : La.1 ≤ o203.toNat := by rw [e206, Int.toNat_natCast]; exact (hX197 : sg_X La La191).1
  have t210 := t194.X hX208
  have hst211 := hst196.X hX208
  have hX212 := sg_X.tr (hX197) hX208
  refine gw_dup F rfl dX11_init_96 ?_
  refine gk_BV F (gc_IN F (S := [sg_r o203, sg_r o]) (As := []) (CX10_init t207 hf) t207.1 kw_279 kw_101 kw_277 kw_278 rfl hcX10_init ⟨by decide, by decide⟩ rfl rfl (Nat.le_of_ble_eq_true rfl) ⟨by decide, by decide⟩ dX11_init_97) (List.forall_mem_cons.mpr ⟨(Or.inl t210.2.1), (fun _ h => absurd h List.not_mem_nil)⟩) (List.forall_mem_cons.mpr ⟨(Or.inl t207.2.1), (List.forall_mem_cons.mpr ⟨(Or.inl t210.2.1), (fun _ h => absurd h List.not_mem_nil)⟩)⟩) (fun La213 s214 hX215 hf => ?_)
  have t216 := (sg_O_sx t210 t207 (by decide)).X hX215
  have t217 := (sg_O_sealed t207).X hX215
  have hst218 := (sg_St_sx hst211 t207 ⟨by decide, by decide, by decide⟩).X hX215
  have hX219 := (sg_X_sx (hX212) hn209).tr hX215
  obtain ⟨s220, e221⟩ : ∃ z : sg_M, z = sg_up s214 o 6 o203 := ⟨_, rfl⟩
  have hf := hf s220 e221
  refine gw_put5F F t216 (by decide) rfl sg_lay_RX11 (j := 6) (by decide) (D0 := tyX11 6) (fun _ => ⟨rfl, rfl⟩) t217.1 t217.2.1 e221 tyX11_ok nmX11 rfl hin rfl (tyX11_ok 6 (by decide)) rfl (host := "") kw_332 dX11_init_100 ?_
  refine gw_aload_n F 0 rfl rfl t216.1 dX11_init_103 ?_
  refine gy_new F (kd := 30) (T := TX10) (by decide) rfl sg_lay_RX10 tyX10_ok kw_275 kw_276 kw_101 ns_X10 nf_X10 nr_X10 (by decide) (by decide) (List.forall_mem_cons.mpr ⟨(Or.inl t216.2.1), (fun _ h => absurd h List.not_mem_nil)⟩) (List.forall_mem_cons.mpr ⟨(Or.inl t216.2.1), (fun _ h => absurd h List.not_mem_nil)⟩) dX11_init_104 (fun q222 La223 s224 o225 e226 e227 e228 t229 hX230 => ?_)
  have hf := hf q222 La223 e226 s224 e227 o225 e228
  have hn231 : La.1 ≤ o225.toNat := by rw [e228, Int.toNat_natCast]; exact (hX219 : sg_X La La213).1
  have t232 := t216.X hX230
  have hst233 := hst218.X hX230
  have hX234 := sg_X.tr (hX219) hX230
  refine gw_dup F rfl dX11_init_107 ?_
  refine gk_BV F (gc_IN F (S := [sg_r o225, sg_r o]) (As := []) (CX10_init t229 hf) t229.1 kw_279 kw_101 kw_277 kw_278 rfl hcX10_init ⟨by decide, by decide⟩ rfl rfl (Nat.le_of_ble_eq_true rfl) ⟨by decide, by decide⟩ dX11_init_108) (List.forall_mem_cons.mpr ⟨(Or.inl t232.2.1), (fun _ h => absurd h List.not_mem_nil)⟩) (List.forall_mem_cons.mpr ⟨(Or.inl t229.2.1), (List.forall_mem_cons.mpr ⟨(Or.inl t232.2.1), (fun _ h => absurd h List.not_mem_nil)⟩)⟩) (fun La235 s236 hX237 hf => ?_)
  have t238 := (sg_O_sx t232 t229 (by decide)).X hX237
  have t239 := (sg_O_sealed t229).X hX237
  have hst240 := (sg_St_sx hst233 t229 ⟨by decide, by decide, by decide⟩).X hX237
  have hX241 := (sg_X_sx (hX234) hn231).tr hX237
  obtain ⟨s242, e243⟩ : ∃ z : sg_M, z = sg_up s236 o 7 o225 := ⟨_, rfl⟩
  have hf := hf s242 e243
  refine gw_put5F F t238 (by decide) rfl sg_lay_RX11 (j := 7) (by decide) (D0 := tyX11 7) (fun _ => ⟨rfl, rfl⟩) t239.1 t239.2.1 e243 tyX11_ok nmX11 rfl hin rfl (tyX11_ok 7 (by decide)) rfl (host := "") kw_333 dX11_init_111 ?_
  refine gw_aload_n F 0 rfl rfl t238.1 dX11_init_114 ?_
  refine gy_new F (kd := 30) (T := TX10) (by decide) rfl sg_lay_RX10 tyX10_ok kw_275 kw_276 kw_101 ns_X10 nf_X10 nr_X10 (by decide) (by decide) (List.forall_mem_cons.mpr ⟨(Or.inl t238.2.1), (fun _ h => absurd h List.not_mem_nil)⟩) (List.forall_mem_cons.mpr ⟨(Or.inl t238.2.1), (fun _ h => absurd h List.not_mem_nil)⟩) dX11_init_115 (fun q244 La245 s246 o247 e248 e249 e250 t251 hX252 => ?_)
  have hf := hf q244 La245 e248 s246 e249 o247 e250
  have hn253 : La.1 ≤ o247.toNat := by rw [e250, Int.toNat_natCast]; exact (hX241 : sg_X La La235).1
  have t254 := t238.X hX252
  have hst255 := hst240.X hX252
  have hX256 := sg_X.tr (hX241) hX252
  refine gw_dup F rfl dX11_init_118 ?_
  refine gk_BV F (gc_IN F (S := [sg_r o247, sg_r o]) (As := []) (CX10_init t251 hf) t251.1 kw_279 kw_101 kw_277 kw_278 rfl hcX10_init ⟨by decide, by decide⟩ rfl rfl (Nat.le_of_ble_eq_true rfl) ⟨by decide, by decide⟩ dX11_init_119) (List.forall_mem_cons.mpr ⟨(Or.inl t254.2.1), (fun _ h => absurd h List.not_mem_nil)⟩) (List.forall_mem_cons.mpr ⟨(Or.inl t251.2.1), (List.forall_mem_cons.mpr ⟨(Or.inl t254.2.1), (fun _ h => absurd h List.not_mem_nil)⟩)⟩) (fun La257 s258 hX259 hf => ?_)
  have t260 := (sg_O_sx t254 t251 (by decide)).X hX259
  have t261 := (sg_O_sealed t251).X hX259
  have hst262 := (sg_St_sx hst255 t251 ⟨by decide, by decide, by decide⟩).X hX259
  have hX263 := (sg_X_sx (hX256) hn253).tr hX259
  obtain ⟨s264, e265⟩ : ∃ z : sg_M, z = sg_up s258 o 8 o247 := ⟨_, rfl⟩
  have hf := hf s264 e265
  refine gw_put5F F t260 (by decide) rfl sg_lay_RX11 (j := 8) (by decide) (D0 := tyX11 8) (fun _ => ⟨rfl, rfl⟩) t261.1 t261.2.1 e265 tyX11_ok nmX11 rfl hin rfl (tyX11_ok 8 (by decide)) rfl (host := "") kw_334 dX11_init_122 ?_
  refine gw_aload_n F 0 rfl rfl t260.1 dX11_init_125 ?_
  refine gy_new F (kd := 26) (T := TX6) (by decide) rfl sg_lay_RX6 tyX6_ok kw_304 kw_305 kw_102 ns_X6 nf_X6 nr_X6 (by decide) (by decide) (List.forall_mem_cons.mpr ⟨(Or.inl t260.2.1), (fun _ h => absurd h List.not_mem_nil)⟩) (List.forall_mem_cons.mpr ⟨(Or.inl t260.2.1), (fun _ h => absurd h List.not_mem_nil)⟩) dX11_init_126 (fun q266 La267 s268 o269 e270 e271 e272 t273 hX274 => ?_)
  have hf := hf q266 La267 e270 s268 e271 o269 e272
  have hn275 : La.1 ≤ o269.toNat := by rw [e272, Int.toNat_natCast]; exact (hX263 : sg_X La La257).1
  have t276 := t260.X hX274
  have hst277 := hst262.X hX274
  have hX278 := sg_X.tr (hX263) hX274
  refine gw_dup F rfl dX11_init_129 ?_
  refine gk_BV F (gc_IN F (S := [sg_r o269, sg_r o]) (As := []) (CX6_init t273 hf) t273.1 kw_308 kw_102 kw_306 kw_307 rfl hcX6_init ⟨by decide, by decide⟩ rfl rfl (Nat.le_of_ble_eq_true rfl) ⟨by decide, by decide⟩ dX11_init_130) (List.forall_mem_cons.mpr ⟨(Or.inl t276.2.1), (fun _ h => absurd h List.not_mem_nil)⟩) (List.forall_mem_cons.mpr ⟨(Or.inl t273.2.1), (List.forall_mem_cons.mpr ⟨(Or.inl t276.2.1), (fun _ h => absurd h List.not_mem_nil)⟩)⟩) (fun La279 s280 hX281 hf => ?_)
  have t282 := (sg_O_sx t276 t273 (by decide)).X hX281
  have t283 := (sg_O_sealed t273).X hX281
  have hst284 := (sg_St_sx hst277 t273 ⟨by decide, by decide, by decide⟩).X hX281
  have hX285 := (sg_X_sx (hX278) hn275).tr hX281
  obtain ⟨s286, e287⟩ : ∃ z : sg_M, z = sg_up s280 o 9 o269 := ⟨_, rfl⟩
  have hf := hf s286 e287
  refine gw_put5F F t282 (by decide) rfl sg_lay_RX11 (j := 9) (by decide) (D0 := tyX11 9) (fun _ => ⟨rfl, rfl⟩) t283.1 t283.2.1 e287 tyX11_ok nmX11 rfl hin rfl (tyX11_ok 9 (by decide)) rfl (host := "") kw_335 dX11_init_133 ?_
  refine gw_aload_n F 0 rfl rfl t282.1 dX11_init_136 ?_
  refine gy_new F (kd := 24) (T := TX4) (by decide) rfl sg_lay_RX4 tyX4_ok kw_316 kw_191 kw_97 ns_X4 nf_X4 nr_X4 (by decide) (by decide) (List.forall_mem_cons.mpr ⟨(Or.inl t282.2.1), (fun _ h => absurd h List.not_mem_nil)⟩) (List.forall_mem_cons.mpr ⟨(Or.inl t282.2.1), (fun _ h => absurd h List.not_mem_nil)⟩) dX11_init_137 (fun q288 La289 s290 o291 e292 e293 e294 t295 hX296 => ?_)
  have hf := hf q288 La289 e292 s290 e293 o291 e294
  have hn297 : La.1 ≤ o291.toNat := by rw [e294, Int.toNat_natCast]; exact (hX285 : sg_X La La279).1
  have t298 := t282.X hX296
  have hst299 := hst284.X hX296
  have hX300 := sg_X.tr (hX285) hX296
  refine gw_dup F rfl dX11_init_140 ?_
  refine gw_bipush F rfl dX11_init_141 ?_
  refine gk_BV F (gc_I F (S := [sg_r o291, sg_r o]) (As := [sg_i 40]) (CX4_init t295 (by decide) hf) t295.1 kw_194 kw_97 kw_317 kw_193 rfl hcX4_init ⟨by decide, by decide⟩ rfl rfl (Nat.le_of_ble_eq_true rfl) ⟨by decide, by decide⟩ dX11_init_143) (List.forall_mem_cons.mpr ⟨(Or.inl t298.2.1), (fun _ h => absurd h List.not_mem_nil)⟩) (List.forall_mem_cons.mpr ⟨(Or.inl t295.2.1), (List.forall_mem_cons.mpr ⟨(Or.inl t298.2.1), (fun _ h => absurd h List.not_mem_nil)⟩)⟩) (fun La301 s302 hX303 hf => ?_)
  have t304 := (sg_O_sx t298 t295 (by decide)).X hX303
  have t305 := (sg_O_sealed t295).X hX303
  have hst306 := (sg_St_sx hst299 t295 ⟨by decide, by decide, by decide⟩).X hX303
  have hX307 := (sg_X_sx (hX300) hn297).tr hX303
  obtain ⟨s308, e309⟩ : ∃ z : sg_M, z = sg_up s302 o 10 o291 := ⟨_, rfl⟩
  have hf := hf s308 e309
  refine gw_put5F F t304 (by decide) rfl sg_lay_RX11 (j := 10) (by decide) (D0 := tyX11 10) (fun _ => ⟨rfl, rfl⟩) t305.1 t305.2.1 e309 tyX11_ok nmX11 rfl hin rfl (tyX11_ok 10 (by decide)) rfl (host := "") kw_336 dX11_init_146 ?_
  refine gw_aload_n F 0 rfl rfl t304.1 dX11_init_149 ?_
  refine gy_new F (kd := 24) (T := TX4) (by decide) rfl sg_lay_RX4 tyX4_ok kw_316 kw_191 kw_97 ns_X4 nf_X4 nr_X4 (by decide) (by decide) (List.forall_mem_cons.mpr ⟨(Or.inl t304.2.1), (fun _ h => absurd h List.not_mem_nil)⟩) (List.forall_mem_cons.mpr ⟨(Or.inl t304.2.1), (fun _ h => absurd h List.not_mem_nil)⟩) dX11_init_150 (fun q310 La311 s312 o313 e314 e315 e316 t317 hX318 => ?_)
  have hf := hf q310 La311 e314 s312 e315 o313 e316
  have hn319 : La.1 ≤ o313.toNat := by rw [e316, Int.toNat_natCast]; exact (hX307 : sg_X La La301).1
  have t320 := t304.X hX318
  have hst321 := hst306.X hX318
  have hX322 := sg_X.tr (hX307) hX318
  refine gw_dup F rfl dX11_init_153 ?_
  refine gw_bipush F rfl dX11_init_154 ?_
  refine gk_BV F (gc_I F (S := [sg_r o313, sg_r o]) (As := [sg_i 21]) (CX4_init t317 (by decide) hf) t317.1 kw_194 kw_97 kw_317 kw_193 rfl hcX4_init ⟨by decide, by decide⟩ rfl rfl (Nat.le_of_ble_eq_true rfl) ⟨by decide, by decide⟩ dX11_init_156) (List.forall_mem_cons.mpr ⟨(Or.inl t320.2.1), (fun _ h => absurd h List.not_mem_nil)⟩) (List.forall_mem_cons.mpr ⟨(Or.inl t317.2.1), (List.forall_mem_cons.mpr ⟨(Or.inl t320.2.1), (fun _ h => absurd h List.not_mem_nil)⟩)⟩) (fun La323 s324 hX325 hf => ?_)
  have t326 := (sg_O_sx t320 t317 (by decide)).X hX325
  have t327 := (sg_O_sealed t317).X hX325
  have hst328 := (sg_St_sx hst321 t317 ⟨by decide, by decide, by decide⟩).X hX325
  have hX329 := (sg_X_sx (hX322) hn319).tr hX325
  obtain ⟨s330, e331⟩ : ∃ z : sg_M, z = sg_up s324 o 11 o313 := ⟨_, rfl⟩
  have hf := hf s330 e331
  refine gw_put5F F t326 (by decide) rfl sg_lay_RX11 (j := 11) (by decide) (D0 := tyX11 11) (fun _ => ⟨rfl, rfl⟩) t327.1 t327.2.1 e331 tyX11_ok nmX11 rfl hin rfl (tyX11_ok 11 (by decide)) rfl (host := "") kw_337 dX11_init_159 ?_
  refine gw_aload_n F 0 rfl rfl t326.1 dX11_init_162 ?_
  refine gy_new F (kd := 24) (T := TX4) (by decide) rfl sg_lay_RX4 tyX4_ok kw_316 kw_191 kw_97 ns_X4 nf_X4 nr_X4 (by decide) (by decide) (List.forall_mem_cons.mpr ⟨(Or.inl t326.2.1), (fun _ h => absurd h List.not_mem_nil)⟩) (List.forall_mem_cons.mpr ⟨(Or.inl t326.2.1), (fun _ h => absurd h List.not_mem_nil)⟩) dX11_init_163 (fun q332 La333 s334 o335 e336 e337 e338 t339 hX340 => ?_)
  have hf := hf q332 La333 e336 s334 e337 o335 e338
  have hn341 : La.1 ≤ o335.toNat := by rw [e338, Int.toNat_natCast]; exact (hX329 : sg_X La La323).1
  have t342 := t326.X hX340
  have hst343 := hst328.X hX340
  have hX344 := sg_X.tr (hX329) hX340
  refine gw_dup F rfl dX11_init_166 ?_
  refine gw_bipush F rfl dX11_init_167 ?_
  refine gk_BV F (gc_I F (S := [sg_r o335, sg_r o]) (As := [sg_i 101]) (CX4_init t339 (by decide) hf) t339.1 kw_194 kw_97 kw_317 kw_193 rfl hcX4_init ⟨by decide, by decide⟩ rfl rfl (Nat.le_of_ble_eq_true rfl) ⟨by decide, by decide⟩ dX11_init_169) (List.forall_mem_cons.mpr ⟨(Or.inl t342.2.1), (fun _ h => absurd h List.not_mem_nil)⟩) (List.forall_mem_cons.mpr ⟨(Or.inl t339.2.1), (List.forall_mem_cons.mpr ⟨(Or.inl t342.2.1), (fun _ h => absurd h List.not_mem_nil)⟩)⟩) (fun La345 s346 hX347 hf => ?_)
  have t348 := (sg_O_sx t342 t339 (by decide)).X hX347
  have t349 := (sg_O_sealed t339).X hX347
  have hst350 := (sg_St_sx hst343 t339 ⟨by decide, by decide, by decide⟩).X hX347
  have hX351 := (sg_X_sx (hX344) hn341).tr hX347
  obtain ⟨s352, e353⟩ : ∃ z : sg_M, z = sg_up s346 o 12 o335 := ⟨_, rfl⟩
  have hf := hf s352 e353
  refine gw_put5F F t348 (by decide) rfl sg_lay_RX11 (j := 12) (by decide) (D0 := tyX11 12) (fun _ => ⟨rfl, rfl⟩) t349.1 t349.2.1 e353 tyX11_ok nmX11 rfl hin rfl (tyX11_ok 12 (by decide)) rfl (host := "") kw_338 dX11_init_172 ?_
  refine gw_aload_n F 0 rfl rfl t348.1 dX11_init_175 ?_
  refine gy_new F (kd := 24) (T := TX4) (by decide) rfl sg_lay_RX4 tyX4_ok kw_316 kw_191 kw_97 ns_X4 nf_X4 nr_X4 (by decide) (by decide) (List.forall_mem_cons.mpr ⟨(Or.inl t348.2.1), (fun _ h => absurd h List.not_mem_nil)⟩) (List.forall_mem_cons.mpr ⟨(Or.inl t348.2.1), (fun _ h => absurd h List.not_mem_nil)⟩) dX11_init_176 (fun q354 La355 s356 o357 e358 e359 e360 t361 hX362 => ?_)
  have hf := hf q354 La355 e358 s356 e359 o357 e360
  have hn363 : La.1 ≤ o357.toNat := by rw [e360, Int.toNat_natCast]; exact (hX351 : sg_X La La345).1
  have t364 := t348.X hX362
  have hst365 := hst350.X hX362
  have hX366 := sg_X.tr (hX351) hX362
  refine gw_dup F rfl dX11_init_179 ?_
  refine gw_bipush F rfl dX11_init_180 ?_
  refine gk_BV F (gc_I F (S := [sg_r o357, sg_r o]) (As := [sg_i 40]) (CX4_init t361 (by decide) hf) t361.1 kw_194 kw_97 kw_317 kw_193 rfl hcX4_init ⟨by decide, by decide⟩ rfl rfl (Nat.le_of_ble_eq_true rfl) ⟨by decide, by decide⟩ dX11_init_182) (List.forall_mem_cons.mpr ⟨(Or.inl t364.2.1), (fun _ h => absurd h List.not_mem_nil)⟩) (List.forall_mem_cons.mpr ⟨(Or.inl t361.2.1), (List.forall_mem_cons.mpr ⟨(Or.inl t364.2.1), (fun _ h => absurd h List.not_mem_nil)⟩)⟩) (fun La367 s368 hX369 hf => ?_)
  have t370 := (sg_O_sx t364 t361 (by decide)).X hX369
  have t371 := (sg_O_sealed t361).X hX369
  have hst372 := (sg_St_sx hst365 t361 ⟨by decide, by decide, by decide⟩).X hX369
  have hX373 := (sg_X_sx (hX366) hn363).tr hX369
  obtain ⟨s374, e375⟩ : ∃ z : sg_M, z = sg_up s368 o 13 o357 := ⟨_, rfl⟩
  have hf := hf s374 e375
  refine gw_put5F F t370 (by decide) rfl sg_lay_RX11 (j := 13) (by decide) (D0 := tyX11 13) (fun _ => ⟨rfl, rfl⟩) t371.1 t371.2.1 e375 tyX11_ok nmX11 rfl hin rfl (tyX11_ok 13 (by decide)) rfl (host := "") kw_339 dX11_init_185 ?_
  refine gw_aload_n F 0 rfl rfl t370.1 dX11_init_188 ?_
  refine gy_new F (kd := 24) (T := TX4) (by decide) rfl sg_lay_RX4 tyX4_ok kw_316 kw_191 kw_97 ns_X4 nf_X4 nr_X4 (by decide) (by decide) (List.forall_mem_cons.mpr ⟨(Or.inl t370.2.1), (fun _ h => absurd h List.not_mem_nil)⟩) (List.forall_mem_cons.mpr ⟨(Or.inl t370.2.1), (fun _ h => absurd h List.not_mem_nil)⟩) dX11_init_189 (fun q376 La377 s378 o379 e380 e381 e382 t383 hX384 => ?_)
  have hf := hf q376 La377 e380 s378 e381 o379 e382
  have hn385 : La.1 ≤ o379.toNat := by rw [e382, Int.toNat_natCast]; exact (hX373 : sg_X La La367).1
  have t386 := t370.X hX384
  have hst387 := hst372.X hX384
  have hX388 := sg_X.tr (hX373) hX384
  refine gw_dup F rfl dX11_init_192 ?_
  refine gw_bipush F rfl dX11_init_193 ?_
  refine gk_BV F (gc_I F (S := [sg_r o379, sg_r o]) (As := [sg_i 40]) (CX4_init t383 (by decide) hf) t383.1 kw_194 kw_97 kw_317 kw_193 rfl hcX4_init ⟨by decide, by decide⟩ rfl rfl (Nat.le_of_ble_eq_true rfl) ⟨by decide, by decide⟩ dX11_init_195) (List.forall_mem_cons.mpr ⟨(Or.inl t386.2.1), (fun _ h => absurd h List.not_mem_nil)⟩) (List.forall_mem_cons.mpr ⟨(Or.inl t383.2.1), (List.forall_mem_cons.mpr ⟨(Or.inl t386.2.1), (fun _ h => absurd h List.not_mem_nil)⟩)⟩) (fun La389 s390 hX391 hf => ?_)
  have t392 := (sg_O_sx t386 t383 (by decide)).X hX391
  have t393 := (sg_O_sealed t383).X hX391
  have hst394 := (sg_St_sx hst387 t383 ⟨by decide, by decide, by decide⟩).X hX391
  have hX395 := (sg_X_sx (hX388) hn385).tr hX391
  obtain ⟨s396, e397⟩ : ∃ z : sg_M, z = sg_up s390 o 14 o379 := ⟨_, rfl⟩
  have hf := hf s396 e397
  refine gw_put5F F t392 (by decide) rfl sg_lay_RX11 (j := 14) (by decide) (D0 := tyX11 14) (fun _ => ⟨rfl, rfl⟩) t393.1 t393.2.1 e397 tyX11_ok nmX11 rfl hin rfl (tyX11_ok 14 (by decide)) rfl (host := "") kw_340 dX11_init_198 ?_
  refine gw_aload_n F 0 rfl rfl t392.1 dX11_init_201 ?_
  refine gy_new F (kd := 24) (T := TX4) (by decide) rfl sg_lay_RX4 tyX4_ok kw_316 kw_191 kw_97 ns_X4 nf_X4 nr_X4 (by decide) (by decide) (List.forall_mem_cons.mpr ⟨(Or.inl t392.2.1), (fun _ h => absurd h List.not_mem_nil)⟩) (List.forall_mem_cons.mpr ⟨(Or.inl t392.2.1), (fun _ h => absurd h List.not_mem_nil)⟩) dX11_init_202 (fun q398 La399 s400 o401 e402 e403 e404 t405 hX406 => ?_)
  have hf := hf q398 La399 e402 s400 e403 o401 e404
  have hn407 : La.1 ≤ o401.toNat := by rw [e404, Int.toNat_natCast]; exact (hX395 : sg_X La La389).1
  have t408 := t392.X hX406
  have hst409 := hst394.X hX406
  have hX410 := sg_X.tr (hX395) hX406
  refine gw_dup F rfl dX11_init_205 ?_
  refine gw_sipush F rfl dX11_init_206 ?_
  refine gk_BV F (gc_I F (S := [sg_r o401, sg_r o]) (As := [sg_i 200]) (CX4_init t405 (by decide) hf) t405.1 kw_194 kw_97 kw_317 kw_193 rfl hcX4_init ⟨by decide, by decide⟩ rfl rfl (Nat.le_of_ble_eq_true rfl) ⟨by decide, by decide⟩ dX11_init_209) (List.forall_mem_cons.mpr ⟨(Or.inl t408.2.1), (fun _ h => absurd h List.not_mem_nil)⟩) (List.forall_mem_cons.mpr ⟨(Or.inl t405.2.1), (List.forall_mem_cons.mpr ⟨(Or.inl t408.2.1), (fun _ h => absurd h List.not_mem_nil)⟩)⟩) (fun La411 s412 hX413 hf => ?_)
  have t414 := (sg_O_sx t408 t405 (by decide)).X hX413
  have t415 := (sg_O_sealed t405).X hX413
  have hst416 := (sg_St_sx hst409 t405 ⟨by decide, by decide, by decide⟩).X hX413
  have hX417 := (sg_X_sx (hX410) hn407).tr hX413
  obtain ⟨s418, e419⟩ : ∃ z : sg_M, z = sg_up s412 o 15 o401 := ⟨_, rfl⟩
  have hf := hf s418 e419
  refine gw_put5F F t414 (by decide) rfl sg_lay_RX11 (j := 15) (by decide) (D0 := tyX11 15) (fun _ => ⟨rfl, rfl⟩) t415.1 t415.2.1 e419 tyX11_ok nmX11 rfl hin rfl (tyX11_ok 15 (by decide)) rfl (host := "") kw_341 dX11_init_212 ?_
  refine gw_aload_n F 0 rfl rfl t414.1 dX11_init_215 ?_
  refine gw_iconst F dX11_init_216 ?_
  obtain ⟨s420, e421⟩ : ∃ z : sg_M, z = sg_up s418 o 16 0 := ⟨_, rfl⟩
  have hf := hf s420 e421
  refine gw_put0 F t414 (by decide) rfl sg_lay_RX11 (j := 16) (by decide) (by decide) e421 tyX11_ok nmX11 rfl (tyX11_ok 16 (by decide)) rfl (host := "") (.inl kw_342) dX11_init_217 ?_
  refine gw_aload_n F 0 rfl rfl t414.1 dX11_init_220 ?_
  refine gw_iconst F dX11_init_221 ?_
  obtain ⟨s422, e423⟩ : ∃ z : sg_M, z = sg_up s420 o 17 0 := ⟨_, rfl⟩
  have hf := hf s422 e423
  refine gw_put0 F t414 (by decide) rfl sg_lay_RX11 (j := 17) (by decide) (by decide) e423 tyX11_ok nmX11 rfl (tyX11_ok 17 (by decide)) rfl (host := "") (.inl kw_343) dX11_init_222 ?_
  refine gw_aload_n F 0 rfl rfl t414.1 dX11_init_225 ?_
  refine gw_iconst F dX11_init_226 ?_
  obtain ⟨s424, e425⟩ : ∃ z : sg_M, z = sg_up s422 o 18 (-1) := ⟨_, rfl⟩
  have hf := hf s424 e425
  refine gw_put0 F t414 (by decide) rfl sg_lay_RX11 (j := 18) (by decide) (by decide) e425 tyX11_ok nmX11 rfl (tyX11_ok 18 (by decide)) rfl (host := "") (.inl kw_344) dX11_init_227 ?_
  refine gw_aload_n F 0 rfl rfl t414.1 dX11_init_230 ?_
  refine gw_get5 F t414 (by decide) rfl sg_lay_RX11 (j := 2) (by decide) rfl (host := "") (.inl kw_328) dX11_init_231 (fun h426 => ?_)
  obtain ⟨g427, hf⟩ := hf
  refine gw_get4 F g427 (by decide) rfl sg_lay_RX7 (j := 0) (by decide) rfl (.inr kw_234) dX11_init_234 (fun h428 => ?_)
  refine gw_iconst F dX11_init_237 ?_
  refine gw_bipush F rfl dX11_init_238 ?_
  refine gw_iconst F dX11_init_240 ?_
  refine gw_iconst F dX11_init_241 ?_
  refine gw_iconst F dX11_init_242 ?_
  obtain ⟨g429, hf⟩ := hf
  have t430 := sg_nn h428 g429
  refine gk_HV F (gc_V F (S := []) (As := [sg_i 3, sg_i 30, sg_i 5, sg_i 0, sg_i 0]) (T := TX1) (N := 7) (CX1_addAlike t430 (by decide) (by decide) (by decide) (by decide) (by decide) hf) t430 (by decide) rfl kw_321 kw_94 kw_318 kw_319 kw_320 hcX1_addAlike ⟨by decide, by decide⟩ rfl rfl (Nat.le_of_ble_eq_true rfl) ⟨by decide, by decide⟩ dX11_init_243) (fun s431 hf => ?_)
  refine gw_aload_n F 0 rfl rfl t414.1 dX11_init_246 ?_
  refine gw_get5 F t414 (by decide) rfl sg_lay_RX11 (j := 2) (by decide) rfl (host := "") (.inl kw_328) dX11_init_247 (fun h432 => ?_)
  obtain ⟨g433, hf⟩ := hf
  refine gw_get4 F g433 (by decide) rfl sg_lay_RX7 (j := 0) (by decide) rfl (.inr kw_234) dX11_init_250 (fun h434 => ?_)
  obtain ⟨g435, hf⟩ := hf
  have t436 := sg_nn h434 g435
  refine gk_HV F (gc_V F (S := []) (As := []) (T := TX1) (N := 7) (CX1_fillUntold t436 hf) t436 (by decide) rfl kw_325 kw_94 kw_322 kw_323 kw_324 hcX1_fillUntold ⟨by decide, by decide⟩ rfl rfl (Nat.le_of_ble_eq_true rfl) ⟨by decide, by decide⟩ dX11_init_253) (fun s437 hf => ?_)
  obtain ⟨g439, hf⟩ := hf
  obtain ⟨La438, e440⟩ : ∃ z : sg_L, z = sg_se La411 o.toNat 11 := ⟨_, rfl⟩
  have hf := hf La438 e440
  refine gy_seal t414 ⟨by decide, by decide, by decide⟩ (by decide) (by decide) g439 e440 ?_
  exact gr_BC F (o := o.toNat) (kd := 11) hf (by rw [e440]; exact sg_X.both hX417) (by decide) (by decide) dX11_init_256

theorem dX11_breaks_0 : decode cX11_breaks 0 = .ok (.iload_n 1, 1) := by decide +kernel
theorem dX11_breaks_1 : decode cX11_breaks 1 = .ok (.iload_n 2, 1) := by decide +kernel
theorem dX11_breaks_2 : decode cX11_breaks 2 = .ok (.invokestatic 158, 3) := by decide +kernel
theorem dX11_breaks_5 : decode cX11_breaks 5 = .ok (.ifCond .ne 6, 3) := by decide +kernel
theorem dX11_breaks_8 : decode cX11_breaks 8 = .ok (.bipush (-2), 2) := by decide +kernel
theorem dX11_breaks_10 : decode cX11_breaks 10 = .ok (.ireturn, 1) := by decide +kernel
theorem dX11_breaks_11 : decode cX11_breaks 11 = .ok (.aload_n 0, 1) := by decide +kernel
theorem dX11_breaks_12 : decode cX11_breaks 12 = .ok (.getfield 54, 3) := by decide +kernel
theorem dX11_breaks_15 : decode cX11_breaks 15 = .ok (.aload_n 0, 1) := by decide +kernel
theorem dX11_breaks_16 : decode cX11_breaks 16 = .ok (.getfield 39, 3) := by decide +kernel
theorem dX11_breaks_19 : decode cX11_breaks 19 = .ok (.getfield 112, 3) := by decide +kernel
theorem dX11_breaks_22 : decode cX11_breaks 22 = .ok (.iload_n 1, 1) := by decide +kernel
theorem dX11_breaks_23 : decode cX11_breaks 23 = .ok (.iload_n 2, 1) := by decide +kernel
theorem dX11_breaks_24 : decode cX11_breaks 24 = .ok (.invokevirtual 171, 3) := by decide +kernel
theorem dX11_breaks_27 : decode cX11_breaks 27 = .ok (.aload_n 0, 1) := by decide +kernel
theorem dX11_breaks_28 : decode cX11_breaks 28 = .ok (.getfield 54, 3) := by decide +kernel
theorem dX11_breaks_31 : decode cX11_breaks 31 = .ok (.getfield 175, 3) := by decide +kernel
theorem dX11_breaks_34 : decode cX11_breaks 34 = .ok (.ireturn, 1) := by decide +kernel
theorem hcX11_breaks : yX11_breaks.cls ≠ "java/lang/invoke/MethodHandle" ∧ yX11_breaks.cls ≠ "java/lang/invoke/VarHandle" ∧ (parseMethodDescriptor yX11_breaks.desc).map (fun d => d.parameters.length) = some 2 := ⟨by decide +kernel, by decide +kernel, by decide +kernel⟩
def fX11_breaks (La : sg_L) (s0 : sg_M) (x1 : Int) (x2 : Int) (Q : Int → sg_M → Prop) : Prop := fX11_isBend x1 x2 (fun u1 => ((u1 ≠ 0 → (0 ≤ (s0 4 0)) ∧ fX0_bendTo La s0 (s0 4 0) x1 x2 (fun s9 => Q (s9 32 5) s9)) ∧ (u1 = 0 → Q (-2) s0)))
set_option maxHeartbeats 4000000 in
set_option maxRecDepth 100000 in
theorem CX11_breaks {l : Launch} {G : sg_G} {La : sg_L} {s0 : sg_M} (hst : sg_St La) {x1 : Int} (r1 : sg_R x1) {x2 : Int} (r2 : sg_R x2) {Q : Int → sg_M → Prop} (hf : fX11_breaks La s0 x1 x2 Q) : sg_C l G yX11_breaks cX11_breaks 3 (some .int) 5 0 0 La s0 [sg_r 0, sg_i x1, sg_i x2] (sg_HI La Q) := by
  refine sg_body (by decide +kernel) (Nat.le_of_ble_eq_true rfl) ?_
  intro p e s m args below meth c F hnm
  unfold fX11_breaks at hf
  show sg_W p l e (sg_rm 5 0 0) s m args below meth c (MQ below (sg_Q (some .int) G La s.heap.size (sg_HI La Q)) args s 0 0 (sg_A La s.heap.size)) 3 G (sg_A La s.heap.size) La s0 0 0 0 [(0, sg_r 0), (1, sg_i x1), (2, sg_i x2)] []
  refine gw_iload_n F 1 rfl rfl dX11_breaks_0 ?_
  refine gw_iload_n F 2 rfl rfl dX11_breaks_1 ?_
  refine gk_PZ F (gc_S F (S := []) (As := [sg_i x1, sg_i x2]) (CX11_isBend r1 r2 hf) kw_502 kw_90 kw_500 kw_501 hcX11_isBend ⟨by decide, by decide⟩ rfl rfl (Nat.le_of_ble_eq_true rfl) ⟨by decide, by decide⟩ dX11_breaks_2) (fun u1 h2 hf => ?_)
  refine gw_if_ne F (tgt := 11) dX11_breaks_5 (by decide) (sg_B_R h2) (fun c3 => ?_) (fun c3 => ?_)
  · have hf := hf.1 c3
    refine gw_aload_n F 0 rfl rfl (by decide) dX11_breaks_11 ?_
    refine gw_get7 F (so_0 hst) (by decide) rfl sg_lay_RX11 (j := 5) (by decide) (o1 := 32) (by first | rfl | omega) rfl (host := "") (.inl kw_331) dX11_breaks_12 (fun h4 => ?_)
    refine gw_aload_n F 0 rfl rfl (by decide) dX11_breaks_15 ?_
    refine gw_get7 F (so_0 hst) (by decide) rfl sg_lay_RX11 (j := 2) (by decide) (o1 := 4) (by first | rfl | omega) rfl (host := "") (.inl kw_328) dX11_breaks_16 (fun h5 => ?_)
    refine gw_get4 F (so_4 hst) (by decide) rfl sg_lay_RX7 (j := 0) (by decide) rfl (.inr kw_234) dX11_breaks_19 (fun h6 => ?_)
    refine gw_iload_n F 1 rfl rfl dX11_breaks_22 ?_
    refine gw_iload_n F 2 rfl rfl dX11_breaks_23 ?_
    obtain ⟨g7, hf⟩ := hf
    have t8 := sg_nn h6 g7
    refine gk_HV F (gc_V F (S := []) (As := [sg_r (s0 4 0), sg_i x1, sg_i x2]) (T := TX0) (N := 11) (CX0_bendTo hst t8 r1 r2 hf) (so_32 hst) (by decide) rfl kw_506 kw_100 kw_503 kw_504 kw_505 hcX0_bendTo ⟨by decide, by decide⟩ rfl rfl (Nat.le_of_ble_eq_true rfl) ⟨by decide, by decide⟩ dX11_breaks_24) (fun s9 hf => ?_)
    refine gw_aload_n F 0 rfl rfl (by decide) dX11_breaks_27 ?_
    refine gw_get7 F (so_0 hst) (by decide) rfl sg_lay_RX11 (j := 5) (by decide) (o1 := 32) (by first | rfl | omega) rfl (host := "") (.inl kw_331) dX11_breaks_28 (fun h10 => ?_)
    refine gw_get0 F (so_32 hst) (by decide) rfl sg_lay_RX0 (j := 5) (by decide) rfl (.inr kw_260) dX11_breaks_31 (fun h11 => ?_)
    exact gr_HI F h11 hf (by decide) (by decide) dX11_breaks_34
  · have hf := hf.2 c3
    refine gw_bipush F rfl dX11_breaks_8 ?_
    exact gr_HI F (by decide) hf (by decide) (by decide) dX11_breaks_10

theorem dX11_voice_0 : decode cX11_voice 0 = .ok (.iload_n 2, 1) := by decide +kernel
theorem dX11_voice_1 : decode cX11_voice 1 = .ok (.ifCond .lt 8, 3) := by decide +kernel
theorem dX11_voice_4 : decode cX11_voice 4 = .ok (.iload_n 2, 1) := by decide +kernel
theorem dX11_voice_5 : decode cX11_voice 5 = .ok (.iconst 1, 1) := by decide +kernel
theorem dX11_voice_6 : decode cX11_voice 6 = .ok (.if_icmp .le 5, 3) := by decide +kernel
theorem dX11_voice_9 : decode cX11_voice 9 = .ok (.iconst (-1), 1) := by decide +kernel
theorem dX11_voice_10 : decode cX11_voice 10 = .ok (.ireturn, 1) := by decide +kernel
theorem dX11_voice_11 : decode cX11_voice 11 = .ok (.aload_n 0, 1) := by decide +kernel
theorem dX11_voice_12 : decode cX11_voice 12 = .ok (.invokevirtual 251, 3) := by decide +kernel
theorem dX11_voice_15 : decode cX11_voice 15 = .ok (.iload_n 2, 1) := by decide +kernel
theorem dX11_voice_16 : decode cX11_voice 16 = .ok (.ifCond .ne 14, 3) := by decide +kernel
theorem dX11_voice_19 : decode cX11_voice 19 = .ok (.aload_n 0, 1) := by decide +kernel
theorem dX11_voice_20 : decode cX11_voice 20 = .ok (.getfield 93, 3) := by decide +kernel
theorem dX11_voice_23 : decode cX11_voice 23 = .ok (.iload_n 1, 1) := by decide +kernel
theorem dX11_voice_24 : decode cX11_voice 24 = .ok (.invokevirtual 182, 3) := by decide +kernel
theorem dX11_voice_27 : decode cX11_voice 27 = .ok (.goto 11, 3) := by decide +kernel
theorem dX11_voice_30 : decode cX11_voice 30 = .ok (.aload_n 0, 1) := by decide +kernel
theorem dX11_voice_31 : decode cX11_voice 31 = .ok (.getfield 96, 3) := by decide +kernel
theorem dX11_voice_34 : decode cX11_voice 34 = .ok (.iload_n 1, 1) := by decide +kernel
theorem dX11_voice_35 : decode cX11_voice 35 = .ok (.invokevirtual 182, 3) := by decide +kernel
theorem dX11_voice_38 : decode cX11_voice 38 = .ok (.ireturn, 1) := by decide +kernel
theorem hcX11_voice : yX11_voice.cls ≠ "java/lang/invoke/MethodHandle" ∧ yX11_voice.cls ≠ "java/lang/invoke/VarHandle" ∧ (parseMethodDescriptor yX11_voice.desc).map (fun d => d.parameters.length) = some 2 := ⟨by decide +kernel, by decide +kernel, by decide +kernel⟩
def fX11_voice (La : sg_L) (s0 : sg_M) (x1 : Int) (x2 : Int) (Q : Int → sg_M → Prop) : Prop := ((x2 < 0 → Q (-1) s0) ∧ (¬ (x2 < 0) → ((x2 ≤ 1 → fX11_hearBook La s0 (fun s3 => ((x2 ≠ 0 → fX4_at La s3 60 x1 (fun u6 => Q u6 s3)) ∧ (x2 = 0 → fX4_at La s3 58 x1 (fun u9 => Q u9 s3))))) ∧ (¬ (x2 ≤ 1) → Q (-1) s0))))
set_option maxHeartbeats 4000000 in
set_option maxRecDepth 100000 in
theorem CX11_voice {l : Launch} {G : sg_G} {La : sg_L} {s0 : sg_M} (hst : sg_St La) {x1 : Int} (r1 : sg_R x1) {x2 : Int} (r2 : sg_R x2) {Q : Int → sg_M → Prop} (hf : fX11_voice La s0 x1 x2 Q) : sg_C l G yX11_voice cX11_voice 3 (some .int) 7 0 0 La s0 [sg_r 0, sg_i x1, sg_i x2] (sg_HI La Q) := by
  refine sg_body (by decide +kernel) (Nat.le_of_ble_eq_true rfl) ?_
  intro p e s m args below meth c F hnm
  unfold fX11_voice at hf
  show sg_W p l e (sg_rm 7 0 0) s m args below meth c (MQ below (sg_Q (some .int) G La s.heap.size (sg_HI La Q)) args s 0 0 (sg_A La s.heap.size)) 3 G (sg_A La s.heap.size) La s0 0 0 0 [(0, sg_r 0), (1, sg_i x1), (2, sg_i x2)] []
  refine gw_iload_n F 2 rfl rfl dX11_voice_0 ?_
  refine gw_if_lt F (tgt := 9) dX11_voice_1 (by decide) r2 (fun c1 => ?_) (fun c1 => ?_)
  · have hf := hf.1 c1
    refine gw_iconst F dX11_voice_9 ?_
    exact gr_HI F (by decide) hf (by decide) (by decide) dX11_voice_10
  · have hf := hf.2 c1
    refine gw_iload_n F 2 rfl rfl dX11_voice_4 ?_
    refine gw_iconst F dX11_voice_5 ?_
    refine gw_icmp_le F (tgt := 11) dX11_voice_6 (by decide) r2 (by decide) (fun c2 => ?_) (fun c2 => ?_)
    · have hf := hf.1 c2
      refine gw_aload_n F 0 rfl rfl (by decide) dX11_voice_11 ?_
      refine gk_HV F (gc_V F (S := []) (As := []) (T := TX11) (N := 19) (CX11_hearBook hst hf) (so_0 hst) (by decide) rfl kw_651 kw_90 kw_649 kw_650 kw_19 hcX11_hearBook ⟨by decide, by decide⟩ rfl rfl (Nat.le_of_ble_eq_true rfl) ⟨by decide, by decide⟩ dX11_voice_12) (fun s3 hf => ?_)
      refine gw_iload_n F 2 rfl rfl dX11_voice_15 ?_
      refine gw_if_ne F (tgt := 30) dX11_voice_16 (by decide) r2 (fun c4 => ?_) (fun c4 => ?_)
      · have hf := hf.1 c4
        refine gw_aload_n F 0 rfl rfl (by decide) dX11_voice_30 ?_
        refine gw_get7 F (so_0 hst) (by decide) rfl sg_lay_RX11 (j := 14) (by decide) (o1 := 60) (by first | rfl | omega) rfl (host := "") (.inl kw_340) dX11_voice_31 (fun h5 => ?_)
        refine gw_iload_n F 1 rfl rfl dX11_voice_34 ?_
        refine gk_PI F (gc_V F (S := []) (As := [sg_i x1]) (T := TX4) (N := 3) (CX4_at (so_60 hst) r1 hf) (so_60 hst) (by decide) rfl kw_546 kw_97 kw_543 kw_544 kw_545 hcX4_at ⟨by decide, by decide⟩ rfl rfl (Nat.le_of_ble_eq_true rfl) ⟨by decide, by decide⟩ dX11_voice_35) (fun u6 h7 hf => ?_)
        exact gr_HI F h7 hf (by decide) (by decide) dX11_voice_38
      · have hf := hf.2 c4
        refine gw_aload_n F 0 rfl rfl (by decide) dX11_voice_19 ?_
        refine gw_get7 F (so_0 hst) (by decide) rfl sg_lay_RX11 (j := 13) (by decide) (o1 := 58) (by first | rfl | omega) rfl (host := "") (.inl kw_339) dX11_voice_20 (fun h8 => ?_)
        refine gw_iload_n F 1 rfl rfl dX11_voice_23 ?_
        refine gk_PI F (gc_V F (S := []) (As := [sg_i x1]) (T := TX4) (N := 3) (CX4_at (so_58 hst) r1 hf) (so_58 hst) (by decide) rfl kw_546 kw_97 kw_543 kw_544 kw_545 hcX4_at ⟨by decide, by decide⟩ rfl rfl (Nat.le_of_ble_eq_true rfl) ⟨by decide, by decide⟩ dX11_voice_24) (fun u9 h10 hf => ?_)
        refine gw_goto F (tgt := 38) dX11_voice_27 (by decide) ?_
        exact gr_HI F h10 hf (by decide) (by decide) dX11_voice_38
    · have hf := hf.2 c2
      refine gw_iconst F dX11_voice_9 ?_
      exact gr_HI F (by decide) hf (by decide) (by decide) dX11_voice_10

theorem dX11_readAt_0 : decode cX11_readAt 0 = .ok (.aload_n 0, 1) := by decide +kernel
theorem dX11_readAt_1 : decode cX11_readAt 1 = .ok (.getfield 83, 3) := by decide +kernel
theorem dX11_readAt_4 : decode cX11_readAt 4 = .ok (.iload_n 1, 1) := by decide +kernel
theorem dX11_readAt_5 : decode cX11_readAt 5 = .ok (.invokevirtual 182, 3) := by decide +kernel
theorem dX11_readAt_8 : decode cX11_readAt 8 = .ok (.ireturn, 1) := by decide +kernel
theorem hcX11_readAt : yX11_readAt.cls ≠ "java/lang/invoke/MethodHandle" ∧ yX11_readAt.cls ≠ "java/lang/invoke/VarHandle" ∧ (parseMethodDescriptor yX11_readAt.desc).map (fun d => d.parameters.length) = some 1 := ⟨by decide +kernel, by decide +kernel, by decide +kernel⟩
def fX11_readAt (La : sg_L) (s0 : sg_M) (x1 : Int) (Q : Int → Prop) : Prop := fX4_at La s0 52 x1 (fun u2 => Q u2)
set_option maxHeartbeats 4000000 in
set_option maxRecDepth 100000 in
theorem CX11_readAt {l : Launch} {G : sg_G} {La : sg_L} {s0 : sg_M} (hst : sg_St La) {x1 : Int} (r1 : sg_R x1) {Q : Int → Prop} (hf : fX11_readAt La s0 x1 Q) : sg_C l G yX11_readAt cX11_readAt 2 (some .int) 2 0 0 La s0 [sg_r 0, sg_i x1] (sg_PI La s0 Q) := by
  refine sg_body (by decide +kernel) (Nat.le_of_ble_eq_true rfl) ?_
  intro p e s m args below meth c F hnm
  unfold fX11_readAt at hf
  show sg_W p l e (sg_rm 2 0 0) s m args below meth c (MQ below (sg_Q (some .int) G La s.heap.size (sg_PI La s0 Q)) args s 0 0 (sg_A La s.heap.size)) 2 G (sg_A La s.heap.size) La s0 0 0 0 [(0, sg_r 0), (1, sg_i x1)] []
  refine gw_aload_n F 0 rfl rfl (by decide) dX11_readAt_0 ?_
  refine gw_get7 F (so_0 hst) (by decide) rfl sg_lay_RX11 (j := 10) (by decide) (o1 := 52) (by first | rfl | omega) rfl (host := "") (.inl kw_336) dX11_readAt_1 (fun h1 => ?_)
  refine gw_iload_n F 1 rfl rfl dX11_readAt_4 ?_
  refine gk_PI F (gc_V F (S := []) (As := [sg_i x1]) (T := TX4) (N := 3) (CX4_at (so_52 hst) r1 hf) (so_52 hst) (by decide) rfl kw_546 kw_97 kw_543 kw_544 kw_545 hcX4_at ⟨by decide, by decide⟩ rfl rfl (Nat.le_of_ble_eq_true rfl) ⟨by decide, by decide⟩ dX11_readAt_5) (fun u2 h3 hf => ?_)
  exact gr_PI F h3 hf (by decide) (by decide) dX11_readAt_8

theorem dX6_setCost_0 : decode cX6_setCost 0 = .ok (.iload_n 1, 1) := by decide +kernel
theorem dX6_setCost_1 : decode cX6_setCost 1 = .ok (.bipush 40, 2) := by decide +kernel
theorem dX6_setCost_3 : decode cX6_setCost 3 = .ok (.imul, 1) := by decide +kernel
theorem dX6_setCost_4 : decode cX6_setCost 4 = .ok (.iload_n 2, 1) := by decide +kernel
theorem dX6_setCost_5 : decode cX6_setCost 5 = .ok (.iadd, 1) := by decide +kernel
theorem dX6_setCost_6 : decode cX6_setCost 6 = .ok (.istore 4, 2) := by decide +kernel
theorem dX6_setCost_8 : decode cX6_setCost 8 = .ok (.iload 4, 2) := by decide +kernel
theorem dX6_setCost_10 : decode cX6_setCost 10 = .ok (.ifCond .lt 21, 3) := by decide +kernel
theorem dX6_setCost_13 : decode cX6_setCost 13 = .ok (.iload 4, 2) := by decide +kernel
theorem dX6_setCost_15 : decode cX6_setCost 15 = .ok (.aload_n 0, 1) := by decide +kernel
theorem dX6_setCost_16 : decode cX6_setCost 16 = .ok (.getfield 9, 3) := by decide +kernel
theorem dX6_setCost_19 : decode cX6_setCost 19 = .ok (.arraylength, 1) := by decide +kernel
theorem dX6_setCost_20 : decode cX6_setCost 20 = .ok (.if_icmp .ge 11, 3) := by decide +kernel
theorem dX6_setCost_23 : decode cX6_setCost 23 = .ok (.aload_n 0, 1) := by decide +kernel
theorem dX6_setCost_24 : decode cX6_setCost 24 = .ok (.getfield 9, 3) := by decide +kernel
theorem dX6_setCost_27 : decode cX6_setCost 27 = .ok (.iload 4, 2) := by decide +kernel
theorem dX6_setCost_29 : decode cX6_setCost 29 = .ok (.iload_n 3, 1) := by decide +kernel
theorem dX6_setCost_30 : decode cX6_setCost 30 = .ok (.iastore, 1) := by decide +kernel
theorem dX6_setCost_31 : decode cX6_setCost 31 = .ok (.return_, 1) := by decide +kernel
theorem hcX6_setCost : yX6_setCost.cls ≠ "java/lang/invoke/MethodHandle" ∧ yX6_setCost.cls ≠ "java/lang/invoke/VarHandle" ∧ (parseMethodDescriptor yX6_setCost.desc).map (fun d => d.parameters.length) = some 3 := ⟨by decide +kernel, by decide +kernel, by decide +kernel⟩
def fX6_setCost (s0 : sg_M) (x1 : Int) (x2 : Int) (x3 : Int) (Q : sg_M → Prop) : Prop := sg_R ((x1 * 40) + x2) ∧ ((((x1 * 40) + x2) < 0 → Q s0) ∧ (¬ (((x1 * 40) + x2) < 0) → sg_R 2400 ∧ ((2400 ≤ ((x1 * 40) + x2) → Q s0) ∧ (¬ (2400 ≤ ((x1 * 40) + x2)) → (0 ≤ ((x1 * 40) + x2) ∧ ((x1 * 40) + x2) < 2400) ∧ ∀ s8 : sg_M, s8 = sg_up s0 47 ((x1 * 40) + x2) x3 → Q s8))))
set_option maxHeartbeats 4000000 in
set_option maxRecDepth 100000 in
theorem CX6_setCost {l : Launch} {G : sg_G} {La : sg_L} {s0 : sg_M} (hst : sg_St La) {x1 : Int} (r1 : sg_R x1) {x2 : Int} (r2 : sg_R x2) {x3 : Int} (r3 : sg_R x3) {Q : sg_M → Prop} (hf : fX6_setCost s0 x1 x2 x3 Q) : sg_C l G yX6_setCost cX6_setCost 5 (none) 1 0 0 La s0 [sg_r 46, sg_i x1, sg_i x2, sg_i x3] (sg_HV La Q) := by
  refine sg_body (by decide +kernel) (Nat.le_of_ble_eq_true rfl) ?_
  intro p e s m args below meth c F hnm
  unfold fX6_setCost at hf
  show sg_W p l e (sg_rm 1 0 0) s m args below meth c (MQ below (sg_Q (none) G La s.heap.size (sg_HV La Q)) args s 0 0 (sg_A La s.heap.size)) 5 G (sg_A La s.heap.size) La s0 0 0 0 [(0, sg_r 46), (1, sg_i x1), (2, sg_i x2), (3, sg_i x3)] []
  refine gw_iload_n F 1 rfl rfl dX6_setCost_0 ?_
  refine gw_bipush F rfl dX6_setCost_1 ?_
  refine gw_imul F rfl dX6_setCost_3 ?_
  refine gw_iload_n F 2 rfl rfl dX6_setCost_4 ?_
  refine gw_iadd F rfl dX6_setCost_5 ?_
  refine gw_istore F (by decide) rfl dX6_setCost_6 ?_
  refine gw_iload F 0 rfl dX6_setCost_8 ?_
  obtain ⟨g1, hf⟩ := hf
  refine gw_if_lt F (tgt := 31) dX6_setCost_10 (by decide) g1 (fun c2 => ?_) (fun c2 => ?_)
  · have hf := hf.1 c2
    exact gr_HV F hf (by decide) (by decide) dX6_setCost_31
  · have hf := hf.2 c2
    refine gw_iload F 0 rfl dX6_setCost_13 ?_
    refine gw_aload_n F 1 rfl rfl (by decide) dX6_setCost_15 ?_
    refine gw_get3 F (so_46 hst) (by decide) rfl sg_lay_RX6 (j := 0) (by decide) (o1 := 47) (by first | rfl | omega) rfl (host := "") (.inl kw_312) dX6_setCost_16 (fun h3 => ?_)
    refine gw_alen F (sa_47 hst) dX6_setCost_19 ?_
    obtain ⟨g4, hf⟩ := hf
    refine gw_icmp_ge F (tgt := 31) dX6_setCost_20 (by decide) g1 g4 (fun c5 => ?_) (fun c5 => ?_)
    · have hf := hf.1 c5
      exact gr_HV F hf (by decide) (by decide) dX6_setCost_31
    · have hf := hf.2 c5
      refine gw_aload_n F 1 rfl rfl (by decide) dX6_setCost_23 ?_
      refine gw_get3 F (so_46 hst) (by decide) rfl sg_lay_RX6 (j := 0) (by decide) (o1 := 47) (by first | rfl | omega) rfl (host := "") (.inl kw_312) dX6_setCost_24 (fun h6 => ?_)
      refine gw_iload F 0 rfl dX6_setCost_27 ?_
      refine gw_iload_n F 4 rfl rfl dX6_setCost_29 ?_
      obtain ⟨⟨b70, b71⟩, hf⟩ := hf
      obtain ⟨s8, e9⟩ : ∃ z : sg_M, z = sg_up s0 47 ((x1 * 40) + x2) x3 := ⟨_, rfl⟩
      have hf := hf s8 e9
      refine gw_iast F (sa_47 hst) b70 b71 r3 e9 dX6_setCost_30 ?_
      exact gr_HV F hf (by decide) (by decide) dX6_setCost_31

theorem dX1_strain_0 : decode cX1_strain 0 = .ok (.aload_n 0, 1) := by decide +kernel
theorem dX1_strain_1 : decode cX1_strain 1 = .ok (.iload_n 3, 1) := by decide +kernel
theorem dX1_strain_2 : decode cX1_strain 2 = .ok (.invokevirtual 38, 3) := by decide +kernel
theorem dX1_strain_5 : decode cX1_strain 5 = .ok (.ifCond .eq 23, 3) := by decide +kernel
theorem dX1_strain_8 : decode cX1_strain 8 = .ok (.aload_n 0, 1) := by decide +kernel
theorem dX1_strain_9 : decode cX1_strain 9 = .ok (.iload_n 1, 1) := by decide +kernel
theorem dX1_strain_10 : decode cX1_strain 10 = .ok (.iload_n 2, 1) := by decide +kernel
theorem dX1_strain_11 : decode cX1_strain 11 = .ok (.iload_n 3, 1) := by decide +kernel
theorem dX1_strain_12 : decode cX1_strain 12 = .ok (.invokevirtual 50, 3) := by decide +kernel
theorem dX1_strain_15 : decode cX1_strain 15 = .ok (.invokestatic 54, 3) := by decide +kernel
theorem dX1_strain_18 : decode cX1_strain 18 = .ok (.aload_n 0, 1) := by decide +kernel
theorem dX1_strain_19 : decode cX1_strain 19 = .ok (.getfield 15, 3) := by decide +kernel
theorem dX1_strain_22 : decode cX1_strain 22 = .ok (.iload_n 3, 1) := by decide +kernel
theorem dX1_strain_23 : decode cX1_strain 23 = .ok (.iaload, 1) := by decide +kernel
theorem dX1_strain_24 : decode cX1_strain 24 = .ok (.imul, 1) := by decide +kernel
theorem dX1_strain_25 : decode cX1_strain 25 = .ok (.goto 4, 3) := by decide +kernel
theorem dX1_strain_28 : decode cX1_strain 28 = .ok (.iconst 0, 1) := by decide +kernel
theorem dX1_strain_29 : decode cX1_strain 29 = .ok (.ireturn, 1) := by decide +kernel
theorem hcX1_strain : yX1_strain.cls ≠ "java/lang/invoke/MethodHandle" ∧ yX1_strain.cls ≠ "java/lang/invoke/VarHandle" ∧ (parseMethodDescriptor yX1_strain.desc).map (fun d => d.parameters.length) = some 3 := ⟨by decide +kernel, by decide +kernel, by decide +kernel⟩
def fX1_strain (s0 : sg_M) (o : Int) (x1 : Int) (x2 : Int) (x3 : Int) (Q : Int → Prop) : Prop := fX1_has s0 o x3 (fun u1 => ((u1 = 0 → Q 0) ∧ (¬ (u1 = 0) → fX1_curve s0 o x1 x2 x3 (fun u4 => (0 ≤ x3 ∧ x3 < 60) ∧ sg_R ((sg_abs u4) * (s0 (o + 2) x3)) ∧ Q ((sg_abs u4) * (s0 (o + 2) x3))))))
set_option maxHeartbeats 4000000 in
set_option maxRecDepth 100000 in
theorem CX1_strain {l : Launch} {G : sg_G} {La : sg_L} {s0 : sg_M} {o : Int} (to : sg_O La o 1) {x1 : Int} (r1 : sg_R x1) {x2 : Int} (r2 : sg_R x2) {x3 : Int} (r3 : sg_R x3) {Q : Int → Prop} (hf : fX1_strain s0 o x1 x2 x3 Q) : sg_C l G yX1_strain cX1_strain 4 (some .int) 4 0 0 La s0 [sg_r o, sg_i x1, sg_i x2, sg_i x3] (sg_PI La s0 Q) := by
  refine sg_body (by decide +kernel) (Nat.le_of_ble_eq_true rfl) ?_
  intro p e s m args below meth c F hnm
  unfold fX1_strain at hf
  show sg_W p l e (sg_rm 4 0 0) s m args below meth c (MQ below (sg_Q (some .int) G La s.heap.size (sg_PI La s0 Q)) args s 0 0 (sg_A La s.heap.size)) 4 G (sg_A La s.heap.size) La s0 0 0 0 [(0, sg_r o), (1, sg_i x1), (2, sg_i x2), (3, sg_i x3)] []
  refine gw_aload_n F 0 rfl rfl to.1 dX1_strain_0 ?_
  refine gw_iload_n F 3 rfl rfl dX1_strain_1 ?_
  refine gk_PZ F (gc_V F (S := []) (As := [sg_i x3]) (T := TX1) (N := 7) (CX1_has to r3 hf) to (by decide) rfl kw_518 kw_94 kw_515 kw_516 kw_517 hcX1_has ⟨by decide, by decide⟩ rfl rfl (Nat.le_of_ble_eq_true rfl) ⟨by decide, by decide⟩ dX1_strain_2) (fun u1 h2 hf => ?_)
  refine gw_if_eq F (tgt := 28) dX1_strain_5 (by decide) (sg_B_R h2) (fun c3 => ?_) (fun c3 => ?_)
  · have hf := hf.1 c3
    refine gw_iconst F dX1_strain_28 ?_
    exact gr_PI F (by decide) hf (by decide) (by decide) dX1_strain_29
  · have hf := hf.2 c3
    refine gw_aload_n F 0 rfl rfl to.1 dX1_strain_8 ?_
    refine gw_iload_n F 1 rfl rfl dX1_strain_9 ?_
    refine gw_iload_n F 2 rfl rfl dX1_strain_10 ?_
    refine gw_iload_n F 3 rfl rfl dX1_strain_11 ?_
    refine gk_PI F (gc_V F (S := []) (As := [sg_i x1, sg_i x2, sg_i x3]) (T := TX1) (N := 7) (CX1_curve to r1 r2 r3 hf) to (by decide) rfl kw_511 kw_94 kw_942 kw_509 kw_510 hcX1_curve ⟨by decide, by decide⟩ rfl rfl (Nat.le_of_ble_eq_true rfl) ⟨by decide, by decide⟩ dX1_strain_12) (fun u4 h5 hf => ?_)
    refine gw_abs F h5 rfl kw_943 kw_abs1 kw_math kw_abs2 (Nat.le_of_ble_eq_true rfl) (by decide) (by decide) (by decide) (by decide) dX1_strain_15 ?_
    refine gw_aload_n F 0 rfl rfl to.1 dX1_strain_18 ?_
    refine gw_get3 F to (by decide) rfl sg_lay_RX1 (j := 1) (by decide) (o1 := (o + 2)) (by first | rfl | omega) rfl (host := "") (.inl kw_159) dX1_strain_19 (fun h6 => ?_)
    refine gw_iload_n F 3 rfl rfl dX1_strain_22 ?_
    obtain ⟨⟨b70, b71⟩, hf⟩ := hf
    refine gw_iald F (sg_AN_of (sg_O_of h6 (by decide)) (by decide) (by decide) (by decide)) b70 b71 dX1_strain_23 (fun h8 => ?_)
    refine gw_imul F rfl dX1_strain_24 ?_
    refine gw_goto F (tgt := 29) dX1_strain_25 (by decide) ?_
    obtain ⟨g9, hf⟩ := hf
    exact gr_PI F g9 hf (by decide) (by decide) dX1_strain_29

theorem dX6_play_0 : decode cX6_play 0 = .ok (.aload_n 0, 1) := by decide +kernel
theorem dX6_play_1 : decode cX6_play 1 = .ok (.getfield 20, 3) := by decide +kernel
theorem dX6_play_4 : decode cX6_play 4 = .ok (.getfield 47, 3) := by decide +kernel
theorem dX6_play_7 : decode cX6_play 7 = .ok (.iconst 1, 1) := by decide +kernel
theorem dX6_play_8 : decode cX6_play 8 = .ok (.isub, 1) := by decide +kernel
theorem dX6_play_9 : decode cX6_play 9 = .ok (.istore 4, 2) := by decide +kernel
theorem dX6_play_11 : decode cX6_play 11 = .ok (.iload 4, 2) := by decide +kernel
theorem dX6_play_13 : decode cX6_play 13 = .ok (.ifCond .lt 74, 3) := by decide +kernel
theorem dX6_play_16 : decode cX6_play 16 = .ok (.iconst 0, 1) := by decide +kernel
theorem dX6_play_17 : decode cX6_play 17 = .ok (.istore 5, 2) := by decide +kernel
theorem dX6_play_19 : decode cX6_play 19 = .ok (.iload 5, 2) := by decide +kernel
theorem dX6_play_21 : decode cX6_play 21 = .ok (.aload_n 1, 1) := by decide +kernel
theorem dX6_play_22 : decode cX6_play 22 = .ok (.getfield 48, 3) := by decide +kernel
theorem dX6_play_25 : decode cX6_play 25 = .ok (.if_icmp .ge 56, 3) := by decide +kernel
theorem dX6_play_28 : decode cX6_play 28 = .ok (.aload_n 2, 1) := by decide +kernel
theorem dX6_play_29 : decode cX6_play 29 = .ok (.iload 5, 2) := by decide +kernel
theorem dX6_play_31 : decode cX6_play 31 = .ok (.invokevirtual 51, 3) := by decide +kernel
theorem dX6_play_34 : decode cX6_play 34 = .ok (.aload_n 0, 1) := by decide +kernel
theorem dX6_play_35 : decode cX6_play 35 = .ok (.getfield 20, 3) := by decide +kernel
theorem dX6_play_38 : decode cX6_play 38 = .ok (.iload 4, 2) := by decide +kernel
theorem dX6_play_40 : decode cX6_play 40 = .ok (.invokevirtual 51, 3) := by decide +kernel
theorem dX6_play_43 : decode cX6_play 43 = .ok (.iload_n 3, 1) := by decide +kernel
theorem dX6_play_44 : decode cX6_play 44 = .ok (.invokestatic 54, 3) := by decide +kernel
theorem dX6_play_47 : decode cX6_play 47 = .ok (.istore 6, 2) := by decide +kernel
theorem dX6_play_49 : decode cX6_play 49 = .ok (.aload_n 0, 1) := by decide +kernel
theorem dX6_play_50 : decode cX6_play 50 = .ok (.iload 4, 2) := by decide +kernel
theorem dX6_play_52 : decode cX6_play 52 = .ok (.iload 5, 2) := by decide +kernel
theorem dX6_play_54 : decode cX6_play 54 = .ok (.iload 6, 2) := by decide +kernel
theorem dX6_play_56 : decode cX6_play 56 = .ok (.ifCond .eq 15, 3) := by decide +kernel
theorem dX6_play_59 : decode cX6_play 59 = .ok (.aload_n 0, 1) := by decide +kernel
theorem dX6_play_60 : decode cX6_play 60 = .ok (.aload_n 1, 1) := by decide +kernel
theorem dX6_play_61 : decode cX6_play 61 = .ok (.iload 4, 2) := by decide +kernel
theorem dX6_play_63 : decode cX6_play 63 = .ok (.iload 5, 2) := by decide +kernel
theorem dX6_play_65 : decode cX6_play 65 = .ok (.invokevirtual 58, 3) := by decide +kernel
theorem dX6_play_68 : decode cX6_play 68 = .ok (.goto 4, 3) := by decide +kernel
theorem dX6_play_71 : decode cX6_play 71 = .ok (.iconst (-1), 1) := by decide +kernel
theorem dX6_play_72 : decode cX6_play 72 = .ok (.invokevirtual 62, 3) := by decide +kernel
theorem dX6_play_75 : decode cX6_play 75 = .ok (.iinc 5 1, 3) := by decide +kernel
theorem dX6_play_78 : decode cX6_play 78 = .ok (.goto (-59), 3) := by decide +kernel
theorem dX6_play_81 : decode cX6_play 81 = .ok (.iinc 4 (-1), 3) := by decide +kernel
theorem dX6_play_84 : decode cX6_play 84 = .ok (.goto (-73), 3) := by decide +kernel
theorem dX6_play_87 : decode cX6_play 87 = .ok (.aload_n 0, 1) := by decide +kernel
theorem dX6_play_88 : decode cX6_play 88 = .ok (.aload_n 1, 1) := by decide +kernel
theorem dX6_play_89 : decode cX6_play 89 = .ok (.iconst (-1), 1) := by decide +kernel
theorem dX6_play_90 : decode cX6_play 90 = .ok (.iconst (-1), 1) := by decide +kernel
theorem dX6_play_91 : decode cX6_play 91 = .ok (.invokevirtual 66, 3) := by decide +kernel
theorem dX6_play_94 : decode cX6_play 94 = .ok (.istore 4, 2) := by decide +kernel
theorem dX6_play_96 : decode cX6_play 96 = .ok (.iload 4, 2) := by decide +kernel
theorem dX6_play_98 : decode cX6_play 98 = .ok (.iconst (-1), 1) := by decide +kernel
theorem dX6_play_99 : decode cX6_play 99 = .ok (.if_icmp .ne 5, 3) := by decide +kernel
theorem dX6_play_102 : decode cX6_play 102 = .ok (.iconst (-1), 1) := by decide +kernel
theorem dX6_play_103 : decode cX6_play 103 = .ok (.ireturn, 1) := by decide +kernel
theorem dX6_play_104 : decode cX6_play 104 = .ok (.aload_n 0, 1) := by decide +kernel
theorem dX6_play_105 : decode cX6_play 105 = .ok (.getfield 24, 3) := by decide +kernel
theorem dX6_play_108 : decode cX6_play 108 = .ok (.invokevirtual 27, 3) := by decide +kernel
theorem dX6_play_111 : decode cX6_play 111 = .ok (.aload_n 0, 1) := by decide +kernel
theorem dX6_play_112 : decode cX6_play 112 = .ok (.getfield 24, 3) := by decide +kernel
theorem dX6_play_115 : decode cX6_play 115 = .ok (.iload 4, 2) := by decide +kernel
theorem dX6_play_117 : decode cX6_play 117 = .ok (.invokevirtual 44, 3) := by decide +kernel
theorem dX6_play_120 : decode cX6_play 120 = .ok (.iconst 0, 1) := by decide +kernel
theorem dX6_play_121 : decode cX6_play 121 = .ok (.istore 5, 2) := by decide +kernel
theorem dX6_play_123 : decode cX6_play 123 = .ok (.iload 5, 2) := by decide +kernel
theorem dX6_play_125 : decode cX6_play 125 = .ok (.aload_n 0, 1) := by decide +kernel
theorem dX6_play_126 : decode cX6_play 126 = .ok (.getfield 20, 3) := by decide +kernel
theorem dX6_play_129 : decode cX6_play 129 = .ok (.getfield 47, 3) := by decide +kernel
theorem dX6_play_132 : decode cX6_play 132 = .ok (.iconst 1, 1) := by decide +kernel
theorem dX6_play_133 : decode cX6_play 133 = .ok (.isub, 1) := by decide +kernel
theorem dX6_play_134 : decode cX6_play 134 = .ok (.if_icmp .ge 32, 3) := by decide +kernel
theorem dX6_play_137 : decode cX6_play 137 = .ok (.aload_n 0, 1) := by decide +kernel
theorem dX6_play_138 : decode cX6_play 138 = .ok (.getfield 24, 3) := by decide +kernel
theorem dX6_play_141 : decode cX6_play 141 = .ok (.aload_n 0, 1) := by decide +kernel
theorem dX6_play_142 : decode cX6_play 142 = .ok (.aload_n 1, 1) := by decide +kernel
theorem dX6_play_143 : decode cX6_play 143 = .ok (.iload 5, 2) := by decide +kernel
theorem dX6_play_145 : decode cX6_play 145 = .ok (.aload_n 0, 1) := by decide +kernel
theorem dX6_play_146 : decode cX6_play 146 = .ok (.getfield 24, 3) := by decide +kernel
theorem dX6_play_149 : decode cX6_play 149 = .ok (.iload 5, 2) := by decide +kernel
theorem dX6_play_151 : decode cX6_play 151 = .ok (.invokevirtual 51, 3) := by decide +kernel
theorem dX6_play_154 : decode cX6_play 154 = .ok (.invokevirtual 66, 3) := by decide +kernel
theorem dX6_play_157 : decode cX6_play 157 = .ok (.invokevirtual 44, 3) := by decide +kernel
theorem dX6_play_160 : decode cX6_play 160 = .ok (.iinc 5 1, 3) := by decide +kernel
theorem dX6_play_163 : decode cX6_play 163 = .ok (.goto (-40), 3) := by decide +kernel
theorem dX6_play_166 : decode cX6_play 166 = .ok (.aload_n 0, 1) := by decide +kernel
theorem dX6_play_167 : decode cX6_play 167 = .ok (.iconst 0, 1) := by decide +kernel
theorem dX6_play_168 : decode cX6_play 168 = .ok (.iload 4, 2) := by decide +kernel
theorem dX6_play_170 : decode cX6_play 170 = .ok (.invokevirtual 69, 3) := by decide +kernel
theorem dX6_play_173 : decode cX6_play 173 = .ok (.ireturn, 1) := by decide +kernel
theorem hcX6_play : yX6_play.cls ≠ "java/lang/invoke/MethodHandle" ∧ yX6_play.cls ≠ "java/lang/invoke/VarHandle" ∧ (parseMethodDescriptor yX6_play.desc).map (fun d => d.parameters.length) = some 3 := ⟨by decide +kernel, by decide +kernel, by decide +kernel⟩
def fX6_play_j72 (x4_11 : Int) (s_19 : sg_M) (x5_19 : Int) (k19 : sg_M → Int → Prop) (y0_72 : Int) : Prop := fX6_setCost s_19 x4_11 x5_19 y0_72 (fun s13 => sg_R (x5_19 + 1) ∧ k19 s13 (x5_19 + 1))
def fX6_play_L19 (La : sg_L) (o1 : Int) (o2 : Int) (x3 : Int) (x4_11 : Int) (k81 : sg_M → Prop) : Nat → sg_M → Int → Prop
  | 0, _, _ => False
  | n_19 + 1, s_19, x5_19 => (((s_19 o1 2) ≤ x5_19 → k81 s_19) ∧ (¬ ((s_19 o1 2) ≤ x5_19) → fX4_at La s_19 o2 x5_19 (fun u6 => fX4_at La s_19 48 x4_11 (fun u9 => fX11_isNear u6 u9 x3 (fun u11 => ((u11 = 0 → (fX6_play_j72 x4_11 s_19 x5_19 (fX6_play_L19 La o1 o2 x3 x4_11 k81 n_19)) (-1)) ∧ (¬ (u11 = 0) → fX6_costFrom La s_19 o1 x4_11 x5_19 (fun u16 => (fX6_play_j72 x4_11 s_19 x5_19 (fX6_play_L19 La o1 o2 x3 x4_11 k81 n_19)) u16))))))))
def fX6_play_L11 (La : sg_L) (o1 : Int) (o2 : Int) (x3 : Int) (k87 : sg_M → Prop) : Nat → sg_M → Int → Prop
  | 0, _, _ => False
  | n_11 + 1, s_11, x4_11 => ((x4_11 < 0 → k87 s_11) ∧ (¬ (x4_11 < 0) → (∃ n18 : Nat, fX6_play_L19 La o1 o2 x3 x4_11 (fun s_81e19 => sg_R (x4_11 - 1) ∧ (fX6_play_L11 La o1 o2 x3 k87 n_11) s_81e19 (x4_11 - 1)) n18 s_11 0)))
def fX6_play_L123 (La : sg_L) (o1 : Int) (u22 : Int) (Q : Int → sg_M → Prop) : Nat → sg_M → Int → Prop
  | 0, _, _ => False
  | n_123 + 1, s_123, x5_123 => sg_R ((s_123 48 1) - 1) ∧ ((((s_123 48 1) - 1) ≤ x5_123 → fX6_costAt s_123 0 u22 (fun u33 => Q u33 s_123)) ∧ (¬ (((s_123 48 1) - 1) ≤ x5_123) → fX4_at La s_123 50 x5_123 (fun u37 => fX6_cheapestNext La s_123 o1 x5_123 u37 (fun u39 => fX4_add La s_123 50 u39 (fun s41 => sg_R (x5_123 + 1) ∧ (fX6_play_L123 La o1 u22 Q n_123) s41 (x5_123 + 1))))))
def fX6_play (La : sg_L) (s0 : sg_M) (o1 : Int) (o2 : Int) (x3 : Int) (Q : Int → sg_M → Prop) : Prop := sg_R ((s0 48 1) - 1) ∧ (∃ n21 : Nat, fX6_play_L11 La o1 o2 x3 (fun s_87e11 => fX6_cheapestNext La s_87e11 o1 (-1) (-1) (fun u22 => ((u22 ≠ (-1) → fX4_clear s_87e11 50 (fun s26 => fX4_add La s26 50 u22 (fun s28 => (∃ n43 : Nat, fX6_play_L123 La o1 u22 Q n43 s28 0)))) ∧ (u22 = (-1) → Q (-1) s_87e11)))) n21 s0 ((s0 48 1) - 1))
set_option maxHeartbeats 4000000 in
set_option maxRecDepth 100000 in
theorem CX6_play {l : Launch} {G : sg_G} {La : sg_L} {s0 : sg_M} (hst : sg_St La) {o1 : Int} (t1 : sg_O La o1 2) {o2 : Int} (t2 : sg_O La o2 4) {x3 : Int} (r3 : sg_R x3) {Q : Int → sg_M → Prop} (hf : fX6_play La s0 o1 o2 x3 Q) : sg_C l G yX6_play cX6_play 7 (some .int) 5 0 0 La s0 [sg_r 46, sg_r o1, sg_r o2, sg_i x3] (sg_HI La Q) := by
  refine sg_body (by decide +kernel) (Nat.le_of_ble_eq_true rfl) ?_
  intro p e s m args below meth c F hnm
  unfold fX6_play at hf
  show sg_W p l e (sg_rm 5 0 0) s m args below meth c (MQ below (sg_Q (some .int) G La s.heap.size (sg_HI La Q)) args s 0 0 (sg_A La s.heap.size)) 7 G (sg_A La s.heap.size) La s0 0 0 0 [(0, sg_r 46), (1, sg_r o1), (2, sg_r o2), (3, sg_i x3)] []
  refine gw_aload_n F 0 rfl rfl (by decide) dX6_play_0 ?_
  refine gw_get3 F (so_46 hst) (by decide) rfl sg_lay_RX6 (j := 1) (by decide) (o1 := 48) (by first | rfl | omega) rfl (host := "") (.inl kw_313) dX6_play_1 (fun h1 => ?_)
  refine gw_get0 F (so_48 hst) (by decide) rfl sg_lay_RX4 (j := 1) (by decide) rfl (.inr kw_201) dX6_play_4 (fun h2 => ?_)
  refine gw_iconst F dX6_play_7 ?_
  refine gw_isub F rfl dX6_play_8 ?_
  refine gw_istore F (by decide) rfl dX6_play_9 ?_
  have L11 : ∀ (k87 : sg_M → Prop) (hk87 : ∀ (s_87e11 : sg_M), k87 s_87e11 → sg_W p l e (sg_rm 5 0 0) s m args below meth c (MQ below (sg_Q (some .int) G La s.heap.size (sg_HI La Q)) args s 0 0 (sg_A La s.heap.size)) 7 G (sg_A La s.heap.size) La s_87e11 0 0 87 [(0, sg_r 46), (1, sg_r o1)] []), ∀ n_11 : Nat, ∀ (s_11 : sg_M) (x4_11 : Int), sg_R x4_11 → fX6_play_L11 La o1 o2 x3 k87 n_11 s_11 x4_11 → sg_W p l e (sg_rm 5 0 0) s m args below meth c (MQ below (sg_Q (some .int) G La s.heap.size (sg_HI La Q)) args s 0 0 (sg_A La s.heap.size)) 7 G (sg_A La s.heap.size) La s_11 0 0 11 [(0, sg_r 46), (1, sg_r o1), (2, sg_r o2), (3, sg_i x3), (4, sg_i x4_11)] [] := by
    intro k87 hk87 n_11
    induction n_11 with
    | zero => intro s_11 x4_11 r4_11 hf; exact hf.elim
    | succ n_11 ih =>
      intro s_11 x4_11 r4_11 hf
      unfold fX6_play_L11 at hf
      refine gw_iload F 4 rfl dX6_play_11 ?_
      refine gw_if_lt F (tgt := 87) dX6_play_13 (by decide) r4_11 (fun c3 => ?_) (fun c3 => ?_)
      · have hf := hf.1 c3
        refine gw_sub [0, 1] rfl ?_
        exact hk87 s_11 hf
      · have hf := hf.2 c3
        refine gw_iconst F dX6_play_16 ?_
        refine gw_istore F (by decide) rfl dX6_play_17 ?_
        have L19 : ∀ (k81 : sg_M → Prop) (hk81 : ∀ (s_81e19 : sg_M), k81 s_81e19 → sg_W p l e (sg_rm 5 0 0) s m args below meth c (MQ below (sg_Q (some .int) G La s.heap.size (sg_HI La Q)) args s 0 0 (sg_A La s.heap.size)) 7 G (sg_A La s.heap.size) La s_81e19 0 0 81 [(0, sg_r 46), (1, sg_r o1), (2, sg_r o2), (3, sg_i x3), (4, sg_i x4_11)] []), ∀ n_19 : Nat, ∀ (s_19 : sg_M) (x5_19 : Int), sg_R x5_19 → fX6_play_L19 La o1 o2 x3 x4_11 k81 n_19 s_19 x5_19 → sg_W p l e (sg_rm 5 0 0) s m args below meth c (MQ below (sg_Q (some .int) G La s.heap.size (sg_HI La Q)) args s 0 0 (sg_A La s.heap.size)) 7 G (sg_A La s.heap.size) La s_19 0 0 19 [(0, sg_r 46), (1, sg_r o1), (2, sg_r o2), (3, sg_i x3), (4, sg_i x4_11), (5, sg_i x5_19)] [] := by
          intro k81 hk81 n_19
          induction n_19 with
          | zero => intro s_19 x5_19 r5_19 hf; exact hf.elim
          | succ n_19 ih =>
            intro s_19 x5_19 r5_19 hf
            unfold fX6_play_L19 at hf
            refine gw_iload F 5 rfl dX6_play_19 ?_
            refine gw_aload_n F 1 rfl rfl t1.1 dX6_play_21 ?_
            refine gw_get0 F t1 (by decide) rfl sg_lay_RX2 (j := 2) (by decide) rfl (.inr kw_229) dX6_play_22 (fun h4 => ?_)
            refine gw_icmp_ge F (tgt := 81) dX6_play_25 (by decide) r5_19 h4 (fun c5 => ?_) (fun c5 => ?_)
            · have hf := hf.1 c5
              refine gw_sub [0, 1, 2, 3, 4] rfl ?_
              exact hk81 s_19 hf
            · have hf := hf.2 c5
              refine gw_aload_n F 2 rfl rfl t2.1 dX6_play_28 ?_
              refine gw_iload F 5 rfl dX6_play_29 ?_
              refine gk_PI F (gc_V F (S := []) (As := [sg_i x5_19]) (T := TX4) (N := 3) (CX4_at t2 r5_19 hf) t2 (by decide) rfl kw_546 kw_97 kw_693 kw_544 kw_545 hcX4_at ⟨by decide, by decide⟩ rfl rfl (Nat.le_of_ble_eq_true rfl) ⟨by decide, by decide⟩ dX6_play_31) (fun u6 h7 hf => ?_)
              refine gw_aload_n F 0 rfl rfl (by decide) dX6_play_34 ?_
              refine gw_get3 F (so_46 hst) (by decide) rfl sg_lay_RX6 (j := 1) (by decide) (o1 := 48) (by first | rfl | omega) rfl (host := "") (.inl kw_313) dX6_play_35 (fun h8 => ?_)
              refine gw_iload F 4 rfl dX6_play_38 ?_
              refine gk_PI F (gc_V F (S := [sg_i u6]) (As := [sg_i x4_11]) (T := TX4) (N := 3) (CX4_at (so_48 hst) r4_11 hf) (so_48 hst) (by decide) rfl kw_546 kw_97 kw_693 kw_544 kw_545 hcX4_at ⟨by decide, by decide⟩ rfl rfl (Nat.le_of_ble_eq_true rfl) ⟨by decide, by decide⟩ dX6_play_40) (fun u9 h10 hf => ?_)
              refine gw_iload_n F 3 rfl rfl dX6_play_43 ?_
              refine gk_PZ F (gc_SN F (S := []) (As := [sg_i u6, sg_i u9, sg_i x3]) (CX11_isNear h7 h10 r3 hf) kw_696 kw_90 kw_694 kw_695 hcX11_isNear ⟨by decide, by decide⟩ rfl rfl (Nat.le_of_ble_eq_true rfl) ⟨by decide, by decide⟩ dX6_play_44) (fun u11 h12 hf => ?_)
              refine gw_istore F (by decide) rfl dX6_play_47 ?_
              refine gw_aload_n F 1 rfl rfl (by decide) dX6_play_49 ?_
              refine gw_iload F 5 rfl dX6_play_50 ?_
              refine gw_iload F 6 rfl dX6_play_52 ?_
              refine gw_iload F 0 rfl dX6_play_54 ?_
              have J72 : ∀ (y0_72 : Int), sg_R y0_72 → (fX6_play_j72 x4_11 s_19 x5_19 (fX6_play_L19 La o1 o2 x3 x4_11 k81 n_19)) y0_72 → sg_W p l e (sg_rm 5 0 0) s m args below meth c (MQ below (sg_Q (some .int) G La s.heap.size (sg_HI La Q)) args s 0 0 (sg_A La s.heap.size)) 7 G (sg_A La s.heap.size) La s_19 0 0 72 [(0, sg_r 46), (1, sg_r o1), (2, sg_r o2), (3, sg_i x3), (4, sg_i x4_11), (5, sg_i x5_19)] [sg_i y0_72, sg_i x5_19, sg_i x4_11, sg_r 46] := by
                intro y0_72 ry0_72 hf
                unfold fX6_play_j72 at hf
                refine gk_HV F (gc_V F (S := []) (As := [sg_i x4_11, sg_i x5_19, sg_i y0_72]) (T := TX6) (N := 3) (CX6_setCost hst r4_11 r5_19 ry0_72 hf) (so_46 hst) (by decide) rfl kw_715 kw_102 kw_713 kw_714 kw_25 hcX6_setCost ⟨by decide, by decide⟩ rfl rfl (Nat.le_of_ble_eq_true rfl) ⟨by decide, by decide⟩ dX6_play_72) (fun s13 hf => ?_)
                refine gw_iinc F (z := (x5_19 + 1)) 5 rfl (by omega) (by decide) rfl dX6_play_75 ?_
                refine gw_goto F (tgt := 19) dX6_play_78 (by decide) ?_
                obtain ⟨g14, hf⟩ := hf
                refine gw_sub [1, 2, 3, 4, 5, 0] rfl ?_
                exact ih s13 (x5_19 + 1) g14 hf
              refine gw_if_eq F (tgt := 71) dX6_play_56 (by decide) (sg_B_R h12) (fun c15 => ?_) (fun c15 => ?_)
              · have hf := hf.1 c15
                refine gw_iconst F dX6_play_71 ?_
                refine gw_sub [1, 2, 3, 4, 5, 6] rfl ?_
                exact J72 (-1) (by decide) hf
              · have hf := hf.2 c15
                refine gw_aload_n F 1 rfl rfl (by decide) dX6_play_59 ?_
                refine gw_aload_n F 2 rfl rfl t1.1 dX6_play_60 ?_
                refine gw_iload F 5 rfl dX6_play_61 ?_
                refine gw_iload F 6 rfl dX6_play_63 ?_
                refine gk_PI F (gc_V F (S := [sg_i x5_19, sg_i x4_11, sg_r 46]) (As := [sg_r o1, sg_i x4_11, sg_i x5_19]) (T := TX6) (N := 3) (CX6_costFrom hst t1 r4_11 r5_19 hf) (so_46 hst) (by decide) rfl kw_700 kw_102 kw_698 kw_699 kw_22 hcX6_costFrom ⟨by decide, by decide⟩ rfl rfl (Nat.le_of_ble_eq_true rfl) ⟨by decide, by decide⟩ dX6_play_65) (fun u16 h17 hf => ?_)
                refine gw_goto F (tgt := 72) dX6_play_68 (by decide) ?_
                refine gw_sub [1, 2, 3, 4, 5, 6] rfl ?_
                exact J72 u16 h17 hf
        obtain ⟨n18, hf⟩ := hf
        refine gw_sub [1, 2, 3, 4, 5, 0] rfl ?_
        refine L19 _ (fun s_81e19 hf => ?_) n18 s_11 0 (by decide) hf
        refine gw_iinc F (z := (x4_11 - 1)) 4 rfl (by omega) (by decide) rfl dX6_play_81 ?_
        refine gw_goto F (tgt := 11) dX6_play_84 (by decide) ?_
        obtain ⟨g19, hf⟩ := hf
        refine gw_sub [1, 2, 3, 4, 0] rfl ?_
        exact ih s_81e19 (x4_11 - 1) g19 hf
  obtain ⟨g20, hf⟩ := hf
  obtain ⟨n21, hf⟩ := hf
  refine gw_sub [1, 2, 3, 4, 0] rfl ?_
  refine L11 _ (fun s_87e11 hf => ?_) n21 s0 ((s0 48 1) - 1) g20 hf
  refine gw_aload_n F 0 rfl rfl (by decide) dX6_play_87 ?_
  refine gw_aload_n F 1 rfl rfl t1.1 dX6_play_88 ?_
  refine gw_iconst F dX6_play_89 ?_
  refine gw_iconst F dX6_play_90 ?_
  refine gk_PI F (gc_V F (S := []) (As := [sg_r o1, sg_i (-1), sg_i (-1)]) (T := TX6) (N := 3) (CX6_cheapestNext hst t1 (by decide) (by decide) hf) (so_46 hst) (by decide) rfl kw_703 kw_102 kw_701 kw_702 kw_23 hcX6_cheapestNext ⟨by decide, by decide⟩ rfl rfl (Nat.le_of_ble_eq_true rfl) ⟨by decide, by decide⟩ dX6_play_91) (fun u22 h23 hf => ?_)
  refine gw_istore F (by decide) rfl dX6_play_94 ?_
  refine gw_iload F 0 rfl dX6_play_96 ?_
  refine gw_iconst F dX6_play_98 ?_
  refine gw_icmp_ne F (tgt := 104) dX6_play_99 (by decide) h23 (by decide) (fun c24 => ?_) (fun c24 => ?_)
  · have hf := hf.1 c24
    refine gw_aload_n F 1 rfl rfl (by decide) dX6_play_104 ?_
    refine gw_get3 F (so_46 hst) (by decide) rfl sg_lay_RX6 (j := 2) (by decide) (o1 := 50) (by first | rfl | omega) rfl (host := "") (.inl kw_314) dX6_play_105 (fun h25 => ?_)
    refine gk_HV F (gc_V F (S := []) (As := []) (T := TX4) (N := 3) (CX4_clear (so_50 hst) hf) (so_50 hst) (by decide) rfl kw_531 kw_97 kw_676 kw_529 kw_530 hcX4_clear ⟨by decide, by decide⟩ rfl rfl (Nat.le_of_ble_eq_true rfl) ⟨by decide, by decide⟩ dX6_play_108) (fun s26 hf => ?_)
    refine gw_aload_n F 1 rfl rfl (by decide) dX6_play_111 ?_
    refine gw_get3 F (so_46 hst) (by decide) rfl sg_lay_RX6 (j := 2) (by decide) (o1 := 50) (by first | rfl | omega) rfl (host := "") (.inl kw_314) dX6_play_112 (fun h27 => ?_)
    refine gw_iload F 0 rfl dX6_play_115 ?_
    refine gk_HV F (gc_V F (S := []) (As := [sg_i u22]) (T := TX4) (N := 3) (CX4_add (so_50 hst) h23 hf) (so_50 hst) (by decide) rfl kw_538 kw_97 kw_685 kw_536 kw_537 hcX4_add ⟨by decide, by decide⟩ rfl rfl (Nat.le_of_ble_eq_true rfl) ⟨by decide, by decide⟩ dX6_play_117) (fun s28 hf => ?_)
    refine gw_iconst F dX6_play_120 ?_
    refine gw_istore F (by decide) rfl dX6_play_121 ?_
    have L123 : ∀ n_123 : Nat, ∀ (s_123 : sg_M) (x5_123 : Int), sg_R x5_123 → fX6_play_L123 La o1 u22 Q n_123 s_123 x5_123 → sg_W p l e (sg_rm 5 0 0) s m args below meth c (MQ below (sg_Q (some .int) G La s.heap.size (sg_HI La Q)) args s 0 0 (sg_A La s.heap.size)) 7 G (sg_A La s.heap.size) La s_123 0 0 123 [(0, sg_r 46), (1, sg_r o1), (4, sg_i u22), (5, sg_i x5_123)] [] := by
      intro n_123
      induction n_123 with
      | zero => intro s_123 x5_123 r5_123 hf; exact hf.elim
      | succ n_123 ih =>
        intro s_123 x5_123 r5_123 hf
        unfold fX6_play_L123 at hf
        refine gw_iload F 3 rfl dX6_play_123 ?_
        refine gw_aload_n F 0 rfl rfl (by decide) dX6_play_125 ?_
        refine gw_get3 F (so_46 hst) (by decide) rfl sg_lay_RX6 (j := 1) (by decide) (o1 := 48) (by first | rfl | omega) rfl (host := "") (.inl kw_313) dX6_play_126 (fun h29 => ?_)
        refine gw_get0 F (so_48 hst) (by decide) rfl sg_lay_RX4 (j := 1) (by decide) rfl (.inr kw_201) dX6_play_129 (fun h30 => ?_)
        refine gw_iconst F dX6_play_132 ?_
        refine gw_isub F rfl dX6_play_133 ?_
        obtain ⟨g31, hf⟩ := hf
        refine gw_icmp_ge F (tgt := 166) dX6_play_134 (by decide) r5_123 g31 (fun c32 => ?_) (fun c32 => ?_)
        · have hf := hf.1 c32
          refine gw_aload_n F 0 rfl rfl (by decide) dX6_play_166 ?_
          refine gw_iconst F dX6_play_167 ?_
          refine gw_iload F 2 rfl dX6_play_168 ?_
          refine gk_PI F (gc_V F (S := []) (As := [sg_i 0, sg_i u22]) (T := TX6) (N := 3) (CX6_costAt hst (by decide) h23 hf) (so_46 hst) (by decide) rfl kw_706 kw_102 kw_704 kw_705 kw_24 hcX6_costAt ⟨by decide, by decide⟩ rfl rfl (Nat.le_of_ble_eq_true rfl) ⟨by decide, by decide⟩ dX6_play_170) (fun u33 h34 hf => ?_)
          exact gr_HI F h34 hf (by decide) (by decide) dX6_play_173
        · have hf := hf.2 c32
          refine gw_aload_n F 0 rfl rfl (by decide) dX6_play_137 ?_
          refine gw_get3 F (so_46 hst) (by decide) rfl sg_lay_RX6 (j := 2) (by decide) (o1 := 50) (by first | rfl | omega) rfl (host := "") (.inl kw_314) dX6_play_138 (fun h35 => ?_)
          refine gw_aload_n F 0 rfl rfl (by decide) dX6_play_141 ?_
          refine gw_aload_n F 1 rfl rfl t1.1 dX6_play_142 ?_
          refine gw_iload F 3 rfl dX6_play_143 ?_
          refine gw_aload_n F 0 rfl rfl (by decide) dX6_play_145 ?_
          refine gw_get3 F (so_46 hst) (by decide) rfl sg_lay_RX6 (j := 2) (by decide) (o1 := 50) (by first | rfl | omega) rfl (host := "") (.inl kw_314) dX6_play_146 (fun h36 => ?_)
          refine gw_iload F 3 rfl dX6_play_149 ?_
          refine gk_PI F (gc_V F (S := [sg_i x5_123, sg_r o1, sg_r 46, sg_r 50]) (As := [sg_i x5_123]) (T := TX4) (N := 3) (CX4_at (so_50 hst) r5_123 hf) (so_50 hst) (by decide) rfl kw_546 kw_97 kw_693 kw_544 kw_545 hcX4_at ⟨by decide, by decide⟩ rfl rfl (Nat.le_of_ble_eq_true rfl) ⟨by decide, by decide⟩ dX6_play_151) (fun u37 h38 hf => ?_)
          refine gk_PI F (gc_V F (S := [sg_r 50]) (As := [sg_r o1, sg_i x5_123, sg_i u37]) (T := TX6) (N := 3) (CX6_cheapestNext hst t1 r5_123 h38 hf) (so_46 hst) (by decide) rfl kw_703 kw_102 kw_701 kw_702 kw_23 hcX6_cheapestNext ⟨by decide, by decide⟩ rfl rfl (Nat.le_of_ble_eq_true rfl) ⟨by decide, by decide⟩ dX6_play_154) (fun u39 h40 hf => ?_)
          refine gk_HV F (gc_V F (S := []) (As := [sg_i u39]) (T := TX4) (N := 3) (CX4_add (so_50 hst) h40 hf) (so_50 hst) (by decide) rfl kw_538 kw_97 kw_685 kw_536 kw_537 hcX4_add ⟨by decide, by decide⟩ rfl rfl (Nat.le_of_ble_eq_true rfl) ⟨by decide, by decide⟩ dX6_play_157) (fun s41 hf => ?_)
          refine gw_iinc F (z := (x5_123 + 1)) 3 rfl (by omega) (by decide) rfl dX6_play_160 ?_
          refine gw_goto F (tgt := 123) dX6_play_163 (by decide) ?_
          obtain ⟨g42, hf⟩ := hf
          refine gw_sub [1, 2, 3, 0] rfl ?_
          exact ih s41 (x5_123 + 1) g42 hf
    obtain ⟨n43, hf⟩ := hf
    refine gw_sub [2, 3, 1, 0] rfl ?_
    refine L123   n43 s28 0 (by decide) hf
  · have hf := hf.2 c24
    refine gw_iconst F dX6_play_102 ?_
    exact gr_HI F (by decide) hf (by decide) (by decide) dX6_play_103

theorem dX11_bow_0 : decode cX11_bow 0 = .ok (.aload_n 0, 1) := by decide +kernel
theorem dX11_bow_1 : decode cX11_bow 1 = .ok (.getfield 61, 3) := by decide +kernel
theorem dX11_bow_4 : decode cX11_bow 4 = .ok (.getfield 208, 3) := by decide +kernel
theorem dX11_bow_7 : decode cX11_bow 7 = .ok (.iload_n 1, 1) := by decide +kernel
theorem dX11_bow_8 : decode cX11_bow 8 = .ok (.invokevirtual 182, 3) := by decide +kernel
theorem dX11_bow_11 : decode cX11_bow 11 = .ok (.ireturn, 1) := by decide +kernel
theorem hcX11_bow : yX11_bow.cls ≠ "java/lang/invoke/MethodHandle" ∧ yX11_bow.cls ≠ "java/lang/invoke/VarHandle" ∧ (parseMethodDescriptor yX11_bow.desc).map (fun d => d.parameters.length) = some 1 := ⟨by decide +kernel, by decide +kernel, by decide +kernel⟩
def fX11_bow (La : sg_L) (s0 : sg_M) (x1 : Int) (Q : Int → Prop) : Prop := fX4_at La s0 38 x1 (fun u3 => Q u3)
set_option maxHeartbeats 4000000 in
set_option maxRecDepth 100000 in
theorem CX11_bow {l : Launch} {G : sg_G} {La : sg_L} {s0 : sg_M} (hst : sg_St La) {x1 : Int} (r1 : sg_R x1) {Q : Int → Prop} (hf : fX11_bow La s0 x1 Q) : sg_C l G yX11_bow cX11_bow 2 (some .int) 2 0 0 La s0 [sg_r 0, sg_i x1] (sg_PI La s0 Q) := by
  refine sg_body (by decide +kernel) (Nat.le_of_ble_eq_true rfl) ?_
  intro p e s m args below meth c F hnm
  unfold fX11_bow at hf
  show sg_W p l e (sg_rm 2 0 0) s m args below meth c (MQ below (sg_Q (some .int) G La s.heap.size (sg_PI La s0 Q)) args s 0 0 (sg_A La s.heap.size)) 2 G (sg_A La s.heap.size) La s0 0 0 0 [(0, sg_r 0), (1, sg_i x1)] []
  refine gw_aload_n F 0 rfl rfl (by decide) dX11_bow_0 ?_
  refine gw_get7 F (so_0 hst) (by decide) rfl sg_lay_RX11 (j := 6) (by decide) (o1 := 37) (by first | rfl | omega) rfl (host := "") (.inl kw_332) dX11_bow_1 (fun h1 => ?_)
  refine gw_get3 F (so_37 hst) (by decide) rfl sg_lay_RX10 (j := 0) (by decide) (o1 := 38) (by first | rfl | omega) rfl (.inr kw_284) dX11_bow_4 (fun h2 => ?_)
  refine gw_iload_n F 1 rfl rfl dX11_bow_7 ?_
  refine gk_PI F (gc_V F (S := []) (As := [sg_i x1]) (T := TX4) (N := 3) (CX4_at (so_38 hst) r1 hf) (so_38 hst) (by decide) rfl kw_546 kw_97 kw_543 kw_544 kw_545 hcX4_at ⟨by decide, by decide⟩ rfl rfl (Nat.le_of_ble_eq_true rfl) ⟨by decide, by decide⟩ dX11_bow_8) (fun u3 h4 hf => ?_)
  exact gr_PI F h4 hf (by decide) (by decide) dX11_bow_11

theorem dX11_run_0 : decode cX11_run 0 = .ok (.aload_n 0, 1) := by decide +kernel
theorem dX11_run_1 : decode cX11_run 1 = .ok (.getfield 61, 3) := by decide +kernel
theorem dX11_run_4 : decode cX11_run 4 = .ok (.getfield 189, 3) := by decide +kernel
theorem dX11_run_7 : decode cX11_run 7 = .ok (.ifCond .ne 5, 3) := by decide +kernel
theorem dX11_run_10 : decode cX11_run 10 = .ok (.iconst (-1), 1) := by decide +kernel
theorem dX11_run_11 : decode cX11_run 11 = .ok (.ireturn, 1) := by decide +kernel
theorem dX11_run_12 : decode cX11_run 12 = .ok (.iload_n 1, 1) := by decide +kernel
theorem dX11_run_13 : decode cX11_run 13 = .ok (.tableswitch 91 0 4 #[35, 43, 51, 67, 83], 35) := by decide +kernel
theorem dX11_run_48 : decode cX11_run 48 = .ok (.aload_n 0, 1) := by decide +kernel
theorem dX11_run_49 : decode cX11_run 49 = .ok (.getfield 61, 3) := by decide +kernel
theorem dX11_run_52 : decode cX11_run 52 = .ok (.getfield 192, 3) := by decide +kernel
theorem dX11_run_55 : decode cX11_run 55 = .ok (.ireturn, 1) := by decide +kernel
theorem dX11_run_56 : decode cX11_run 56 = .ok (.aload_n 0, 1) := by decide +kernel
theorem dX11_run_57 : decode cX11_run 57 = .ok (.getfield 61, 3) := by decide +kernel
theorem dX11_run_60 : decode cX11_run 60 = .ok (.getfield 195, 3) := by decide +kernel
theorem dX11_run_63 : decode cX11_run 63 = .ok (.ireturn, 1) := by decide +kernel
theorem dX11_run_64 : decode cX11_run 64 = .ok (.aload_n 0, 1) := by decide +kernel
theorem dX11_run_65 : decode cX11_run 65 = .ok (.getfield 61, 3) := by decide +kernel
theorem dX11_run_68 : decode cX11_run 68 = .ok (.getfield 198, 3) := by decide +kernel
theorem dX11_run_71 : decode cX11_run 71 = .ok (.ifCond .eq 7, 3) := by decide +kernel
theorem dX11_run_74 : decode cX11_run 74 = .ok (.iconst 1, 1) := by decide +kernel
theorem dX11_run_75 : decode cX11_run 75 = .ok (.goto 4, 3) := by decide +kernel
theorem dX11_run_78 : decode cX11_run 78 = .ok (.iconst 0, 1) := by decide +kernel
theorem dX11_run_79 : decode cX11_run 79 = .ok (.ireturn, 1) := by decide +kernel
theorem dX11_run_80 : decode cX11_run 80 = .ok (.aload_n 0, 1) := by decide +kernel
theorem dX11_run_81 : decode cX11_run 81 = .ok (.getfield 61, 3) := by decide +kernel
theorem dX11_run_84 : decode cX11_run 84 = .ok (.getfield 202, 3) := by decide +kernel
theorem dX11_run_87 : decode cX11_run 87 = .ok (.ifCond .eq 7, 3) := by decide +kernel
theorem dX11_run_90 : decode cX11_run 90 = .ok (.iconst 1, 1) := by decide +kernel
theorem dX11_run_91 : decode cX11_run 91 = .ok (.goto 4, 3) := by decide +kernel
theorem dX11_run_94 : decode cX11_run 94 = .ok (.iconst 0, 1) := by decide +kernel
theorem dX11_run_95 : decode cX11_run 95 = .ok (.ireturn, 1) := by decide +kernel
theorem dX11_run_96 : decode cX11_run 96 = .ok (.aload_n 0, 1) := by decide +kernel
theorem dX11_run_97 : decode cX11_run 97 = .ok (.getfield 61, 3) := by decide +kernel
theorem dX11_run_100 : decode cX11_run 100 = .ok (.getfield 205, 3) := by decide +kernel
theorem dX11_run_103 : decode cX11_run 103 = .ok (.ireturn, 1) := by decide +kernel
theorem dX11_run_104 : decode cX11_run 104 = .ok (.iconst (-1), 1) := by decide +kernel
theorem dX11_run_105 : decode cX11_run 105 = .ok (.ireturn, 1) := by decide +kernel
theorem hcX11_run : yX11_run.cls ≠ "java/lang/invoke/MethodHandle" ∧ yX11_run.cls ≠ "java/lang/invoke/VarHandle" ∧ (parseMethodDescriptor yX11_run.desc).map (fun d => d.parameters.length) = some 1 := ⟨by decide +kernel, by decide +kernel, by decide +kernel⟩
def fX11_run (s0 : sg_M) (x1 : Int) (Q : Int → Prop) : Prop := (((s0 37 1) ≠ 0 → ((x1 < 0 ∨ 4 < x1 → Q (-1)) ∧ (x1 = 0 → Q (s0 37 2)) ∧ (x1 = 1 → Q (s0 37 3)) ∧ (x1 = 2 → (((s0 37 5) = 0 → Q 0) ∧ (¬ ((s0 37 5) = 0) → Q 1))) ∧ (x1 = 3 → (((s0 37 6) = 0 → Q 0) ∧ (¬ ((s0 37 6) = 0) → Q 1))) ∧ (x1 = 4 → Q (s0 37 4)))) ∧ ((s0 37 1) = 0 → Q (-1)))
set_option maxHeartbeats 4000000 in
set_option maxRecDepth 100000 in
theorem CX11_run {l : Launch} {G : sg_G} {La : sg_L} {s0 : sg_M} (hst : sg_St La) {x1 : Int} (r1 : sg_R x1) {Q : Int → Prop} (hf : fX11_run s0 x1 Q) : sg_C l G yX11_run cX11_run 2 (some .int) 1 0 0 La s0 [sg_r 0, sg_i x1] (sg_PI La s0 Q) := by
  refine sg_body (by decide +kernel) (Nat.le_of_ble_eq_true rfl) ?_
  intro p e s m args below meth c F hnm
  unfold fX11_run at hf
  show sg_W p l e (sg_rm 1 0 0) s m args below meth c (MQ below (sg_Q (some .int) G La s.heap.size (sg_PI La s0 Q)) args s 0 0 (sg_A La s.heap.size)) 2 G (sg_A La s.heap.size) La s0 0 0 0 [(0, sg_r 0), (1, sg_i x1)] []
  refine gw_aload_n F 0 rfl rfl (by decide) dX11_run_0 ?_
  refine gw_get7 F (so_0 hst) (by decide) rfl sg_lay_RX11 (j := 6) (by decide) (o1 := 37) (by first | rfl | omega) rfl (host := "") (.inl kw_332) dX11_run_1 (fun h1 => ?_)
  refine gw_get0 F (so_37 hst) (by decide) rfl sg_lay_RX10 (j := 1) (by decide) rfl (.inr kw_288) dX11_run_4 (fun h2 => ?_)
  refine gw_if_ne F (tgt := 12) dX11_run_7 (by decide) h2 (fun c3 => ?_) (fun c3 => ?_)
  · have hf := hf.1 c3
    refine gw_iload_n F 1 rfl rfl dX11_run_12 ?_
    refine gw_switch F dX11_run_13 r1 (td := 104) (by decide) (fun c4 => ?_) (fun i hi1 hi2 => ?_)
    · have hf := hf.1 c4
      refine gw_iconst F dX11_run_104 ?_
      exact gr_PI F (by decide) hf (by decide) (by decide) dX11_run_105
    · rcases (show i = 0 ∨ i = 1 ∨ i = 2 ∨ i = 3 ∨ i = 4 by omega) with rfl | rfl | rfl | rfl | rfl
      · have hf := hf.2.1 (by omega)
        refine ⟨35, 48, rfl, by decide, ?_⟩
        refine gw_aload_n F 0 rfl rfl (by decide) dX11_run_48 ?_
        refine gw_get7 F (so_0 hst) (by decide) rfl sg_lay_RX11 (j := 6) (by decide) (o1 := 37) (by first | rfl | omega) rfl (host := "") (.inl kw_332) dX11_run_49 (fun h5 => ?_)
        refine gw_get0 F (so_37 hst) (by decide) rfl sg_lay_RX10 (j := 2) (by decide) rfl (.inr kw_291) dX11_run_52 (fun h6 => ?_)
        exact gr_PI F h6 hf (by decide) (by decide) dX11_run_55
      · have hf := hf.2.2.1 (by omega)
        refine ⟨43, 56, rfl, by decide, ?_⟩
        refine gw_aload_n F 0 rfl rfl (by decide) dX11_run_56 ?_
        refine gw_get7 F (so_0 hst) (by decide) rfl sg_lay_RX11 (j := 6) (by decide) (o1 := 37) (by first | rfl | omega) rfl (host := "") (.inl kw_332) dX11_run_57 (fun h7 => ?_)
        refine gw_get0 F (so_37 hst) (by decide) rfl sg_lay_RX10 (j := 3) (by decide) rfl (.inr kw_294) dX11_run_60 (fun h8 => ?_)
        exact gr_PI F h8 hf (by decide) (by decide) dX11_run_63
      · have hf := hf.2.2.2.1 (by omega)
        refine ⟨51, 64, rfl, by decide, ?_⟩
        refine gw_aload_n F 0 rfl rfl (by decide) dX11_run_64 ?_
        refine gw_get7 F (so_0 hst) (by decide) rfl sg_lay_RX11 (j := 6) (by decide) (o1 := 37) (by first | rfl | omega) rfl (host := "") (.inl kw_332) dX11_run_65 (fun h9 => ?_)
        refine gw_get1 F (so_37 hst) (by decide) rfl sg_lay_RX10 (j := 5) (by decide) rfl (.inr kw_300) dX11_run_68 (fun h10 => ?_)
        refine gw_if_eq F (tgt := 78) dX11_run_71 (by decide) (sg_B_R h10) (fun c11 => ?_) (fun c11 => ?_)
        · have hf := hf.1 c11
          refine gw_iconst F dX11_run_78 ?_
          exact gr_PI F (by decide) hf (by decide) (by decide) dX11_run_79
        · have hf := hf.2 c11
          refine gw_iconst F dX11_run_74 ?_
          refine gw_goto F (tgt := 79) dX11_run_75 (by decide) ?_
          exact gr_PI F (by decide) hf (by decide) (by decide) dX11_run_79
      · have hf := hf.2.2.2.2.1 (by omega)
        refine ⟨67, 80, rfl, by decide, ?_⟩
        refine gw_aload_n F 0 rfl rfl (by decide) dX11_run_80 ?_
        refine gw_get7 F (so_0 hst) (by decide) rfl sg_lay_RX11 (j := 6) (by decide) (o1 := 37) (by first | rfl | omega) rfl (host := "") (.inl kw_332) dX11_run_81 (fun h12 => ?_)
        refine gw_get1 F (so_37 hst) (by decide) rfl sg_lay_RX10 (j := 6) (by decide) rfl (.inr kw_303) dX11_run_84 (fun h13 => ?_)
        refine gw_if_eq F (tgt := 94) dX11_run_87 (by decide) (sg_B_R h13) (fun c14 => ?_) (fun c14 => ?_)
        · have hf := hf.1 c14
          refine gw_iconst F dX11_run_94 ?_
          exact gr_PI F (by decide) hf (by decide) (by decide) dX11_run_95
        · have hf := hf.2 c14
          refine gw_iconst F dX11_run_90 ?_
          refine gw_goto F (tgt := 95) dX11_run_91 (by decide) ?_
          exact gr_PI F (by decide) hf (by decide) (by decide) dX11_run_95
      · have hf := hf.2.2.2.2.2 (by omega)
        refine ⟨83, 96, rfl, by decide, ?_⟩
        refine gw_aload_n F 0 rfl rfl (by decide) dX11_run_96 ?_
        refine gw_get7 F (so_0 hst) (by decide) rfl sg_lay_RX11 (j := 6) (by decide) (o1 := 37) (by first | rfl | omega) rfl (host := "") (.inl kw_332) dX11_run_97 (fun h15 => ?_)
        refine gw_get0 F (so_37 hst) (by decide) rfl sg_lay_RX10 (j := 4) (by decide) rfl (.inr kw_297) dX11_run_100 (fun h16 => ?_)
        exact gr_PI F h16 hf (by decide) (by decide) dX11_run_103
  · have hf := hf.2 c3
    refine gw_iconst F dX11_run_10 ?_
    exact gr_PI F (by decide) hf (by decide) (by decide) dX11_run_11

theorem dX11_isFitting_0 : decode cX11_isFitting 0 = .ok (.iconst 0, 1) := by decide +kernel
theorem dX11_isFitting_1 : decode cX11_isFitting 1 = .ok (.istore_n 3, 1) := by decide +kernel
theorem dX11_isFitting_2 : decode cX11_isFitting 2 = .ok (.iload_n 3, 1) := by decide +kernel
theorem dX11_isFitting_3 : decode cX11_isFitting 3 = .ok (.aload_n 0, 1) := by decide +kernel
theorem dX11_isFitting_4 : decode cX11_isFitting 4 = .ok (.getfield 10, 3) := by decide +kernel
theorem dX11_isFitting_7 : decode cX11_isFitting 7 = .ok (.getfield 122, 3) := by decide +kernel
theorem dX11_isFitting_10 : decode cX11_isFitting 10 = .ok (.if_icmp .ge 80, 3) := by decide +kernel
theorem dX11_isFitting_13 : decode cX11_isFitting 13 = .ok (.aload_n 0, 1) := by decide +kernel
theorem dX11_isFitting_14 : decode cX11_isFitting 14 = .ok (.getfield 10, 3) := by decide +kernel
theorem dX11_isFitting_17 : decode cX11_isFitting 17 = .ok (.iload_n 3, 1) := by decide +kernel
theorem dX11_isFitting_18 : decode cX11_isFitting 18 = .ok (.invokevirtual 362, 3) := by decide +kernel
theorem dX11_isFitting_21 : decode cX11_isFitting 21 = .ok (.istore 4, 2) := by decide +kernel
theorem dX11_isFitting_23 : decode cX11_isFitting 23 = .ok (.aload_n 0, 1) := by decide +kernel
theorem dX11_isFitting_24 : decode cX11_isFitting 24 = .ok (.aload_n 1, 1) := by decide +kernel
theorem dX11_isFitting_25 : decode cX11_isFitting 25 = .ok (.aload_n 0, 1) := by decide +kernel
theorem dX11_isFitting_26 : decode cX11_isFitting 26 = .ok (.getfield 39, 3) := by decide +kernel
theorem dX11_isFitting_29 : decode cX11_isFitting 29 = .ok (.getfield 237, 3) := by decide +kernel
theorem dX11_isFitting_32 : decode cX11_isFitting 32 = .ok (.getfield 352, 3) := by decide +kernel
theorem dX11_isFitting_35 : decode cX11_isFitting 35 = .ok (.iload 4, 2) := by decide +kernel
theorem dX11_isFitting_37 : decode cX11_isFitting 37 = .ok (.invokevirtual 182, 3) := by decide +kernel
theorem dX11_isFitting_40 : decode cX11_isFitting 40 = .ok (.aload_n 0, 1) := by decide +kernel
theorem dX11_isFitting_41 : decode cX11_isFitting 41 = .ok (.getfield 39, 3) := by decide +kernel
theorem dX11_isFitting_44 : decode cX11_isFitting 44 = .ok (.getfield 237, 3) := by decide +kernel
theorem dX11_isFitting_47 : decode cX11_isFitting 47 = .ok (.getfield 355, 3) := by decide +kernel
theorem dX11_isFitting_50 : decode cX11_isFitting 50 = .ok (.iload 4, 2) := by decide +kernel
theorem dX11_isFitting_52 : decode cX11_isFitting 52 = .ok (.invokevirtual 182, 3) := by decide +kernel
theorem dX11_isFitting_55 : decode cX11_isFitting 55 = .ok (.invokevirtual 225, 3) := by decide +kernel
theorem dX11_isFitting_58 : decode cX11_isFitting 58 = .ok (.aload_n 0, 1) := by decide +kernel
theorem dX11_isFitting_59 : decode cX11_isFitting 59 = .ok (.getfield 54, 3) := by decide +kernel
theorem dX11_isFitting_62 : decode cX11_isFitting 62 = .ok (.getfield 228, 3) := by decide +kernel
theorem dX11_isFitting_65 : decode cX11_isFitting 65 = .ok (.aload_n 0, 1) := by decide +kernel
theorem dX11_isFitting_66 : decode cX11_isFitting 66 = .ok (.getfield 10, 3) := by decide +kernel
theorem dX11_isFitting_69 : decode cX11_isFitting 69 = .ok (.iload_n 3, 1) := by decide +kernel
theorem dX11_isFitting_70 : decode cX11_isFitting 70 = .ok (.iconst 1, 1) := by decide +kernel
theorem dX11_isFitting_71 : decode cX11_isFitting 71 = .ok (.iadd, 1) := by decide +kernel
theorem dX11_isFitting_72 : decode cX11_isFitting 72 = .ok (.invokevirtual 365, 3) := by decide +kernel
theorem dX11_isFitting_75 : decode cX11_isFitting 75 = .ok (.iload_n 2, 1) := by decide +kernel
theorem dX11_isFitting_76 : decode cX11_isFitting 76 = .ok (.invokestatic 274, 3) := by decide +kernel
theorem dX11_isFitting_79 : decode cX11_isFitting 79 = .ok (.ifCond .ne 5, 3) := by decide +kernel
theorem dX11_isFitting_82 : decode cX11_isFitting 82 = .ok (.iconst 0, 1) := by decide +kernel
theorem dX11_isFitting_83 : decode cX11_isFitting 83 = .ok (.ireturn, 1) := by decide +kernel
theorem dX11_isFitting_84 : decode cX11_isFitting 84 = .ok (.iinc 3 3, 3) := by decide +kernel
theorem dX11_isFitting_87 : decode cX11_isFitting 87 = .ok (.goto (-85), 3) := by decide +kernel
theorem dX11_isFitting_90 : decode cX11_isFitting 90 = .ok (.iconst 1, 1) := by decide +kernel
theorem dX11_isFitting_91 : decode cX11_isFitting 91 = .ok (.ireturn, 1) := by decide +kernel
theorem hcX11_isFitting : yX11_isFitting.cls ≠ "java/lang/invoke/MethodHandle" ∧ yX11_isFitting.cls ≠ "java/lang/invoke/VarHandle" ∧ (parseMethodDescriptor yX11_isFitting.desc).map (fun d => d.parameters.length) = some 2 := ⟨by decide +kernel, by decide +kernel, by decide +kernel⟩
def fX11_isFitting_L2 (La : sg_L) (o1 : Int) (x2 : Int) (Q : Int → sg_M → Prop) : Nat → sg_M → Int → Prop
  | 0, _, _ => False
  | n_2 + 1, s_2, x3_2 => (((s_2 1 1) ≤ x3_2 → Q 1 s_2) ∧ (¬ ((s_2 1 1) ≤ x3_2) → fX8_byteAt s_2 x3_2 (fun u5 => fX4_at La s_2 21 u5 (fun u10 => fX4_at La s_2 23 u5 (fun u15 => fX11_listenTo La s_2 o1 u10 u15 (fun s17 => sg_R (x3_2 + 1) ∧ fX8_pairAt s17 (x3_2 + 1) (fun u22 => fX11_isNear (s17 32 7) u22 x2 (fun u24 => ((u24 ≠ 0 → sg_R (x3_2 + 3) ∧ (fX11_isFitting_L2 La o1 x2 Q n_2) s17 (x3_2 + 3)) ∧ (u24 = 0 → Q 0 s17))))))))))
def fX11_isFitting (La : sg_L) (s0 : sg_M) (o1 : Int) (x2 : Int) (Q : Int → sg_M → Prop) : Prop := (∃ n28 : Nat, fX11_isFitting_L2 La o1 x2 Q n28 s0 0)
set_option maxHeartbeats 4000000 in
set_option maxRecDepth 100000 in
theorem CX11_isFitting {l : Launch} {G : sg_G} {La : sg_L} {s0 : sg_M} (hst : sg_St La) {o1 : Int} (t1 : sg_O La o1 1) {x2 : Int} (r2 : sg_R x2) {Q : Int → sg_M → Prop} (hf : fX11_isFitting La s0 o1 x2 Q) : sg_C l G yX11_isFitting cX11_isFitting 5 (some .boolean) 6 0 0 La s0 [sg_r 0, sg_r o1, sg_i x2] (sg_HZ La Q) := by
  refine sg_body (by decide +kernel) (Nat.le_of_ble_eq_true rfl) ?_
  intro p e s m args below meth c F hnm
  unfold fX11_isFitting at hf
  show sg_W p l e (sg_rm 6 0 0) s m args below meth c (MQ below (sg_Q (some .boolean) G La s.heap.size (sg_HZ La Q)) args s 0 0 (sg_A La s.heap.size)) 5 G (sg_A La s.heap.size) La s0 0 0 0 [(0, sg_r 0), (1, sg_r o1), (2, sg_i x2)] []
  refine gw_iconst F dX11_isFitting_0 ?_
  refine gw_istore_n F rfl (by decide) rfl dX11_isFitting_1 ?_
  have L2 : ∀ n_2 : Nat, ∀ (s_2 : sg_M) (x3_2 : Int), sg_R x3_2 → fX11_isFitting_L2 La o1 x2 Q n_2 s_2 x3_2 → sg_W p l e (sg_rm 6 0 0) s m args below meth c (MQ below (sg_Q (some .boolean) G La s.heap.size (sg_HZ La Q)) args s 0 0 (sg_A La s.heap.size)) 5 G (sg_A La s.heap.size) La s_2 0 0 2 [(0, sg_r 0), (1, sg_r o1), (2, sg_i x2), (3, sg_i x3_2)] [] := by
    intro n_2
    induction n_2 with
    | zero => intro s_2 x3_2 r3_2 hf; exact hf.elim
    | succ n_2 ih =>
      intro s_2 x3_2 r3_2 hf
      unfold fX11_isFitting_L2 at hf
      refine gw_iload_n F 3 rfl rfl dX11_isFitting_2 ?_
      refine gw_aload_n F 0 rfl rfl (by decide) dX11_isFitting_3 ?_
      refine gw_get7 F (so_0 hst) (by decide) rfl sg_lay_RX11 (j := 0) (by decide) (o1 := 1) (by first | rfl | omega) rfl (host := "") (.inl kw_326) dX11_isFitting_4 (fun h1 => ?_)
      refine gw_get0 F (so_1 hst) (by decide) rfl sg_lay_RX8 (j := 1) (by decide) rfl (.inr kw_128) dX11_isFitting_7 (fun h2 => ?_)
      refine gw_icmp_ge F (tgt := 90) dX11_isFitting_10 (by decide) r3_2 h2 (fun c3 => ?_) (fun c3 => ?_)
      · have hf := hf.1 c3
        refine gw_iconst F dX11_isFitting_90 ?_
        exact gr_HZ F (by decide) hf (by decide) (by decide) dX11_isFitting_91
      · have hf := hf.2 c3
        refine gw_aload_n F 0 rfl rfl (by decide) dX11_isFitting_13 ?_
        refine gw_get7 F (so_0 hst) (by decide) rfl sg_lay_RX11 (j := 0) (by decide) (o1 := 1) (by first | rfl | omega) rfl (host := "") (.inl kw_326) dX11_isFitting_14 (fun h4 => ?_)
        refine gw_iload_n F 3 rfl rfl dX11_isFitting_17 ?_
        refine gk_PI F (gc_V F (S := []) (As := [sg_i x3_2]) (T := TX8) (N := 2) (CX8_byteAt hst r3_2 hf) (so_1 hst) (by decide) rfl kw_372 kw_91 kw_764 kw_370 kw_371 hcX8_byteAt ⟨by decide, by decide⟩ rfl rfl (Nat.le_of_ble_eq_true rfl) ⟨by decide, by decide⟩ dX11_isFitting_18) (fun u5 h6 hf => ?_)
        refine gw_istore F (by decide) rfl dX11_isFitting_21 ?_
        refine gw_aload_n F 1 rfl rfl (by decide) dX11_isFitting_23 ?_
        refine gw_aload_n F 2 rfl rfl t1.1 dX11_isFitting_24 ?_
        refine gw_aload_n F 1 rfl rfl (by decide) dX11_isFitting_25 ?_
        refine gw_get7 F (so_0 hst) (by decide) rfl sg_lay_RX11 (j := 2) (by decide) (o1 := 4) (by first | rfl | omega) rfl (host := "") (.inl kw_328) dX11_isFitting_26 (fun h7 => ?_)
        refine gw_get7 F (so_4 hst) (by decide) rfl sg_lay_RX7 (j := 3) (by decide) (o1 := 20) (by first | rfl | omega) rfl (.inr kw_240) dX11_isFitting_29 (fun h8 => ?_)
        refine gw_get3 F (so_20 hst) (by decide) rfl sg_lay_RX2 (j := 0) (by decide) (o1 := 21) (by first | rfl | omega) rfl (.inr kw_225) dX11_isFitting_32 (fun h9 => ?_)
        refine gw_iload F 0 rfl dX11_isFitting_35 ?_
        refine gk_PI F (gc_V F (S := [sg_r o1, sg_r 0]) (As := [sg_i u5]) (T := TX4) (N := 3) (CX4_at (so_21 hst) h6 hf) (so_21 hst) (by decide) rfl kw_546 kw_97 kw_543 kw_544 kw_545 hcX4_at ⟨by decide, by decide⟩ rfl rfl (Nat.le_of_ble_eq_true rfl) ⟨by decide, by decide⟩ dX11_isFitting_37) (fun u10 h11 hf => ?_)
        refine gw_aload_n F 1 rfl rfl (by decide) dX11_isFitting_40 ?_
        refine gw_get7 F (so_0 hst) (by decide) rfl sg_lay_RX11 (j := 2) (by decide) (o1 := 4) (by first | rfl | omega) rfl (host := "") (.inl kw_328) dX11_isFitting_41 (fun h12 => ?_)
        refine gw_get7 F (so_4 hst) (by decide) rfl sg_lay_RX7 (j := 3) (by decide) (o1 := 20) (by first | rfl | omega) rfl (.inr kw_240) dX11_isFitting_44 (fun h13 => ?_)
        refine gw_get3 F (so_20 hst) (by decide) rfl sg_lay_RX2 (j := 1) (by decide) (o1 := 23) (by first | rfl | omega) rfl (.inr kw_227) dX11_isFitting_47 (fun h14 => ?_)
        refine gw_iload F 0 rfl dX11_isFitting_50 ?_
        refine gk_PI F (gc_V F (S := [sg_i u10, sg_r o1, sg_r 0]) (As := [sg_i u5]) (T := TX4) (N := 3) (CX4_at (so_23 hst) h6 hf) (so_23 hst) (by decide) rfl kw_546 kw_97 kw_543 kw_544 kw_545 hcX4_at ⟨by decide, by decide⟩ rfl rfl (Nat.le_of_ble_eq_true rfl) ⟨by decide, by decide⟩ dX11_isFitting_52) (fun u15 h16 hf => ?_)
        refine gk_HV F (gc_V F (S := []) (As := [sg_r o1, sg_i u10, sg_i u15]) (T := TX11) (N := 19) (CX11_listenTo hst t1 h11 h16 hf) (so_0 hst) (by decide) rfl kw_655 kw_90 kw_653 kw_654 kw_20 hcX11_listenTo ⟨by decide, by decide⟩ rfl rfl (Nat.le_of_ble_eq_true rfl) ⟨by decide, by decide⟩ dX11_isFitting_55) (fun s17 hf => ?_)
        refine gw_aload_n F 1 rfl rfl (by decide) dX11_isFitting_58 ?_
        refine gw_get7 F (so_0 hst) (by decide) rfl sg_lay_RX11 (j := 5) (by decide) (o1 := 32) (by first | rfl | omega) rfl (host := "") (.inl kw_331) dX11_isFitting_59 (fun h18 => ?_)
        refine gw_get0 F (so_32 hst) (by decide) rfl sg_lay_RX0 (j := 7) (by decide) rfl (.inr kw_266) dX11_isFitting_62 (fun h19 => ?_)
        refine gw_aload_n F 1 rfl rfl (by decide) dX11_isFitting_65 ?_
        refine gw_get7 F (so_0 hst) (by decide) rfl sg_lay_RX11 (j := 0) (by decide) (o1 := 1) (by first | rfl | omega) rfl (host := "") (.inl kw_326) dX11_isFitting_66 (fun h20 => ?_)
        refine gw_iload_n F 4 rfl rfl dX11_isFitting_69 ?_
        refine gw_iconst F dX11_isFitting_70 ?_
        refine gw_iadd F rfl dX11_isFitting_71 ?_
        obtain ⟨g21, hf⟩ := hf
        refine gk_PI F (gc_V F (S := [sg_i (s17 32 7)]) (As := [sg_i (x3_2 + 1)]) (T := TX8) (N := 2) (CX8_pairAt hst g21 hf) (so_1 hst) (by decide) rfl kw_680 kw_91 kw_765 kw_678 kw_679 hcX8_pairAt ⟨by decide, by decide⟩ rfl rfl (Nat.le_of_ble_eq_true rfl) ⟨by decide, by decide⟩ dX11_isFitting_72) (fun u22 h23 hf => ?_)
        refine gw_iload_n F 3 rfl rfl dX11_isFitting_75 ?_
        refine gk_PZ F (gc_S F (S := []) (As := [sg_i (s17 32 7), sg_i u22, sg_i x2]) (CX11_isNear h19 h23 r2 hf) kw_696 kw_90 kw_725 kw_695 hcX11_isNear ⟨by decide, by decide⟩ rfl rfl (Nat.le_of_ble_eq_true rfl) ⟨by decide, by decide⟩ dX11_isFitting_76) (fun u24 h25 hf => ?_)
        refine gw_if_ne F (tgt := 84) dX11_isFitting_79 (by decide) (sg_B_R h25) (fun c26 => ?_) (fun c26 => ?_)
        · have hf := hf.1 c26
          refine gw_iinc F (z := (x3_2 + 3)) 4 rfl (by omega) (by decide) rfl dX11_isFitting_84 ?_
          refine gw_goto F (tgt := 2) dX11_isFitting_87 (by decide) ?_
          obtain ⟨g27, hf⟩ := hf
          refine gw_sub [2, 3, 4, 0] rfl ?_
          exact ih s17 (x3_2 + 3) g27 hf
        · have hf := hf.2 c26
          refine gw_iconst F dX11_isFitting_82 ?_
          exact gr_HZ F (by decide) hf (by decide) (by decide) dX11_isFitting_83
  obtain ⟨n28, hf⟩ := hf
  refine gw_sub [1, 2, 3, 0] rfl ?_
  refine L2   n28 s0 0 (by decide) hf

theorem dX3_readFrom_0 : decode cX3_readFrom 0 = .ok (.iconst 0, 1) := by decide +kernel
theorem dX3_readFrom_1 : decode cX3_readFrom 1 = .ok (.istore_n 2, 1) := by decide +kernel
theorem dX3_readFrom_2 : decode cX3_readFrom 2 = .ok (.iload_n 2, 1) := by decide +kernel
theorem dX3_readFrom_3 : decode cX3_readFrom 3 = .ok (.sipush 540, 3) := by decide +kernel
theorem dX3_readFrom_6 : decode cX3_readFrom 6 = .ok (.if_icmp .ge 27, 3) := by decide +kernel
theorem dX3_readFrom_9 : decode cX3_readFrom 9 = .ok (.aload_n 1, 1) := by decide +kernel
theorem dX3_readFrom_10 : decode cX3_readFrom 10 = .ok (.invokevirtual 28, 3) := by decide +kernel
theorem dX3_readFrom_13 : decode cX3_readFrom 13 = .ok (.ifCond .eq 20, 3) := by decide +kernel
theorem dX3_readFrom_16 : decode cX3_readFrom 16 = .ok (.aload_n 0, 1) := by decide +kernel
theorem dX3_readFrom_17 : decode cX3_readFrom 17 = .ok (.aload_n 1, 1) := by decide +kernel
theorem dX3_readFrom_18 : decode cX3_readFrom 18 = .ok (.invokevirtual 34, 3) := by decide +kernel
theorem dX3_readFrom_21 : decode cX3_readFrom 21 = .ok (.aload_n 1, 1) := by decide +kernel
theorem dX3_readFrom_22 : decode cX3_readFrom 22 = .ok (.bipush 59, 2) := by decide +kernel
theorem dX3_readFrom_24 : decode cX3_readFrom 24 = .ok (.invokevirtual 38, 3) := by decide +kernel
theorem dX3_readFrom_27 : decode cX3_readFrom 27 = .ok (.iinc 2 1, 3) := by decide +kernel
theorem dX3_readFrom_30 : decode cX3_readFrom 30 = .ok (.goto (-28), 3) := by decide +kernel
theorem dX3_readFrom_33 : decode cX3_readFrom 33 = .ok (.return_, 1) := by decide +kernel
theorem hcX3_readFrom : yX3_readFrom.cls ≠ "java/lang/invoke/MethodHandle" ∧ yX3_readFrom.cls ≠ "java/lang/invoke/VarHandle" ∧ (parseMethodDescriptor yX3_readFrom.desc).map (fun d => d.parameters.length) = some 1 := ⟨by decide +kernel, by decide +kernel, by decide +kernel⟩
def fX3_readFrom_L2 (o : Int) (Q : sg_M → Prop) : Nat → sg_M → Int → Prop
  | 0, _, _ => False
  | n_2 + 1, s_2, x2_2 => ((540 ≤ x2_2 → Q s_2) ∧ (¬ (540 ≤ x2_2) → fX9_isGoingOn s_2 (fun u2 => ((u2 = 0 → Q s_2) ∧ (¬ (u2 = 0) → fX3_readMove s_2 o (fun s5 => fX9_mustBeSign s5 59 (fun s6 => sg_R (x2_2 + 1) ∧ (fX3_readFrom_L2 o Q n_2) s6 (x2_2 + 1))))))))
def fX3_readFrom (s0 : sg_M) (o : Int) (Q : sg_M → Prop) : Prop := (∃ n8 : Nat, fX3_readFrom_L2 o Q n8 s0 0)
set_option maxHeartbeats 4000000 in
set_option maxRecDepth 100000 in
theorem CX3_readFrom {l : Launch} {G : sg_G} {La : sg_L} {s0 : sg_M} (hst : sg_St La) {o : Int} (to : sg_O La o 3) {Q : sg_M → Prop} (hf : fX3_readFrom s0 o Q) : sg_C l G yX3_readFrom cX3_readFrom 3 (none) 9 0 0 La s0 [sg_r o, sg_r 3] (sg_HV La Q) := by
  refine sg_body (by decide +kernel) (Nat.le_of_ble_eq_true rfl) ?_
  intro p e s m args below meth c F hnm
  unfold fX3_readFrom at hf
  show sg_W p l e (sg_rm 9 0 0) s m args below meth c (MQ below (sg_Q (none) G La s.heap.size (sg_HV La Q)) args s 0 0 (sg_A La s.heap.size)) 3 G (sg_A La s.heap.size) La s0 0 0 0 [(0, sg_r o), (1, sg_r 3)] []
  refine gw_iconst F dX3_readFrom_0 ?_
  refine gw_istore_n F rfl (by decide) rfl dX3_readFrom_1 ?_
  have L2 : ∀ n_2 : Nat, ∀ (s_2 : sg_M) (x2_2 : Int), sg_R x2_2 → fX3_readFrom_L2 o Q n_2 s_2 x2_2 → sg_W p l e (sg_rm 9 0 0) s m args below meth c (MQ below (sg_Q (none) G La s.heap.size (sg_HV La Q)) args s 0 0 (sg_A La s.heap.size)) 3 G (sg_A La s.heap.size) La s_2 0 0 2 [(0, sg_r o), (1, sg_r 3), (2, sg_i x2_2)] [] := by
    intro n_2
    induction n_2 with
    | zero => intro s_2 x2_2 r2_2 hf; exact hf.elim
    | succ n_2 ih =>
      intro s_2 x2_2 r2_2 hf
      unfold fX3_readFrom_L2 at hf
      refine gw_iload_n F 2 rfl rfl dX3_readFrom_2 ?_
      refine gw_sipush F rfl dX3_readFrom_3 ?_
      refine gw_icmp_ge F (tgt := 33) dX3_readFrom_6 (by decide) r2_2 (by decide) (fun c1 => ?_) (fun c1 => ?_)
      · have hf := hf.1 c1
        exact gr_HV F hf (by decide) (by decide) dX3_readFrom_33
      · have hf := hf.2 c1
        refine gw_aload_n F 1 rfl rfl (by decide) dX3_readFrom_9 ?_
        refine gk_PZ F (gc_V F (S := []) (As := []) (T := TX9) (N := 8) (CX9_isGoingOn hst hf) (so_3 hst) (by decide) rfl kw_392 kw_92 kw_608 kw_390 kw_391 hcX9_isGoingOn ⟨by decide, by decide⟩ rfl rfl (Nat.le_of_ble_eq_true rfl) ⟨by decide, by decide⟩ dX3_readFrom_10) (fun u2 h3 hf => ?_)
        refine gw_if_eq F (tgt := 33) dX3_readFrom_13 (by decide) (sg_B_R h3) (fun c4 => ?_) (fun c4 => ?_)
        · have hf := hf.1 c4
          exact gr_HV F hf (by decide) (by decide) dX3_readFrom_33
        · have hf := hf.2 c4
          refine gw_aload_n F 0 rfl rfl to.1 dX3_readFrom_16 ?_
          refine gw_aload_n F 1 rfl rfl (by decide) dX3_readFrom_17 ?_
          refine gk_HV F (gc_V F (S := []) (As := [sg_r 3]) (T := TX3) (N := 5) (CX3_readMove hst to hf) to (by decide) rfl kw_611 kw_95 kw_609 kw_610 kw_14 hcX3_readMove ⟨by decide, by decide⟩ rfl rfl (Nat.le_of_ble_eq_true rfl) ⟨by decide, by decide⟩ dX3_readFrom_18) (fun s5 hf => ?_)
          refine gw_aload_n F 1 rfl rfl (by decide) dX3_readFrom_21 ?_
          refine gw_bipush F rfl dX3_readFrom_22 ?_
          refine gk_HV F (gc_V F (S := []) (As := [sg_i 59]) (T := TX9) (N := 8) (CX9_mustBeSign hst (by decide) hf) (so_3 hst) (by decide) rfl kw_482 kw_92 kw_635 kw_480 kw_481 hcX9_mustBeSign ⟨by decide, by decide⟩ rfl rfl (Nat.le_of_ble_eq_true rfl) ⟨by decide, by decide⟩ dX3_readFrom_24) (fun s6 hf => ?_)
          refine gw_iinc F (z := (x2_2 + 1)) 2 rfl (by omega) (by decide) rfl dX3_readFrom_27 ?_
          refine gw_goto F (tgt := 2) dX3_readFrom_30 (by decide) ?_
          obtain ⟨g7, hf⟩ := hf
          refine gw_sub [1, 2, 0] rfl ?_
          exact ih s6 (x2_2 + 1) g7 hf
  obtain ⟨n8, hf⟩ := hf
  refine gw_sub [1, 2, 0] rfl ?_
  refine L2   n8 s0 0 (by decide) hf

theorem dX11_hand_0 : decode cX11_hand 0 = .ok (.new 30, 3) := by decide +kernel
theorem dX11_hand_3 : decode cX11_hand 3 = .ok (.dup, 1) := by decide +kernel
theorem dX11_hand_4 : decode cX11_hand 4 = .ok (.invokespecial 32, 3) := by decide +kernel
theorem dX11_hand_7 : decode cX11_hand 7 = .ok (.astore_n 1, 1) := by decide +kernel
theorem dX11_hand_8 : decode cX11_hand 8 = .ok (.aload_n 0, 1) := by decide +kernel
theorem dX11_hand_9 : decode cX11_hand 9 = .ok (.getfield 21, 3) := by decide +kernel
theorem dX11_hand_12 : decode cX11_hand 12 = .ok (.sipush 300, 3) := by decide +kernel
theorem dX11_hand_15 : decode cX11_hand 15 = .ok (.invokevirtual 128, 3) := by decide +kernel
theorem dX11_hand_18 : decode cX11_hand 18 = .ok (.aload_n 1, 1) := by decide +kernel
theorem dX11_hand_19 : decode cX11_hand 19 = .ok (.aload_n 0, 1) := by decide +kernel
theorem dX11_hand_20 : decode cX11_hand 20 = .ok (.getfield 21, 3) := by decide +kernel
theorem dX11_hand_23 : decode cX11_hand 23 = .ok (.invokevirtual 211, 3) := by decide +kernel
theorem dX11_hand_26 : decode cX11_hand 26 = .ok (.aload_n 0, 1) := by decide +kernel
theorem dX11_hand_27 : decode cX11_hand 27 = .ok (.getfield 21, 3) := by decide +kernel
theorem dX11_hand_30 : decode cX11_hand 30 = .ok (.getfield 135, 3) := by decide +kernel
theorem dX11_hand_33 : decode cX11_hand 33 = .ok (.ifCond .ne 11, 3) := by decide +kernel
theorem dX11_hand_36 : decode cX11_hand 36 = .ok (.aload_n 0, 1) := by decide +kernel
theorem dX11_hand_37 : decode cX11_hand 37 = .ok (.getfield 39, 3) := by decide +kernel
theorem dX11_hand_40 : decode cX11_hand 40 = .ok (.aload_n 1, 1) := by decide +kernel
theorem dX11_hand_41 : decode cX11_hand 41 = .ok (.putfield 212, 3) := by decide +kernel
theorem dX11_hand_44 : decode cX11_hand 44 = .ok (.aload_n 0, 1) := by decide +kernel
theorem dX11_hand_45 : decode cX11_hand 45 = .ok (.aload_n 1, 1) := by decide +kernel
theorem dX11_hand_46 : decode cX11_hand 46 = .ok (.getfield 216, 3) := by decide +kernel
theorem dX11_hand_49 : decode cX11_hand 49 = .ok (.invokevirtual 139, 3) := by decide +kernel
theorem dX11_hand_52 : decode cX11_hand 52 = .ok (.ireturn, 1) := by decide +kernel
theorem hcX11_hand : yX11_hand.cls ≠ "java/lang/invoke/MethodHandle" ∧ yX11_hand.cls ≠ "java/lang/invoke/VarHandle" ∧ (parseMethodDescriptor yX11_hand.desc).map (fun d => d.parameters.length) = some 0 := ⟨by decide +kernel, by decide +kernel, by decide +kernel⟩
def fX11_hand (La : sg_L) (s0 : sg_M) (Q : Int → sg_L → sg_M → Prop) : Prop := ∀ (q1 : Nat) (La2 : sg_L), La2 = sg_pu La 23 q1 → ∀ s3 : sg_M, s3 = sg_nw s0 La.1 23 → ∀ o4 : Int, o4 = (La.1 : Int) → fX3_init La2 s3 o4 (fun La13 s14 => fX9_open s14 300 (fun s20 => fX3_readFrom s20 o4 (fun s22 => (((s22 3 6) ≠ 0 → fX11_closeText s22 (s22 o4 2) (fun u27 s29 => Q u27 La13 s29)) ∧ ((s22 3 6) = 0 → ∀ s31 : sg_M, s31 = sg_up s22 4 1 o4 → fX11_closeText s31 (s31 o4 2) (fun u34 s36 => Q u34 La13 s36))))))
set_option maxHeartbeats 4000000 in
set_option maxRecDepth 100000 in
theorem CX11_hand {l : Launch} {G : sg_G} {La : sg_L} {s0 : sg_M} (hst : sg_St La) {Q : Int → sg_L → sg_M → Prop} (hf : fX11_hand La s0 Q) : sg_C l G yX11_hand cX11_hand 2 (some .int) 10 3 405 La s0 [sg_r 0] (sg_BI La Q) := by
  refine sg_body (by decide +kernel) (Nat.le_of_ble_eq_true rfl) ?_
  intro p e s m args below meth c F hnm
  unfold fX11_hand at hf
  show sg_W p l e (sg_rm 10 3 405) s m args below meth c (MQ below (sg_Q (some .int) G La s.heap.size (sg_BI La Q)) args s 3 405 (sg_A La s.heap.size)) 2 G (sg_A La s.heap.size) La s0 0 0 0 [(0, sg_r 0)] []
  refine gy_new F (kd := 23) (T := TX3) (by decide) rfl sg_lay_RX3 tyX3_ok kw_172 kw_173 kw_95 ns_X3 nf_X3 nr_X3 (by decide) (by decide) (List.forall_mem_cons.mpr ⟨(Or.inl (so_0 hst).2.1), (fun _ h => absurd h List.not_mem_nil)⟩) (fun _ h => absurd h List.not_mem_nil) dX11_hand_0 (fun q1 La2 s3 o4 e5 e6 e7 t8 hX9 => ?_)
  have hf := hf q1 La2 e5 s3 e6 o4 e7
  have hn10 : La.1 ≤ o4.toNat := by rw [e7, Int.toNat_natCast]; exact (sg_X.rf : sg_X La La).1
  have hst11 := hst.X hX9
  have hX12 := sg_X.tr (sg_X.rf) hX9
  refine gw_dup F rfl dX11_hand_3 ?_
  refine gk_BV F (gc_IN F (S := [sg_r o4]) (As := []) (CX3_init t8 hf) t8.1 kw_176 kw_95 kw_174 kw_175 rfl hcX3_init ⟨by decide, by decide⟩ rfl rfl (Nat.le_of_ble_eq_true rfl) ⟨by decide, by decide⟩ dX11_hand_4) (List.forall_mem_cons.mpr ⟨(Or.inl (so_0 hst11).2.1), (fun _ h => absurd h List.not_mem_nil)⟩) (List.forall_mem_cons.mpr ⟨(Or.inl t8.2.1), (fun _ h => absurd h List.not_mem_nil)⟩) (fun La13 s14 hX15 hf => ?_)
  have t16 := (sg_O_sealed t8).X hX15
  have hst17 := (sg_St_sx hst11 t8 ⟨by decide, by decide, by decide⟩).X hX15
  have hX18 := (sg_X_sx (hX12) hn10).tr hX15
  refine gw_astore_n F rfl t16.1 (by decide) rfl dX11_hand_7 ?_
  refine gw_aload_n F 1 rfl rfl (by decide) dX11_hand_8 ?_
  refine gw_get7 F (so_0 hst17) (by decide) rfl sg_lay_RX11 (j := 1) (by decide) (o1 := 3) (by first | rfl | omega) rfl (host := "") (.inl kw_327) dX11_hand_9 (fun h19 => ?_)
  refine gw_sipush F rfl dX11_hand_12 ?_
  refine gk_HV F (gc_V F (S := []) (As := [sg_i 300]) (T := TX9) (N := 8) (CX9_open hst17 (by decide) hf) (so_3 hst17) (by decide) rfl kw_364 kw_92 kw_361 kw_362 kw_363 hcX9_open ⟨by decide, by decide⟩ rfl rfl (Nat.le_of_ble_eq_true rfl) ⟨by decide, by decide⟩ dX11_hand_15) (fun s20 hf => ?_)
  refine gw_aload_n F 0 rfl rfl t16.1 dX11_hand_18 ?_
  refine gw_aload_n F 1 rfl rfl (by decide) dX11_hand_19 ?_
  refine gw_get7 F (so_0 hst17) (by decide) rfl sg_lay_RX11 (j := 1) (by decide) (o1 := 3) (by first | rfl | omega) rfl (host := "") (.inl kw_327) dX11_hand_20 (fun h21 => ?_)
  refine gk_HV F (gc_V F (S := []) (As := [sg_r 3]) (T := TX3) (N := 5) (CX3_readFrom hst17 t16 hf) t16 (by decide) rfl kw_607 kw_95 kw_604 kw_605 kw_606 hcX3_readFrom ⟨by decide, by decide⟩ rfl rfl (Nat.le_of_ble_eq_true rfl) ⟨by decide, by decide⟩ dX11_hand_23) (fun s22 hf => ?_)
  refine gw_aload_n F 1 rfl rfl (by decide) dX11_hand_26 ?_
  refine gw_get7 F (so_0 hst17) (by decide) rfl sg_lay_RX11 (j := 1) (by decide) (o1 := 3) (by first | rfl | omega) rfl (host := "") (.inl kw_327) dX11_hand_27 (fun h23 => ?_)
  refine gw_get0 F (so_3 hst17) (by decide) rfl sg_lay_RX9 (j := 6) (by decide) rfl (.inr kw_145) dX11_hand_30 (fun h24 => ?_)
  refine gw_if_ne F (tgt := 44) dX11_hand_33 (by decide) h24 (fun c25 => ?_) (fun c25 => ?_)
  · have hf := hf.1 c25
    refine gw_aload_n F 1 rfl rfl (by decide) dX11_hand_44 ?_
    refine gw_aload_n F 0 rfl rfl t16.1 dX11_hand_45 ?_
    refine gw_get0 F t16 (by decide) rfl sg_lay_RX3 (j := 2) (by decide) rfl (.inr kw_181) dX11_hand_46 (fun h26 => ?_)
    refine gk_HI F (gc_V F (S := []) (As := [sg_i (s22 o4 2)]) (T := TX11) (N := 19) (CX11_closeText hst17 h26 hf) (so_0 hst17) (by decide) rfl kw_487 kw_90 kw_485 kw_486 kw_2 hcX11_closeText ⟨by decide, by decide⟩ rfl rfl (Nat.le_of_ble_eq_true rfl) ⟨by decide, by decide⟩ dX11_hand_49) (fun u27 s29 h28 hf => ?_)
    exact gr_BI F h28 hf (hX18) (by decide) (by decide) dX11_hand_52
  · have hf := hf.2 c25
    refine gw_aload_n F 1 rfl rfl (by decide) dX11_hand_36 ?_
    refine gw_get7 F (so_0 hst17) (by decide) rfl sg_lay_RX11 (j := 2) (by decide) (o1 := 4) (by first | rfl | omega) rfl (host := "") (.inl kw_328) dX11_hand_37 (fun h30 => ?_)
    refine gw_aload_n F 0 rfl rfl t16.1 dX11_hand_40 ?_
    obtain ⟨s31, e32⟩ : ∃ z : sg_M, z = sg_up s22 4 1 o4 := ⟨_, rfl⟩
    have hf := hf s31 e32
    refine gw_put4 F (so_4 hst17) (by decide) rfl sg_lay_RX7 (j := 1) (by decide) t16.1 t16 e32 tyX7_ok nmX7 rfl (tyX7_ok 1 (by decide)) rfl (.inr kw_236) dX11_hand_41 ?_
    refine gw_aload_n F 1 rfl rfl (by decide) dX11_hand_44 ?_
    refine gw_aload_n F 0 rfl rfl t16.1 dX11_hand_45 ?_
    refine gw_get0 F t16 (by decide) rfl sg_lay_RX3 (j := 2) (by decide) rfl (.inr kw_181) dX11_hand_46 (fun h33 => ?_)
    refine gk_HI F (gc_V F (S := []) (As := [sg_i (s31 o4 2)]) (T := TX11) (N := 19) (CX11_closeText hst17 h33 hf) (so_0 hst17) (by decide) rfl kw_487 kw_90 kw_485 kw_486 kw_2 hcX11_closeText ⟨by decide, by decide⟩ rfl rfl (Nat.le_of_ble_eq_true rfl) ⟨by decide, by decide⟩ dX11_hand_49) (fun u34 s36 h35 hf => ?_)
    exact gr_BI F h35 hf (hX18) (by decide) (by decide) dX11_hand_52

theorem dX11_song_0 : decode cX11_song 0 = .ok (.aload_n 0, 1) := by decide +kernel
theorem dX11_song_1 : decode cX11_song 1 = .ok (.getfield 74, 3) := by decide +kernel
theorem dX11_song_4 : decode cX11_song 4 = .ok (.aload_n 0, 1) := by decide +kernel
theorem dX11_song_5 : decode cX11_song 5 = .ok (.getfield 10, 3) := by decide +kernel
theorem dX11_song_8 : decode cX11_song 8 = .ok (.invokevirtual 254, 3) := by decide +kernel
theorem dX11_song_11 : decode cX11_song 11 = .ok (.ifCond .eq 14, 3) := by decide +kernel
theorem dX11_song_14 : decode cX11_song 14 = .ok (.iload_n 1, 1) := by decide +kernel
theorem dX11_song_15 : decode cX11_song 15 = .ok (.invokestatic 258, 3) := by decide +kernel
theorem dX11_song_18 : decode cX11_song 18 = .ok (.ifCond .eq 7, 3) := by decide +kernel
theorem dX11_song_21 : decode cX11_song 21 = .ok (.iconst 1, 1) := by decide +kernel
theorem dX11_song_22 : decode cX11_song 22 = .ok (.goto 4, 3) := by decide +kernel
theorem dX11_song_25 : decode cX11_song 25 = .ok (.iconst 0, 1) := by decide +kernel
theorem dX11_song_26 : decode cX11_song 26 = .ok (.istore_n 2, 1) := by decide +kernel
theorem dX11_song_27 : decode cX11_song 27 = .ok (.aload_n 0, 1) := by decide +kernel
theorem dX11_song_28 : decode cX11_song 28 = .ok (.getfield 10, 3) := by decide +kernel
theorem dX11_song_31 : decode cX11_song 31 = .ok (.iconst 0, 1) := by decide +kernel
theorem dX11_song_32 : decode cX11_song 32 = .ok (.putfield 122, 3) := by decide +kernel
theorem dX11_song_35 : decode cX11_song 35 = .ok (.iload_n 2, 1) := by decide +kernel
theorem dX11_song_36 : decode cX11_song 36 = .ok (.ifCond .ne 6, 3) := by decide +kernel
theorem dX11_song_39 : decode cX11_song 39 = .ok (.bipush (-2), 2) := by decide +kernel
theorem dX11_song_41 : decode cX11_song 41 = .ok (.ireturn, 1) := by decide +kernel
theorem dX11_song_42 : decode cX11_song 42 = .ok (.aload_n 0, 1) := by decide +kernel
theorem dX11_song_43 : decode cX11_song 43 = .ok (.invokevirtual 251, 3) := by decide +kernel
theorem dX11_song_46 : decode cX11_song 46 = .ok (.aload_n 0, 1) := by decide +kernel
theorem dX11_song_47 : decode cX11_song 47 = .ok (.getfield 74, 3) := by decide +kernel
theorem dX11_song_50 : decode cX11_song 50 = .ok (.aload_n 0, 1) := by decide +kernel
theorem dX11_song_51 : decode cX11_song 51 = .ok (.getfield 39, 3) := by decide +kernel
theorem dX11_song_54 : decode cX11_song 54 = .ok (.getfield 237, 3) := by decide +kernel
theorem dX11_song_57 : decode cX11_song 57 = .ok (.aload_n 0, 1) := by decide +kernel
theorem dX11_song_58 : decode cX11_song 58 = .ok (.getfield 93, 3) := by decide +kernel
theorem dX11_song_61 : decode cX11_song 61 = .ok (.iload_n 1, 1) := by decide +kernel
theorem dX11_song_62 : decode cX11_song 62 = .ok (.invokevirtual 261, 3) := by decide +kernel
theorem dX11_song_65 : decode cX11_song 65 = .ok (.ireturn, 1) := by decide +kernel
theorem hcX11_song : yX11_song.cls ≠ "java/lang/invoke/MethodHandle" ∧ yX11_song.cls ≠ "java/lang/invoke/VarHandle" ∧ (parseMethodDescriptor yX11_song.desc).map (fun d => d.parameters.length) = some 1 := ⟨by decide +kernel, by decide +kernel, by decide +kernel⟩
def fX11_song_j26 (La : sg_L) (x1 : Int) (s5 : sg_M) (Q : Int → sg_M → Prop) (y0_26 : Int) : Prop := ∀ s7 : sg_M, s7 = sg_up s5 1 1 0 → ((y0_26 ≠ 0 → fX11_hearBook La s7 (fun s10 => fX6_play La s10 20 58 x1 (fun u15 s17 => Q u15 s17))) ∧ (y0_26 = 0 → Q (-2) s7))
def fX11_song_j25  (k26 : Int → Prop)  : Prop := k26 0
def fX11_song (La : sg_L) (s0 : sg_M) (x1 : Int) (Q : Int → sg_M → Prop) : Prop := fX6_readNotes La s0 (fun u3 s5 => ((u3 = 0 → (fX11_song_j25  (fX11_song_j26 La x1 s5 Q))) ∧ (¬ (u3 = 0) → fX11_isSlip x1 (fun u19 => ((u19 = 0 → (fX11_song_j25  (fX11_song_j26 La x1 s5 Q))) ∧ (¬ (u19 = 0) → (fX11_song_j26 La x1 s5 Q) 1))))))
set_option maxHeartbeats 4000000 in
set_option maxRecDepth 100000 in
theorem CX11_song {l : Launch} {G : sg_G} {La : sg_L} {s0 : sg_M} (hst : sg_St La) {x1 : Int} (r1 : sg_R x1) {Q : Int → sg_M → Prop} (hf : fX11_song La s0 x1 Q) : sg_C l G yX11_song cX11_song 3 (some .int) 7 0 0 La s0 [sg_r 0, sg_i x1] (sg_HI La Q) := by
  refine sg_body (by decide +kernel) (Nat.le_of_ble_eq_true rfl) ?_
  intro p e s m args below meth c F hnm
  unfold fX11_song at hf
  show sg_W p l e (sg_rm 7 0 0) s m args below meth c (MQ below (sg_Q (some .int) G La s.heap.size (sg_HI La Q)) args s 0 0 (sg_A La s.heap.size)) 3 G (sg_A La s.heap.size) La s0 0 0 0 [(0, sg_r 0), (1, sg_i x1)] []
  refine gw_aload_n F 0 rfl rfl (by decide) dX11_song_0 ?_
  refine gw_get7 F (so_0 hst) (by decide) rfl sg_lay_RX11 (j := 9) (by decide) (o1 := 46) (by first | rfl | omega) rfl (host := "") (.inl kw_335) dX11_song_1 (fun h1 => ?_)
  refine gw_aload_n F 0 rfl rfl (by decide) dX11_song_4 ?_
  refine gw_get7 F (so_0 hst) (by decide) rfl sg_lay_RX11 (j := 0) (by decide) (o1 := 1) (by first | rfl | omega) rfl (host := "") (.inl kw_326) dX11_song_5 (fun h2 => ?_)
  refine gk_HZ F (gc_V F (S := []) (As := [sg_r 1]) (T := TX6) (N := 3) (CX6_readNotes hst hf) (so_46 hst) (by decide) rfl kw_675 kw_102 kw_672 kw_673 kw_674 hcX6_readNotes ⟨by decide, by decide⟩ rfl rfl (Nat.le_of_ble_eq_true rfl) ⟨by decide, by decide⟩ dX11_song_8) (fun u3 s5 h4 hf => ?_)
  have J26 : ∀ (y0_26 : Int), sg_R y0_26 → (fX11_song_j26 La x1 s5 Q) y0_26 → sg_W p l e (sg_rm 7 0 0) s m args below meth c (MQ below (sg_Q (some .int) G La s.heap.size (sg_HI La Q)) args s 0 0 (sg_A La s.heap.size)) 3 G (sg_A La s.heap.size) La s5 0 0 26 [(0, sg_r 0), (1, sg_i x1)] [sg_i y0_26] := by
    intro y0_26 ry0_26 hf
    unfold fX11_song_j26 at hf
    refine gw_istore_n F rfl (by decide) rfl dX11_song_26 ?_
    refine gw_aload_n F 1 rfl rfl (by decide) dX11_song_27 ?_
    refine gw_get7 F (so_0 hst) (by decide) rfl sg_lay_RX11 (j := 0) (by decide) (o1 := 1) (by first | rfl | omega) rfl (host := "") (.inl kw_326) dX11_song_28 (fun h6 => ?_)
    refine gw_iconst F dX11_song_31 ?_
    obtain ⟨s7, e8⟩ : ∃ z : sg_M, z = sg_up s5 1 1 0 := ⟨_, rfl⟩
    have hf := hf s7 e8
    refine gw_put0 F (so_1 hst) (by decide) rfl sg_lay_RX8 (j := 1) (by decide) (by decide) e8 tyX8_ok nmX8 rfl (tyX8_ok 1 (by decide)) rfl (.inr kw_128) dX11_song_32 ?_
    refine gw_iload_n F 0 rfl rfl dX11_song_35 ?_
    refine gw_if_ne F (tgt := 42) dX11_song_36 (by decide) ry0_26 (fun c9 => ?_) (fun c9 => ?_)
    · have hf := hf.1 c9
      refine gw_aload_n F 1 rfl rfl (by decide) dX11_song_42 ?_
      refine gk_HV F (gc_V F (S := []) (As := []) (T := TX11) (N := 19) (CX11_hearBook hst hf) (so_0 hst) (by decide) rfl kw_651 kw_90 kw_649 kw_650 kw_19 hcX11_hearBook ⟨by decide, by decide⟩ rfl rfl (Nat.le_of_ble_eq_true rfl) ⟨by decide, by decide⟩ dX11_song_43) (fun s10 hf => ?_)
      refine gw_aload_n F 1 rfl rfl (by decide) dX11_song_46 ?_
      refine gw_get7 F (so_0 hst) (by decide) rfl sg_lay_RX11 (j := 9) (by decide) (o1 := 46) (by first | rfl | omega) rfl (host := "") (.inl kw_335) dX11_song_47 (fun h11 => ?_)
      refine gw_aload_n F 1 rfl rfl (by decide) dX11_song_50 ?_
      refine gw_get7 F (so_0 hst) (by decide) rfl sg_lay_RX11 (j := 2) (by decide) (o1 := 4) (by first | rfl | omega) rfl (host := "") (.inl kw_328) dX11_song_51 (fun h12 => ?_)
      refine gw_get7 F (so_4 hst) (by decide) rfl sg_lay_RX7 (j := 3) (by decide) (o1 := 20) (by first | rfl | omega) rfl (.inr kw_240) dX11_song_54 (fun h13 => ?_)
      refine gw_aload_n F 1 rfl rfl (by decide) dX11_song_57 ?_
      refine gw_get7 F (so_0 hst) (by decide) rfl sg_lay_RX11 (j := 13) (by decide) (o1 := 58) (by first | rfl | omega) rfl (host := "") (.inl kw_339) dX11_song_58 (fun h14 => ?_)
      refine gw_iload_n F 2 rfl rfl dX11_song_61 ?_
      refine gk_HI F (gc_V F (S := []) (As := [sg_r 20, sg_r 58, sg_i x1]) (T := TX6) (N := 3) (CX6_play hst (so_20 hst) (so_58 hst) r1 hf) (so_46 hst) (by decide) rfl kw_692 kw_102 kw_689 kw_690 kw_691 hcX6_play ⟨by decide, by decide⟩ rfl rfl (Nat.le_of_ble_eq_true rfl) ⟨by decide, by decide⟩ dX11_song_62) (fun u15 s17 h16 hf => ?_)
      exact gr_HI F h16 hf (by decide) (by decide) dX11_song_65
    · have hf := hf.2 c9
      refine gw_bipush F rfl dX11_song_39 ?_
      exact gr_HI F (by decide) hf (by decide) (by decide) dX11_song_41
  have J25 : (fX11_song_j25  (fX11_song_j26 La x1 s5 Q)) → sg_W p l e (sg_rm 7 0 0) s m args below meth c (MQ below (sg_Q (some .int) G La s.heap.size (sg_HI La Q)) args s 0 0 (sg_A La s.heap.size)) 3 G (sg_A La s.heap.size) La s5 0 0 25 [(0, sg_r 0), (1, sg_i x1)] [] := by
    intro hf
    unfold fX11_song_j25 at hf
    refine gw_iconst F dX11_song_25 ?_
    refine gw_sub [0, 1] rfl ?_
    exact J26 0 (by decide) hf
  refine gw_if_eq F (tgt := 25) dX11_song_11 (by decide) (sg_B_R h4) (fun c18 => ?_) (fun c18 => ?_)
  · have hf := hf.1 c18
    refine gw_sub [0, 1] rfl ?_
    exact J25  hf
  · have hf := hf.2 c18
    refine gw_iload_n F 1 rfl rfl dX11_song_14 ?_
    refine gk_PZ F (gc_S F (S := []) (As := [sg_i x1]) (CX11_isSlip r1 hf) kw_688 kw_90 kw_686 kw_687 hcX11_isSlip ⟨by decide, by decide⟩ rfl rfl (Nat.le_of_ble_eq_true rfl) ⟨by decide, by decide⟩ dX11_song_15) (fun u19 h20 hf => ?_)
    refine gw_if_eq F (tgt := 25) dX11_song_18 (by decide) (sg_B_R h20) (fun c21 => ?_) (fun c21 => ?_)
    · have hf := hf.1 c21
      refine gw_sub [0, 1] rfl ?_
      exact J25  hf
    · have hf := hf.2 c21
      refine gw_iconst F dX11_song_21 ?_
      refine gw_goto F (tgt := 26) dX11_song_22 (by decide) ?_
      refine gw_sub [0, 1] rfl ?_
      exact J26 1 (by decide) hf

theorem dX11_fault_0 : decode cX11_fault 0 = .ok (.aload_n 0, 1) := by decide +kernel
theorem dX11_fault_1 : decode cX11_fault 1 = .ok (.getfield 102, 3) := by decide +kernel
theorem dX11_fault_4 : decode cX11_fault 4 = .ok (.ireturn, 1) := by decide +kernel
theorem hcX11_fault : yX11_fault.cls ≠ "java/lang/invoke/MethodHandle" ∧ yX11_fault.cls ≠ "java/lang/invoke/VarHandle" ∧ (parseMethodDescriptor yX11_fault.desc).map (fun d => d.parameters.length) = some 0 := ⟨by decide +kernel, by decide +kernel, by decide +kernel⟩
def fX11_fault (s0 : sg_M) (Q : Int → Prop) : Prop := Q (s0 0 16)
set_option maxHeartbeats 4000000 in
set_option maxRecDepth 100000 in
theorem CX11_fault {l : Launch} {G : sg_G} {La : sg_L} {s0 : sg_M} (hst : sg_St La) {Q : Int → Prop} (hf : fX11_fault s0 Q) : sg_C l G yX11_fault cX11_fault 1 (some .int) 1 0 0 La s0 [sg_r 0] (sg_PI La s0 Q) := by
  refine sg_body (by decide +kernel) (Nat.le_of_ble_eq_true rfl) ?_
  intro p e s m args below meth c F hnm
  unfold fX11_fault at hf
  show sg_W p l e (sg_rm 1 0 0) s m args below meth c (MQ below (sg_Q (some .int) G La s.heap.size (sg_PI La s0 Q)) args s 0 0 (sg_A La s.heap.size)) 1 G (sg_A La s.heap.size) La s0 0 0 0 [(0, sg_r 0)] []
  refine gw_aload_n F 0 rfl rfl (by decide) dX11_fault_0 ?_
  refine gw_get0 F (so_0 hst) (by decide) rfl sg_lay_RX11 (j := 16) (by decide) rfl (host := "") (.inl kw_342) dX11_fault_1 (fun h1 => ?_)
  exact gr_PI F h1 hf (by decide) (by decide) dX11_fault_4

theorem dX0_sound_0 : decode cX0_sound 0 = .ok (.iload_n 1, 1) := by decide +kernel
theorem dX0_sound_1 : decode cX0_sound 1 = .ok (.ifCond .lt 31, 3) := by decide +kernel
theorem dX0_sound_4 : decode cX0_sound 4 = .ok (.iload_n 1, 1) := by decide +kernel
theorem dX0_sound_5 : decode cX0_sound 5 = .ok (.aload_n 0, 1) := by decide +kernel
theorem dX0_sound_6 : decode cX0_sound 6 = .ok (.getfield 23, 3) := by decide +kernel
theorem dX0_sound_9 : decode cX0_sound 9 = .ok (.getfield 90, 3) := by decide +kernel
theorem dX0_sound_12 : decode cX0_sound 12 = .ok (.if_icmp .ge 20, 3) := by decide +kernel
theorem dX0_sound_15 : decode cX0_sound 15 = .ok (.iload_n 2, 1) := by decide +kernel
theorem dX0_sound_16 : decode cX0_sound 16 = .ok (.ifCond .lt 16, 3) := by decide +kernel
theorem dX0_sound_19 : decode cX0_sound 19 = .ok (.iload_n 2, 1) := by decide +kernel
theorem dX0_sound_20 : decode cX0_sound 20 = .ok (.iconst 5, 1) := by decide +kernel
theorem dX0_sound_21 : decode cX0_sound 21 = .ok (.if_icmp .gt 11, 3) := by decide +kernel
theorem dX0_sound_24 : decode cX0_sound 24 = .ok (.aload_n 0, 1) := by decide +kernel
theorem dX0_sound_25 : decode cX0_sound 25 = .ok (.getfield 34, 3) := by decide +kernel
theorem dX0_sound_28 : decode cX0_sound 28 = .ok (.iconst (-1), 1) := by decide +kernel
theorem dX0_sound_29 : decode cX0_sound 29 = .ok (.if_icmp .eq 5, 3) := by decide +kernel
theorem dX0_sound_32 : decode cX0_sound 32 = .ok (.iconst 0, 1) := by decide +kernel
theorem dX0_sound_33 : decode cX0_sound 33 = .ok (.ireturn, 1) := by decide +kernel
theorem dX0_sound_34 : decode cX0_sound 34 = .ok (.aload_n 0, 1) := by decide +kernel
theorem dX0_sound_35 : decode cX0_sound 35 = .ok (.getfield 23, 3) := by decide +kernel
theorem dX0_sound_38 : decode cX0_sound 38 = .ok (.iload_n 1, 1) := by decide +kernel
theorem dX0_sound_39 : decode cX0_sound 39 = .ok (.invokevirtual 91, 3) := by decide +kernel
theorem dX0_sound_42 : decode cX0_sound 42 = .ok (.istore 4, 2) := by decide +kernel
theorem dX0_sound_44 : decode cX0_sound 44 = .ok (.aload_n 0, 1) := by decide +kernel
theorem dX0_sound_45 : decode cX0_sound 45 = .ok (.iload 4, 2) := by decide +kernel
theorem dX0_sound_47 : decode cX0_sound 47 = .ok (.iconst 2, 1) := by decide +kernel
theorem dX0_sound_48 : decode cX0_sound 48 = .ok (.iload_n 2, 1) := by decide +kernel
theorem dX0_sound_49 : decode cX0_sound 49 = .ok (.imul, 1) := by decide +kernel
theorem dX0_sound_50 : decode cX0_sound 50 = .ok (.iconst 1, 1) := by decide +kernel
theorem dX0_sound_51 : decode cX0_sound 51 = .ok (.iadd, 1) := by decide +kernel
theorem dX0_sound_52 : decode cX0_sound 52 = .ok (.aload_n 0, 1) := by decide +kernel
theorem dX0_sound_53 : decode cX0_sound 53 = .ok (.getfield 31, 3) := by decide +kernel
theorem dX0_sound_56 : decode cX0_sound 56 = .ok (.imul, 1) := by decide +kernel
theorem dX0_sound_57 : decode cX0_sound 57 = .ok (.sipush 2000, 3) := by decide +kernel
theorem dX0_sound_60 : decode cX0_sound 60 = .ok (.invokevirtual 94, 3) := by decide +kernel
theorem dX0_sound_63 : decode cX0_sound 63 = .ok (.istore 5, 2) := by decide +kernel
theorem dX0_sound_65 : decode cX0_sound 65 = .ok (.iload 5, 2) := by decide +kernel
theorem dX0_sound_67 : decode cX0_sound 67 = .ok (.ifCond .ne 5, 3) := by decide +kernel
theorem dX0_sound_70 : decode cX0_sound 70 = .ok (.iconst 0, 1) := by decide +kernel
theorem dX0_sound_71 : decode cX0_sound 71 = .ok (.ireturn, 1) := by decide +kernel
theorem dX0_sound_72 : decode cX0_sound 72 = .ok (.aload_n 3, 1) := by decide +kernel
theorem dX0_sound_73 : decode cX0_sound 73 = .ok (.iload 5, 2) := by decide +kernel
theorem dX0_sound_75 : decode cX0_sound 75 = .ok (.putfield 97, 3) := by decide +kernel
theorem dX0_sound_78 : decode cX0_sound 78 = .ok (.aload_n 3, 1) := by decide +kernel
theorem dX0_sound_79 : decode cX0_sound 79 = .ok (.aload_n 0, 1) := by decide +kernel
theorem dX0_sound_80 : decode cX0_sound 80 = .ok (.iload 4, 2) := by decide +kernel
theorem dX0_sound_82 : decode cX0_sound 82 = .ok (.iload 5, 2) := by decide +kernel
theorem dX0_sound_84 : decode cX0_sound 84 = .ok (.invokevirtual 102, 3) := by decide +kernel
theorem dX0_sound_87 : decode cX0_sound 87 = .ok (.putfield 105, 3) := by decide +kernel
theorem dX0_sound_90 : decode cX0_sound 90 = .ok (.aload_n 3, 1) := by decide +kernel
theorem dX0_sound_91 : decode cX0_sound 91 = .ok (.aload_n 0, 1) := by decide +kernel
theorem dX0_sound_92 : decode cX0_sound 92 = .ok (.iload 4, 2) := by decide +kernel
theorem dX0_sound_94 : decode cX0_sound 94 = .ok (.iload 5, 2) := by decide +kernel
theorem dX0_sound_96 : decode cX0_sound 96 = .ok (.invokevirtual 108, 3) := by decide +kernel
theorem dX0_sound_99 : decode cX0_sound 99 = .ok (.putfield 111, 3) := by decide +kernel
theorem dX0_sound_102 : decode cX0_sound 102 = .ok (.aload_n 3, 1) := by decide +kernel
theorem dX0_sound_103 : decode cX0_sound 103 = .ok (.aload_n 3, 1) := by decide +kernel
theorem dX0_sound_104 : decode cX0_sound 104 = .ok (.getfield 105, 3) := by decide +kernel
theorem dX0_sound_107 : decode cX0_sound 107 = .ok (.ifCond .le 20, 3) := by decide +kernel
theorem dX0_sound_110 : decode cX0_sound 110 = .ok (.aload_n 3, 1) := by decide +kernel
theorem dX0_sound_111 : decode cX0_sound 111 = .ok (.getfield 111, 3) := by decide +kernel
theorem dX0_sound_114 : decode cX0_sound 114 = .ok (.aload_n 0, 1) := by decide +kernel
theorem dX0_sound_115 : decode cX0_sound 115 = .ok (.getfield 27, 3) := by decide +kernel
theorem dX0_sound_118 : decode cX0_sound 118 = .ok (.iconst 1, 1) := by decide +kernel
theorem dX0_sound_119 : decode cX0_sound 119 = .ok (.isub, 1) := by decide +kernel
theorem dX0_sound_120 : decode cX0_sound 120 = .ok (.if_icmp .ge 7, 3) := by decide +kernel
theorem dX0_sound_123 : decode cX0_sound 123 = .ok (.iconst 1, 1) := by decide +kernel
theorem dX0_sound_124 : decode cX0_sound 124 = .ok (.goto 4, 3) := by decide +kernel
theorem dX0_sound_127 : decode cX0_sound 127 = .ok (.iconst 0, 1) := by decide +kernel
theorem dX0_sound_128 : decode cX0_sound 128 = .ok (.putfield 114, 3) := by decide +kernel
theorem dX0_sound_131 : decode cX0_sound 131 = .ok (.aload_n 3, 1) := by decide +kernel
theorem dX0_sound_132 : decode cX0_sound 132 = .ok (.aload_n 0, 1) := by decide +kernel
theorem dX0_sound_133 : decode cX0_sound 133 = .ok (.aload_n 3, 1) := by decide +kernel
theorem dX0_sound_134 : decode cX0_sound 134 = .ok (.getfield 105, 3) := by decide +kernel
theorem dX0_sound_137 : decode cX0_sound 137 = .ok (.aload_n 3, 1) := by decide +kernel
theorem dX0_sound_138 : decode cX0_sound 138 = .ok (.getfield 111, 3) := by decide +kernel
theorem dX0_sound_141 : decode cX0_sound 141 = .ok (.invokevirtual 117, 3) := by decide +kernel
theorem dX0_sound_144 : decode cX0_sound 144 = .ok (.putfield 121, 3) := by decide +kernel
theorem dX0_sound_147 : decode cX0_sound 147 = .ok (.aload_n 3, 1) := by decide +kernel
theorem dX0_sound_148 : decode cX0_sound 148 = .ok (.aload_n 3, 1) := by decide +kernel
theorem dX0_sound_149 : decode cX0_sound 149 = .ok (.getfield 114, 3) := by decide +kernel
theorem dX0_sound_152 : decode cX0_sound 152 = .ok (.ifCond .eq 20, 3) := by decide +kernel
theorem dX0_sound_155 : decode cX0_sound 155 = .ok (.aload_n 0, 1) := by decide +kernel
theorem dX0_sound_156 : decode cX0_sound 156 = .ok (.aload_n 3, 1) := by decide +kernel
theorem dX0_sound_157 : decode cX0_sound 157 = .ok (.getfield 105, 3) := by decide +kernel
theorem dX0_sound_160 : decode cX0_sound 160 = .ok (.aload_n 3, 1) := by decide +kernel
theorem dX0_sound_161 : decode cX0_sound 161 = .ok (.getfield 111, 3) := by decide +kernel
theorem dX0_sound_164 : decode cX0_sound 164 = .ok (.iload 5, 2) := by decide +kernel
theorem dX0_sound_166 : decode cX0_sound 166 = .ok (.invokevirtual 124, 3) := by decide +kernel
theorem dX0_sound_169 : decode cX0_sound 169 = .ok (.goto 4, 3) := by decide +kernel
theorem dX0_sound_172 : decode cX0_sound 172 = .ok (.iconst 0, 1) := by decide +kernel
theorem dX0_sound_173 : decode cX0_sound 173 = .ok (.putfield 127, 3) := by decide +kernel
theorem dX0_sound_176 : decode cX0_sound 176 = .ok (.aload_n 0, 1) := by decide +kernel
theorem dX0_sound_177 : decode cX0_sound 177 = .ok (.aload_n 3, 1) := by decide +kernel
theorem dX0_sound_178 : decode cX0_sound 178 = .ok (.invokevirtual 129, 3) := by decide +kernel
theorem dX0_sound_181 : decode cX0_sound 181 = .ok (.iconst 1, 1) := by decide +kernel
theorem dX0_sound_182 : decode cX0_sound 182 = .ok (.ireturn, 1) := by decide +kernel
theorem hcX0_sound : yX0_sound.cls ≠ "java/lang/invoke/MethodHandle" ∧ yX0_sound.cls ≠ "java/lang/invoke/VarHandle" ∧ (parseMethodDescriptor yX0_sound.desc).map (fun d => d.parameters.length) = some 3 := ⟨by decide +kernel, by decide +kernel, by decide +kernel⟩
def fX0_sound_j128 (La : sg_L) (o3 : Int) (u14 : Int) (s25 : sg_M) (Q : Int → sg_M → Prop) (y0_128 : Int) : Prop := sg_B y0_128 ∧ ∀ s29 : sg_M, s29 = sg_up s25 o3 5 y0_128 → fX0_isTwice La s29 (s29 o3 2) (s29 o3 3) (fun u33 => ∀ s35 : sg_M, s35 = sg_up s29 o3 6 u33 → (((s35 o3 5) = 0 → ∀ s39 : sg_M, s39 = sg_up s35 o3 4 0 → fX0_tellStrengths La s39 o3 (fun s41 => Q 1 s41)) ∧ (¬ ((s35 o3 5) = 0) → fX0_rings s35 (s35 o3 2) (s35 o3 3) u14 (fun u44 => ∀ s46 : sg_M, s46 = sg_up s35 o3 4 u44 → fX0_tellStrengths La s46 o3 (fun s48 => Q 1 s48)))))
def fX0_sound_j127  (k128 : Int → Prop)  : Prop := k128 0
def fX0_sound (La : sg_L) (s0 : sg_M) (x1 : Int) (x2 : Int) (o3 : Int) (Q : Int → sg_M → Prop) : Prop := ((x1 < 0 → Q 0 s0) ∧ (¬ (x1 < 0) → (((s0 35 1) ≤ x1 → Q 0 s0) ∧ (¬ ((s0 35 1) ≤ x1) → ((x2 < 0 → Q 0 s0) ∧ (¬ (x2 < 0) → ((5 < x2 → Q 0 s0) ∧ (¬ (5 < x2) → (((s0 32 5) = (-1) → fX4_at La s0 35 x1 (fun u10 => sg_R (((2 * x2) + 1) * (s0 32 4)) ∧ fX0_leastTone s0 u10 (((2 * x2) + 1) * (s0 32 4)) 2000 (fun u14 => ((u14 ≠ 0 → ∀ s17 : sg_M, s17 = sg_up s0 o3 1 u14 → fX0_firstOfRun s17 u10 u14 (fun u19 => ∀ s21 : sg_M, s21 = sg_up s17 o3 2 u19 → fX0_lastOfRun s21 u10 u14 (fun u23 => ∀ s25 : sg_M, s25 = sg_up s21 o3 3 u23 → (((s25 o3 2) ≤ 0 → (fX0_sound_j127  (fX0_sound_j128 La o3 u14 s25 Q))) ∧ (¬ ((s25 o3 2) ≤ 0) → sg_R ((s25 32 3) - 1) ∧ ((((s25 32 3) - 1) ≤ (s25 o3 3) → (fX0_sound_j127  (fX0_sound_j128 La o3 u14 s25 Q))) ∧ (¬ (((s25 32 3) - 1) ≤ (s25 o3 3)) → (fX0_sound_j128 La o3 u14 s25 Q) 1))))))) ∧ (u14 = 0 → Q 0 s0))))) ∧ (¬ ((s0 32 5) = (-1)) → Q 0 s0))))))))))
set_option maxHeartbeats 4000000 in
set_option maxRecDepth 100000 in
theorem CX0_sound {l : Launch} {G : sg_G} {La : sg_L} {s0 : sg_M} (hst : sg_St La) {x1 : Int} (r1 : sg_R x1) {x2 : Int} (r2 : sg_R x2) {o3 : Int} (t3 : sg_O La o3 10) {Q : Int → sg_M → Prop} (hf : fX0_sound La s0 x1 x2 o3 Q) : sg_C l G yX0_sound cX0_sound 6 (some .boolean) 4 0 0 La s0 [sg_r 32, sg_i x1, sg_i x2, sg_r o3] (sg_HZ La Q) := by
  refine sg_body (by decide +kernel) (Nat.le_of_ble_eq_true rfl) ?_
  intro p e s m args below meth c F hnm
  unfold fX0_sound at hf
  show sg_W p l e (sg_rm 4 0 0) s m args below meth c (MQ below (sg_Q (some .boolean) G La s.heap.size (sg_HZ La Q)) args s 0 0 (sg_A La s.heap.size)) 6 G (sg_A La s.heap.size) La s0 0 0 0 [(0, sg_r 32), (1, sg_i x1), (2, sg_i x2), (3, sg_r o3)] []
  refine gw_iload_n F 1 rfl rfl dX0_sound_0 ?_
  refine gw_if_lt F (tgt := 32) dX0_sound_1 (by decide) r1 (fun c1 => ?_) (fun c1 => ?_)
  · have hf := hf.1 c1
    refine gw_iconst F dX0_sound_32 ?_
    exact gr_HZ F (by decide) hf (by decide) (by decide) dX0_sound_33
  · have hf := hf.2 c1
    refine gw_iload_n F 1 rfl rfl dX0_sound_4 ?_
    refine gw_aload_n F 0 rfl rfl (by decide) dX0_sound_5 ?_
    refine gw_get3 F (so_32 hst) (by decide) rfl sg_lay_RX0 (j := 2) (by decide) (o1 := 35) (by first | rfl | omega) rfl (host := "") (.inl kw_254) dX0_sound_6 (fun h2 => ?_)
    refine gw_get0 F (so_35 hst) (by decide) rfl sg_lay_RX4 (j := 1) (by decide) rfl (.inr kw_202) dX0_sound_9 (fun h3 => ?_)
    refine gw_icmp_ge F (tgt := 32) dX0_sound_12 (by decide) r1 h3 (fun c4 => ?_) (fun c4 => ?_)
    · have hf := hf.1 c4
      refine gw_iconst F dX0_sound_32 ?_
      exact gr_HZ F (by decide) hf (by decide) (by decide) dX0_sound_33
    · have hf := hf.2 c4
      refine gw_iload_n F 2 rfl rfl dX0_sound_15 ?_
      refine gw_if_lt F (tgt := 32) dX0_sound_16 (by decide) r2 (fun c5 => ?_) (fun c5 => ?_)
      · have hf := hf.1 c5
        refine gw_iconst F dX0_sound_32 ?_
        exact gr_HZ F (by decide) hf (by decide) (by decide) dX0_sound_33
      · have hf := hf.2 c5
        refine gw_iload_n F 2 rfl rfl dX0_sound_19 ?_
        refine gw_iconst F dX0_sound_20 ?_
        refine gw_icmp_gt F (tgt := 32) dX0_sound_21 (by decide) r2 (by decide) (fun c6 => ?_) (fun c6 => ?_)
        · have hf := hf.1 c6
          refine gw_iconst F dX0_sound_32 ?_
          exact gr_HZ F (by decide) hf (by decide) (by decide) dX0_sound_33
        · have hf := hf.2 c6
          refine gw_aload_n F 0 rfl rfl (by decide) dX0_sound_24 ?_
          refine gw_get0 F (so_32 hst) (by decide) rfl sg_lay_RX0 (j := 5) (by decide) rfl (host := "") (.inl kw_259) dX0_sound_25 (fun h7 => ?_)
          refine gw_iconst F dX0_sound_28 ?_
          refine gw_icmp_eq F (tgt := 34) dX0_sound_29 (by decide) h7 (by decide) (fun c8 => ?_) (fun c8 => ?_)
          · have hf := hf.1 c8
            refine gw_aload_n F 0 rfl rfl (by decide) dX0_sound_34 ?_
            refine gw_get3 F (so_32 hst) (by decide) rfl sg_lay_RX0 (j := 2) (by decide) (o1 := 35) (by first | rfl | omega) rfl (host := "") (.inl kw_254) dX0_sound_35 (fun h9 => ?_)
            refine gw_iload_n F 1 rfl rfl dX0_sound_38 ?_
            refine gk_PI F (gc_V F (S := []) (As := [sg_i x1]) (T := TX4) (N := 3) (CX4_at (so_35 hst) r1 hf) (so_35 hst) (by decide) rfl kw_546 kw_97 kw_555 kw_544 kw_545 hcX4_at ⟨by decide, by decide⟩ rfl rfl (Nat.le_of_ble_eq_true rfl) ⟨by decide, by decide⟩ dX0_sound_39) (fun u10 h11 hf => ?_)
            refine gw_istore F (by decide) rfl dX0_sound_42 ?_
            refine gw_aload_n F 1 rfl rfl (by decide) dX0_sound_44 ?_
            refine gw_iload F 0 rfl dX0_sound_45 ?_
            refine gw_iconst F dX0_sound_47 ?_
            refine gw_iload_n F 3 rfl rfl dX0_sound_48 ?_
            refine gw_imul F rfl dX0_sound_49 ?_
            refine gw_iconst F dX0_sound_50 ?_
            refine gw_iadd F rfl dX0_sound_51 ?_
            refine gw_aload_n F 1 rfl rfl (by decide) dX0_sound_52 ?_
            refine gw_get0 F (so_32 hst) (by decide) rfl sg_lay_RX0 (j := 4) (by decide) rfl (host := "") (.inl kw_258) dX0_sound_53 (fun h12 => ?_)
            refine gw_imul F rfl dX0_sound_56 ?_
            refine gw_sipush F rfl dX0_sound_57 ?_
            obtain ⟨g13, hf⟩ := hf
            refine gk_PI F (gc_V F (S := []) (As := [sg_i u10, sg_i (((2 * x2) + 1) * (s0 32 4)), sg_i 2000]) (T := TX0) (N := 11) (CX0_leastTone hst h11 g13 (by decide) hf) (so_32 hst) (by decide) rfl kw_558 kw_100 kw_556 kw_557 kw_6 hcX0_leastTone ⟨by decide, by decide⟩ rfl rfl (Nat.le_of_ble_eq_true rfl) ⟨by decide, by decide⟩ dX0_sound_60) (fun u14 h15 hf => ?_)
            refine gw_istore F (by decide) rfl dX0_sound_63 ?_
            refine gw_iload F 0 rfl dX0_sound_65 ?_
            refine gw_if_ne F (tgt := 72) dX0_sound_67 (by decide) h15 (fun c16 => ?_) (fun c16 => ?_)
            · have hf := hf.1 c16
              refine gw_aload_n F 5 rfl rfl t3.1 dX0_sound_72 ?_
              refine gw_iload F 0 rfl dX0_sound_73 ?_
              obtain ⟨s17, e18⟩ : ∃ z : sg_M, z = sg_up s0 o3 1 u14 := ⟨_, rfl⟩
              have hf := hf s17 e18
              refine gw_put0 F t3 (by decide) rfl sg_lay_RX10 (j := 1) (by decide) h15 e18 tyX10_ok nmX10 rfl (tyX10_ok 1 (by decide)) rfl (.inr kw_287) dX0_sound_75 ?_
              refine gw_aload_n F 5 rfl rfl t3.1 dX0_sound_78 ?_
              refine gw_aload_n F 2 rfl rfl (by decide) dX0_sound_79 ?_
              refine gw_iload F 1 rfl dX0_sound_80 ?_
              refine gw_iload F 0 rfl dX0_sound_82 ?_
              refine gk_PI F (gc_V F (S := [sg_r o3]) (As := [sg_i u10, sg_i u14]) (T := TX0) (N := 11) (CX0_firstOfRun hst h11 h15 hf) (so_32 hst) (by decide) rfl kw_571 kw_100 kw_569 kw_570 kw_9 hcX0_firstOfRun ⟨by decide, by decide⟩ rfl rfl (Nat.le_of_ble_eq_true rfl) ⟨by decide, by decide⟩ dX0_sound_84) (fun u19 h20 hf => ?_)
              obtain ⟨s21, e22⟩ : ∃ z : sg_M, z = sg_up s17 o3 2 u19 := ⟨_, rfl⟩
              have hf := hf s21 e22
              refine gw_put0 F t3 (by decide) rfl sg_lay_RX10 (j := 2) (by decide) h20 e22 tyX10_ok nmX10 rfl (tyX10_ok 2 (by decide)) rfl (.inr kw_290) dX0_sound_87 ?_
              refine gw_aload_n F 5 rfl rfl t3.1 dX0_sound_90 ?_
              refine gw_aload_n F 2 rfl rfl (by decide) dX0_sound_91 ?_
              refine gw_iload F 1 rfl dX0_sound_92 ?_
              refine gw_iload F 0 rfl dX0_sound_94 ?_
              refine gk_PI F (gc_V F (S := [sg_r o3]) (As := [sg_i u10, sg_i u14]) (T := TX0) (N := 11) (CX0_lastOfRun hst h11 h15 hf) (so_32 hst) (by decide) rfl kw_574 kw_100 kw_572 kw_573 kw_10 hcX0_lastOfRun ⟨by decide, by decide⟩ rfl rfl (Nat.le_of_ble_eq_true rfl) ⟨by decide, by decide⟩ dX0_sound_96) (fun u23 h24 hf => ?_)
              obtain ⟨s25, e26⟩ : ∃ z : sg_M, z = sg_up s21 o3 3 u23 := ⟨_, rfl⟩
              have hf := hf s25 e26
              refine gw_put0 F t3 (by decide) rfl sg_lay_RX10 (j := 3) (by decide) h24 e26 tyX10_ok nmX10 rfl (tyX10_ok 3 (by decide)) rfl (.inr kw_293) dX0_sound_99 ?_
              refine gw_aload_n F 5 rfl rfl t3.1 dX0_sound_102 ?_
              refine gw_aload_n F 5 rfl rfl t3.1 dX0_sound_103 ?_
              refine gw_get0 F t3 (by decide) rfl sg_lay_RX10 (j := 2) (by decide) rfl (.inr kw_290) dX0_sound_104 (fun h27 => ?_)
              have J128 : ∀ (y0_128 : Int), sg_R y0_128 → (fX0_sound_j128 La o3 u14 s25 Q) y0_128 → sg_W p l e (sg_rm 4 0 0) s m args below meth c (MQ below (sg_Q (some .boolean) G La s.heap.size (sg_HZ La Q)) args s 0 0 (sg_A La s.heap.size)) 6 G (sg_A La s.heap.size) La s25 0 0 128 [(0, sg_r 32), (3, sg_r o3), (5, sg_i u14)] [sg_i y0_128, sg_r o3] := by
                intro y0_128 ry0_128 hf
                unfold fX0_sound_j128 at hf
                obtain ⟨g28, hf⟩ := hf
                obtain ⟨s29, e30⟩ : ∃ z : sg_M, z = sg_up s25 o3 5 y0_128 := ⟨_, rfl⟩
                have hf := hf s29 e30
                refine gw_put1 F t3 (by decide) rfl sg_lay_RX10 (j := 5) (by decide) g28 e30 tyX10_ok nmX10 rfl (tyX10_ok 5 (by decide)) rfl (.inr kw_299) dX0_sound_128 ?_
                refine gw_aload_n F 1 rfl rfl t3.1 dX0_sound_131 ?_
                refine gw_aload_n F 0 rfl rfl (by decide) dX0_sound_132 ?_
                refine gw_aload_n F 1 rfl rfl t3.1 dX0_sound_133 ?_
                refine gw_get0 F t3 (by decide) rfl sg_lay_RX10 (j := 2) (by decide) rfl (.inr kw_290) dX0_sound_134 (fun h31 => ?_)
                refine gw_aload_n F 1 rfl rfl t3.1 dX0_sound_137 ?_
                refine gw_get0 F t3 (by decide) rfl sg_lay_RX10 (j := 3) (by decide) rfl (.inr kw_293) dX0_sound_138 (fun h32 => ?_)
                refine gk_PZ F (gc_V F (S := [sg_r o3]) (As := [sg_i (s29 o3 2), sg_i (s29 o3 3)]) (T := TX0) (N := 11) (CX0_isTwice hst h31 h32 hf) (so_32 hst) (by decide) rfl kw_577 kw_100 kw_575 kw_576 kw_11 hcX0_isTwice ⟨by decide, by decide⟩ rfl rfl (Nat.le_of_ble_eq_true rfl) ⟨by decide, by decide⟩ dX0_sound_141) (fun u33 h34 hf => ?_)
                obtain ⟨s35, e36⟩ : ∃ z : sg_M, z = sg_up s29 o3 6 u33 := ⟨_, rfl⟩
                have hf := hf s35 e36
                refine gw_put1 F t3 (by decide) rfl sg_lay_RX10 (j := 6) (by decide) h34 e36 tyX10_ok nmX10 rfl (tyX10_ok 6 (by decide)) rfl (.inr kw_302) dX0_sound_144 ?_
                refine gw_aload_n F 1 rfl rfl t3.1 dX0_sound_147 ?_
                refine gw_aload_n F 1 rfl rfl t3.1 dX0_sound_148 ?_
                refine gw_get1 F t3 (by decide) rfl sg_lay_RX10 (j := 5) (by decide) rfl (.inr kw_299) dX0_sound_149 (fun h37 => ?_)
                refine gw_if_eq F (tgt := 172) dX0_sound_152 (by decide) (sg_B_R h37) (fun c38 => ?_) (fun c38 => ?_)
                · have hf := hf.1 c38
                  refine gw_iconst F dX0_sound_172 ?_
                  obtain ⟨s39, e40⟩ : ∃ z : sg_M, z = sg_up s35 o3 4 0 := ⟨_, rfl⟩
                  have hf := hf s39 e40
                  refine gw_put0 F t3 (by decide) rfl sg_lay_RX10 (j := 4) (by decide) (by decide) e40 tyX10_ok nmX10 rfl (tyX10_ok 4 (by decide)) rfl (.inr kw_296) dX0_sound_173 ?_
                  refine gw_aload_n F 0 rfl rfl (by decide) dX0_sound_176 ?_
                  refine gw_aload_n F 1 rfl rfl t3.1 dX0_sound_177 ?_
                  refine gk_HV F (gc_V F (S := []) (As := [sg_r o3]) (T := TX0) (N := 11) (CX0_tellStrengths hst t3 hf) (so_32 hst) (by decide) rfl kw_583 kw_100 kw_581 kw_582 kw_13 hcX0_tellStrengths ⟨by decide, by decide⟩ rfl rfl (Nat.le_of_ble_eq_true rfl) ⟨by decide, by decide⟩ dX0_sound_178) (fun s41 hf => ?_)
                  refine gw_iconst F dX0_sound_181 ?_
                  exact gr_HZ F (by decide) hf (by decide) (by decide) dX0_sound_182
                · have hf := hf.2 c38
                  refine gw_aload_n F 0 rfl rfl (by decide) dX0_sound_155 ?_
                  refine gw_aload_n F 1 rfl rfl t3.1 dX0_sound_156 ?_
                  refine gw_get0 F t3 (by decide) rfl sg_lay_RX10 (j := 2) (by decide) rfl (.inr kw_290) dX0_sound_157 (fun h42 => ?_)
                  refine gw_aload_n F 1 rfl rfl t3.1 dX0_sound_160 ?_
                  refine gw_get0 F t3 (by decide) rfl sg_lay_RX10 (j := 3) (by decide) rfl (.inr kw_293) dX0_sound_161 (fun h43 => ?_)
                  refine gw_iload F 2 rfl dX0_sound_164 ?_
                  refine gk_PI F (gc_V F (S := [sg_r o3]) (As := [sg_i (s35 o3 2), sg_i (s35 o3 3), sg_i u14]) (T := TX0) (N := 11) (CX0_rings hst h42 h43 h15 hf) (so_32 hst) (by decide) rfl kw_580 kw_100 kw_578 kw_579 kw_12 hcX0_rings ⟨by decide, by decide⟩ rfl rfl (Nat.le_of_ble_eq_true rfl) ⟨by decide, by decide⟩ dX0_sound_166) (fun u44 h45 hf => ?_)
                  refine gw_goto F (tgt := 173) dX0_sound_169 (by decide) ?_
                  obtain ⟨s46, e47⟩ : ∃ z : sg_M, z = sg_up s35 o3 4 u44 := ⟨_, rfl⟩
                  have hf := hf s46 e47
                  refine gw_put0 F t3 (by decide) rfl sg_lay_RX10 (j := 4) (by decide) h45 e47 tyX10_ok nmX10 rfl (tyX10_ok 4 (by decide)) rfl (.inr kw_296) dX0_sound_173 ?_
                  refine gw_aload_n F 0 rfl rfl (by decide) dX0_sound_176 ?_
                  refine gw_aload_n F 1 rfl rfl t3.1 dX0_sound_177 ?_
                  refine gk_HV F (gc_V F (S := []) (As := [sg_r o3]) (T := TX0) (N := 11) (CX0_tellStrengths hst t3 hf) (so_32 hst) (by decide) rfl kw_583 kw_100 kw_581 kw_582 kw_13 hcX0_tellStrengths ⟨by decide, by decide⟩ rfl rfl (Nat.le_of_ble_eq_true rfl) ⟨by decide, by decide⟩ dX0_sound_178) (fun s48 hf => ?_)
                  refine gw_iconst F dX0_sound_181 ?_
                  exact gr_HZ F (by decide) hf (by decide) (by decide) dX0_sound_182
              have J127 : (fX0_sound_j127  (fX0_sound_j128 La o3 u14 s25 Q)) → sg_W p l e (sg_rm 4 0 0) s m args below meth c (MQ below (sg_Q (some .boolean) G La s.heap.size (sg_HZ La Q)) args s 0 0 (sg_A La s.heap.size)) 6 G (sg_A La s.heap.size) La s25 0 0 127 [(0, sg_r 32), (3, sg_r o3), (5, sg_i u14)] [sg_r o3] := by
                intro hf
                unfold fX0_sound_j127 at hf
                refine gw_iconst F dX0_sound_127 ?_
                refine gw_sub [0, 1, 2] rfl ?_
                exact J128 0 (by decide) hf
              refine gw_if_le F (tgt := 127) dX0_sound_107 (by decide) h27 (fun c49 => ?_) (fun c49 => ?_)
              · have hf := hf.1 c49
                refine gw_sub [2, 5, 0] rfl ?_
                exact J127  hf
              · have hf := hf.2 c49
                refine gw_aload_n F 5 rfl rfl t3.1 dX0_sound_110 ?_
                refine gw_get0 F t3 (by decide) rfl sg_lay_RX10 (j := 3) (by decide) rfl (.inr kw_293) dX0_sound_111 (fun h50 => ?_)
                refine gw_aload_n F 2 rfl rfl (by decide) dX0_sound_114 ?_
                refine gw_get0 F (so_32 hst) (by decide) rfl sg_lay_RX0 (j := 3) (by decide) rfl (host := "") (.inl kw_257) dX0_sound_115 (fun h51 => ?_)
                refine gw_iconst F dX0_sound_118 ?_
                refine gw_isub F rfl dX0_sound_119 ?_
                obtain ⟨g52, hf⟩ := hf
                refine gw_icmp_ge F (tgt := 127) dX0_sound_120 (by decide) h50 g52 (fun c53 => ?_) (fun c53 => ?_)
                · have hf := hf.1 c53
                  refine gw_sub [2, 5, 0] rfl ?_
                  exact J127  hf
                · have hf := hf.2 c53
                  refine gw_iconst F dX0_sound_123 ?_
                  refine gw_goto F (tgt := 128) dX0_sound_124 (by decide) ?_
                  refine gw_sub [2, 5, 0] rfl ?_
                  exact J128 1 (by decide) hf
            · have hf := hf.2 c16
              refine gw_iconst F dX0_sound_70 ?_
              exact gr_HZ F (by decide) hf (by decide) (by decide) dX0_sound_71
          · have hf := hf.2 c8
            refine gw_iconst F dX0_sound_32 ?_
            exact gr_HZ F (by decide) hf (by decide) (by decide) dX0_sound_33

theorem dX11_tone_0 : decode cX11_tone 0 = .ok (.iload_n 1, 1) := by decide +kernel
theorem dX11_tone_1 : decode cX11_tone 1 = .ok (.iload_n 2, 1) := by decide +kernel
theorem dX11_tone_2 : decode cX11_tone 2 = .ok (.invokestatic 158, 3) := by decide +kernel
theorem dX11_tone_5 : decode cX11_tone 5 = .ok (.ifCond .ne 5, 3) := by decide +kernel
theorem dX11_tone_8 : decode cX11_tone 8 = .ok (.iconst (-1), 1) := by decide +kernel
theorem dX11_tone_9 : decode cX11_tone 9 = .ok (.ireturn, 1) := by decide +kernel
theorem dX11_tone_10 : decode cX11_tone 10 = .ok (.aload_n 0, 1) := by decide +kernel
theorem dX11_tone_11 : decode cX11_tone 11 = .ok (.getfield 54, 3) := by decide +kernel
theorem dX11_tone_14 : decode cX11_tone 14 = .ok (.aload_n 0, 1) := by decide +kernel
theorem dX11_tone_15 : decode cX11_tone 15 = .ok (.getfield 39, 3) := by decide +kernel
theorem dX11_tone_18 : decode cX11_tone 18 = .ok (.getfield 112, 3) := by decide +kernel
theorem dX11_tone_21 : decode cX11_tone 21 = .ok (.iload_n 1, 1) := by decide +kernel
theorem dX11_tone_22 : decode cX11_tone 22 = .ok (.iload_n 2, 1) := by decide +kernel
theorem dX11_tone_23 : decode cX11_tone 23 = .ok (.invokevirtual 171, 3) := by decide +kernel
theorem dX11_tone_26 : decode cX11_tone 26 = .ok (.aload_n 0, 1) := by decide +kernel
theorem dX11_tone_27 : decode cX11_tone 27 = .ok (.getfield 54, 3) := by decide +kernel
theorem dX11_tone_30 : decode cX11_tone 30 = .ok (.iload_n 3, 1) := by decide +kernel
theorem dX11_tone_31 : decode cX11_tone 31 = .ok (.iload 4, 2) := by decide +kernel
theorem dX11_tone_33 : decode cX11_tone 33 = .ok (.aload_n 0, 1) := by decide +kernel
theorem dX11_tone_34 : decode cX11_tone 34 = .ok (.getfield 61, 3) := by decide +kernel
theorem dX11_tone_37 : decode cX11_tone 37 = .ok (.invokevirtual 185, 3) := by decide +kernel
theorem dX11_tone_40 : decode cX11_tone 40 = .ok (.ifCond .eq 13, 3) := by decide +kernel
theorem dX11_tone_43 : decode cX11_tone 43 = .ok (.aload_n 0, 1) := by decide +kernel
theorem dX11_tone_44 : decode cX11_tone 44 = .ok (.getfield 61, 3) := by decide +kernel
theorem dX11_tone_47 : decode cX11_tone 47 = .ok (.getfield 189, 3) := by decide +kernel
theorem dX11_tone_50 : decode cX11_tone 50 = .ok (.goto 4, 3) := by decide +kernel
theorem dX11_tone_53 : decode cX11_tone 53 = .ok (.iconst (-1), 1) := by decide +kernel
theorem dX11_tone_54 : decode cX11_tone 54 = .ok (.ireturn, 1) := by decide +kernel
theorem hcX11_tone : yX11_tone.cls ≠ "java/lang/invoke/MethodHandle" ∧ yX11_tone.cls ≠ "java/lang/invoke/VarHandle" ∧ (parseMethodDescriptor yX11_tone.desc).map (fun d => d.parameters.length) = some 4 := ⟨by decide +kernel, by decide +kernel, by decide +kernel⟩
def fX11_tone (La : sg_L) (s0 : sg_M) (x1 : Int) (x2 : Int) (x3 : Int) (x4 : Int) (Q : Int → sg_M → Prop) : Prop := fX11_isBend x1 x2 (fun u1 => ((u1 ≠ 0 → (0 ≤ (s0 4 0)) ∧ fX0_bendTo La s0 (s0 4 0) x1 x2 (fun s9 => fX0_sound La s9 x3 x4 37 (fun u12 s14 => ((u12 = 0 → Q (-1) s14) ∧ (¬ (u12 = 0) → Q (s14 37 1) s14))))) ∧ (u1 = 0 → Q (-1) s0)))
set_option maxHeartbeats 4000000 in
set_option maxRecDepth 100000 in
theorem CX11_tone {l : Launch} {G : sg_G} {La : sg_L} {s0 : sg_M} (hst : sg_St La) {x1 : Int} (r1 : sg_R x1) {x2 : Int} (r2 : sg_R x2) {x3 : Int} (r3 : sg_R x3) {x4 : Int} (r4 : sg_R x4) {Q : Int → sg_M → Prop} (hf : fX11_tone La s0 x1 x2 x3 x4 Q) : sg_C l G yX11_tone cX11_tone 5 (some .int) 5 0 0 La s0 [sg_r 0, sg_i x1, sg_i x2, sg_i x3, sg_i x4] (sg_HI La Q) := by
  refine sg_body (by decide +kernel) (Nat.le_of_ble_eq_true rfl) ?_
  intro p e s m args below meth c F hnm
  unfold fX11_tone at hf
  show sg_W p l e (sg_rm 5 0 0) s m args below meth c (MQ below (sg_Q (some .int) G La s.heap.size (sg_HI La Q)) args s 0 0 (sg_A La s.heap.size)) 5 G (sg_A La s.heap.size) La s0 0 0 0 [(0, sg_r 0), (1, sg_i x1), (2, sg_i x2), (3, sg_i x3), (4, sg_i x4)] []
  refine gw_iload_n F 1 rfl rfl dX11_tone_0 ?_
  refine gw_iload_n F 2 rfl rfl dX11_tone_1 ?_
  refine gk_PZ F (gc_S F (S := []) (As := [sg_i x1, sg_i x2]) (CX11_isBend r1 r2 hf) kw_502 kw_90 kw_500 kw_501 hcX11_isBend ⟨by decide, by decide⟩ rfl rfl (Nat.le_of_ble_eq_true rfl) ⟨by decide, by decide⟩ dX11_tone_2) (fun u1 h2 hf => ?_)
  refine gw_if_ne F (tgt := 10) dX11_tone_5 (by decide) (sg_B_R h2) (fun c3 => ?_) (fun c3 => ?_)
  · have hf := hf.1 c3
    refine gw_aload_n F 0 rfl rfl (by decide) dX11_tone_10 ?_
    refine gw_get7 F (so_0 hst) (by decide) rfl sg_lay_RX11 (j := 5) (by decide) (o1 := 32) (by first | rfl | omega) rfl (host := "") (.inl kw_331) dX11_tone_11 (fun h4 => ?_)
    refine gw_aload_n F 0 rfl rfl (by decide) dX11_tone_14 ?_
    refine gw_get7 F (so_0 hst) (by decide) rfl sg_lay_RX11 (j := 2) (by decide) (o1 := 4) (by first | rfl | omega) rfl (host := "") (.inl kw_328) dX11_tone_15 (fun h5 => ?_)
    refine gw_get4 F (so_4 hst) (by decide) rfl sg_lay_RX7 (j := 0) (by decide) rfl (.inr kw_234) dX11_tone_18 (fun h6 => ?_)
    refine gw_iload_n F 1 rfl rfl dX11_tone_21 ?_
    refine gw_iload_n F 2 rfl rfl dX11_tone_22 ?_
    obtain ⟨g7, hf⟩ := hf
    have t8 := sg_nn h6 g7
    refine gk_HV F (gc_V F (S := []) (As := [sg_r (s0 4 0), sg_i x1, sg_i x2]) (T := TX0) (N := 11) (CX0_bendTo hst t8 r1 r2 hf) (so_32 hst) (by decide) rfl kw_506 kw_100 kw_503 kw_504 kw_505 hcX0_bendTo ⟨by decide, by decide⟩ rfl rfl (Nat.le_of_ble_eq_true rfl) ⟨by decide, by decide⟩ dX11_tone_23) (fun s9 hf => ?_)
    refine gw_aload_n F 0 rfl rfl (by decide) dX11_tone_26 ?_
    refine gw_get7 F (so_0 hst) (by decide) rfl sg_lay_RX11 (j := 5) (by decide) (o1 := 32) (by first | rfl | omega) rfl (host := "") (.inl kw_331) dX11_tone_27 (fun h10 => ?_)
    refine gw_iload_n F 3 rfl rfl dX11_tone_30 ?_
    refine gw_iload F 4 rfl dX11_tone_31 ?_
    refine gw_aload_n F 0 rfl rfl (by decide) dX11_tone_33 ?_
    refine gw_get7 F (so_0 hst) (by decide) rfl sg_lay_RX11 (j := 6) (by decide) (o1 := 37) (by first | rfl | omega) rfl (host := "") (.inl kw_332) dX11_tone_34 (fun h11 => ?_)
    refine gk_HZ F (gc_V F (S := []) (As := [sg_i x3, sg_i x4, sg_r 37]) (T := TX0) (N := 11) (CX0_sound hst r3 r4 (so_37 hst) hf) (so_32 hst) (by decide) rfl kw_554 kw_100 kw_551 kw_552 kw_553 hcX0_sound ⟨by decide, by decide⟩ rfl rfl (Nat.le_of_ble_eq_true rfl) ⟨by decide, by decide⟩ dX11_tone_37) (fun u12 s14 h13 hf => ?_)
    refine gw_if_eq F (tgt := 53) dX11_tone_40 (by decide) (sg_B_R h13) (fun c15 => ?_) (fun c15 => ?_)
    · have hf := hf.1 c15
      refine gw_iconst F dX11_tone_53 ?_
      exact gr_HI F (by decide) hf (by decide) (by decide) dX11_tone_54
    · have hf := hf.2 c15
      refine gw_aload_n F 0 rfl rfl (by decide) dX11_tone_43 ?_
      refine gw_get7 F (so_0 hst) (by decide) rfl sg_lay_RX11 (j := 6) (by decide) (o1 := 37) (by first | rfl | omega) rfl (host := "") (.inl kw_332) dX11_tone_44 (fun h16 => ?_)
      refine gw_get0 F (so_37 hst) (by decide) rfl sg_lay_RX10 (j := 1) (by decide) rfl (.inr kw_288) dX11_tone_47 (fun h17 => ?_)
      refine gw_goto F (tgt := 54) dX11_tone_50 (by decide) ?_
      exact gr_HI F h17 hf (by decide) (by decide) dX11_tone_54
  · have hf := hf.2 c3
    refine gw_iconst F dX11_tone_8 ?_
    exact gr_HI F (by decide) hf (by decide) (by decide) dX11_tone_9

theorem dX11_which_0 : decode cX11_which 0 = .ok (.iload_n 1, 1) := by decide +kernel
theorem dX11_which_1 : decode cX11_which 1 = .ok (.invokestatic 258, 3) := by decide +kernel
theorem dX11_which_4 : decode cX11_which 4 = .ok (.ifCond .eq 14, 3) := by decide +kernel
theorem dX11_which_7 : decode cX11_which 7 = .ok (.aload_n 0, 1) := by decide +kernel
theorem dX11_which_8 : decode cX11_which 8 = .ok (.invokevirtual 304, 3) := by decide +kernel
theorem dX11_which_11 : decode cX11_which 11 = .ok (.ifCond .eq 7, 3) := by decide +kernel
theorem dX11_which_14 : decode cX11_which 14 = .ok (.iconst 1, 1) := by decide +kernel
theorem dX11_which_15 : decode cX11_which 15 = .ok (.goto 4, 3) := by decide +kernel
theorem dX11_which_18 : decode cX11_which 18 = .ok (.iconst 0, 1) := by decide +kernel
theorem dX11_which_19 : decode cX11_which 19 = .ok (.istore_n 2, 1) := by decide +kernel
theorem dX11_which_20 : decode cX11_which 20 = .ok (.iload_n 2, 1) := by decide +kernel
theorem dX11_which_21 : decode cX11_which 21 = .ok (.ifCond .eq 7, 3) := by decide +kernel
theorem dX11_which_24 : decode cX11_which 24 = .ok (.iconst 0, 1) := by decide +kernel
theorem dX11_which_25 : decode cX11_which 25 = .ok (.goto 4, 3) := by decide +kernel
theorem dX11_which_28 : decode cX11_which 28 = .ok (.iconst (-1), 1) := by decide +kernel
theorem dX11_which_29 : decode cX11_which 29 = .ok (.istore_n 3, 1) := by decide +kernel
theorem dX11_which_30 : decode cX11_which 30 = .ok (.iconst 0, 1) := by decide +kernel
theorem dX11_which_31 : decode cX11_which 31 = .ok (.istore 4, 2) := by decide +kernel
theorem dX11_which_33 : decode cX11_which 33 = .ok (.iload_n 2, 1) := by decide +kernel
theorem dX11_which_34 : decode cX11_which 34 = .ok (.ifCond .eq 53, 3) := by decide +kernel
theorem dX11_which_37 : decode cX11_which 37 = .ok (.iload 4, 2) := by decide +kernel
theorem dX11_which_39 : decode cX11_which 39 = .ok (.iconst 4, 1) := by decide +kernel
theorem dX11_which_40 : decode cX11_which 40 = .ok (.if_icmp .ge 47, 3) := by decide +kernel
theorem dX11_which_43 : decode cX11_which 43 = .ok (.aload_n 0, 1) := by decide +kernel
theorem dX11_which_44 : decode cX11_which 44 = .ok (.getfield 39, 3) := by decide +kernel
theorem dX11_which_47 : decode cX11_which 47 = .ok (.getfield 300, 3) := by decide +kernel
theorem dX11_which_50 : decode cX11_which 50 = .ok (.iload 4, 2) := by decide +kernel
theorem dX11_which_52 : decode cX11_which 52 = .ok (.aaload, 1) := by decide +kernel
theorem dX11_which_53 : decode cX11_which 53 = .ok (.ifnull 28, 3) := by decide +kernel
theorem dX11_which_56 : decode cX11_which 56 = .ok (.aload_n 0, 1) := by decide +kernel
theorem dX11_which_57 : decode cX11_which 57 = .ok (.aload_n 0, 1) := by decide +kernel
theorem dX11_which_58 : decode cX11_which 58 = .ok (.getfield 39, 3) := by decide +kernel
theorem dX11_which_61 : decode cX11_which 61 = .ok (.getfield 300, 3) := by decide +kernel
theorem dX11_which_64 : decode cX11_which 64 = .ok (.iload 4, 2) := by decide +kernel
theorem dX11_which_66 : decode cX11_which 66 = .ok (.aaload, 1) := by decide +kernel
theorem dX11_which_67 : decode cX11_which 67 = .ok (.iload_n 1, 1) := by decide +kernel
theorem dX11_which_68 : decode cX11_which 68 = .ok (.invokevirtual 308, 3) := by decide +kernel
theorem dX11_which_71 : decode cX11_which 71 = .ok (.ifCond .eq 10, 3) := by decide +kernel
theorem dX11_which_74 : decode cX11_which 74 = .ok (.iload_n 3, 1) := by decide +kernel
theorem dX11_which_75 : decode cX11_which 75 = .ok (.iconst 1, 1) := by decide +kernel
theorem dX11_which_76 : decode cX11_which 76 = .ok (.iload 4, 2) := by decide +kernel
theorem dX11_which_78 : decode cX11_which 78 = .ok (.ishl, 1) := by decide +kernel
theorem dX11_which_79 : decode cX11_which 79 = .ok (.ior, 1) := by decide +kernel
theorem dX11_which_80 : decode cX11_which 80 = .ok (.istore_n 3, 1) := by decide +kernel
theorem dX11_which_81 : decode cX11_which 81 = .ok (.iinc 4 1, 3) := by decide +kernel
theorem dX11_which_84 : decode cX11_which 84 = .ok (.goto (-51), 3) := by decide +kernel
theorem dX11_which_87 : decode cX11_which 87 = .ok (.aload_n 0, 1) := by decide +kernel
theorem dX11_which_88 : decode cX11_which 88 = .ok (.getfield 10, 3) := by decide +kernel
theorem dX11_which_91 : decode cX11_which 91 = .ok (.iconst 0, 1) := by decide +kernel
theorem dX11_which_92 : decode cX11_which 92 = .ok (.putfield 122, 3) := by decide +kernel
theorem dX11_which_95 : decode cX11_which 95 = .ok (.iload_n 3, 1) := by decide +kernel
theorem dX11_which_96 : decode cX11_which 96 = .ok (.ireturn, 1) := by decide +kernel
theorem hcX11_which : yX11_which.cls ≠ "java/lang/invoke/MethodHandle" ∧ yX11_which.cls ≠ "java/lang/invoke/VarHandle" ∧ (parseMethodDescriptor yX11_which.desc).map (fun d => d.parameters.length) = some 1 := ⟨by decide +kernel, by decide +kernel, by decide +kernel⟩
def fX11_which_j81 (x4_33 : Int) (k33 : sg_M → Int → Int → Prop) (s_81 : sg_M) (x3_81 : Int) : Prop := sg_R (x4_33 + 1) ∧ k33 s_81 x3_81 (x4_33 + 1)
def fX11_which_L33 (La : sg_L) (x1 : Int) (y0_19 : Int) (Q : Int → sg_M → Prop) : Nat → sg_M → Int → Int → Prop
  | 0, _, _, _ => False
  | n_33 + 1, s_33, x3_33, x4_33 => ((y0_19 = 0 → ∀ s5 : sg_M, s5 = sg_up s_33 1 1 0 → Q x3_33 s5) ∧ (¬ (y0_19 = 0) → ((4 ≤ x4_33 → ∀ s9 : sg_M, s9 = sg_up s_33 1 1 0 → Q x3_33 s9) ∧ (¬ (4 ≤ x4_33) → (0 ≤ x4_33 ∧ x4_33 < 4) ∧ (((s_33 25 x4_33) < 0 → (fX11_which_j81 x4_33 (fX11_which_L33 La x1 y0_19 Q n_33)) s_33 x3_33) ∧ (0 ≤ (s_33 25 x4_33) → (0 ≤ x4_33 ∧ x4_33 < 4) ∧ (0 ≤ (s_33 25 x4_33)) ∧ fX11_isFitting La s_33 (s_33 25 x4_33) x1 (fun u24 s26 => ((u24 = 0 → (fX11_which_j81 x4_33 (fX11_which_L33 La x1 y0_19 Q n_33)) s26 x3_33) ∧ (¬ (u24 = 0) → (fX11_which_j81 x4_33 (fX11_which_L33 La x1 y0_19 Q n_33)) s26 (sg_or x3_33 (sg_shl 1 x4_33)))))))))))
def fX11_which_j29 (La : sg_L) (s0 : sg_M) (x1 : Int) (y0_19 : Int) (Q : Int → sg_M → Prop) (y0_29 : Int) : Prop := (∃ n28 : Nat, fX11_which_L33 La x1 y0_19 Q n28 s0 y0_29 0)
def fX11_which_j19 (La : sg_L) (s0 : sg_M) (x1 : Int) (Q : Int → sg_M → Prop) (y0_19 : Int) : Prop := ((y0_19 = 0 → (fX11_which_j29 La s0 x1 y0_19 Q) (-1)) ∧ (¬ (y0_19 = 0) → (fX11_which_j29 La s0 x1 y0_19 Q) 0))
def fX11_which_j18  (k19 : Int → Prop)  : Prop := k19 0
def fX11_which (La : sg_L) (s0 : sg_M) (x1 : Int) (Q : Int → sg_M → Prop) : Prop := fX11_isSlip x1 (fun u1 => ((u1 = 0 → (fX11_which_j18  (fX11_which_j19 La s0 x1 Q))) ∧ (¬ (u1 = 0) → fX11_tellsTones s0 (fun u31 => ((u31 = 0 → (fX11_which_j18  (fX11_which_j19 La s0 x1 Q))) ∧ (¬ (u31 = 0) → (fX11_which_j19 La s0 x1 Q) 1))))))
set_option maxHeartbeats 4000000 in
set_option maxRecDepth 100000 in
theorem CX11_which {l : Launch} {G : sg_G} {La : sg_L} {s0 : sg_M} (hst : sg_St La) {x1 : Int} (r1 : sg_R x1) {Q : Int → sg_M → Prop} (hf : fX11_which La s0 x1 Q) : sg_C l G yX11_which cX11_which 5 (some .int) 7 0 0 La s0 [sg_r 0, sg_i x1] (sg_HI La Q) := by
  refine sg_body (by decide +kernel) (Nat.le_of_ble_eq_true rfl) ?_
  intro p e s m args below meth c F hnm
  unfold fX11_which at hf
  show sg_W p l e (sg_rm 7 0 0) s m args below meth c (MQ below (sg_Q (some .int) G La s.heap.size (sg_HI La Q)) args s 0 0 (sg_A La s.heap.size)) 5 G (sg_A La s.heap.size) La s0 0 0 0 [(0, sg_r 0), (1, sg_i x1)] []
  refine gw_iload_n F 1 rfl rfl dX11_which_0 ?_
  refine gk_PZ F (gc_S F (S := []) (As := [sg_i x1]) (CX11_isSlip r1 hf) kw_688 kw_90 kw_686 kw_687 hcX11_isSlip ⟨by decide, by decide⟩ rfl rfl (Nat.le_of_ble_eq_true rfl) ⟨by decide, by decide⟩ dX11_which_1) (fun u1 h2 hf => ?_)
  have J19 : ∀ (y0_19 : Int), sg_R y0_19 → (fX11_which_j19 La s0 x1 Q) y0_19 → sg_W p l e (sg_rm 7 0 0) s m args below meth c (MQ below (sg_Q (some .int) G La s.heap.size (sg_HI La Q)) args s 0 0 (sg_A La s.heap.size)) 5 G (sg_A La s.heap.size) La s0 0 0 19 [(0, sg_r 0), (1, sg_i x1)] [sg_i y0_19] := by
    intro y0_19 ry0_19 hf
    unfold fX11_which_j19 at hf
    refine gw_istore_n F rfl (by decide) rfl dX11_which_19 ?_
    refine gw_iload_n F 0 rfl rfl dX11_which_20 ?_
    have J29 : ∀ (y0_29 : Int), sg_R y0_29 → (fX11_which_j29 La s0 x1 y0_19 Q) y0_29 → sg_W p l e (sg_rm 7 0 0) s m args below meth c (MQ below (sg_Q (some .int) G La s.heap.size (sg_HI La Q)) args s 0 0 (sg_A La s.heap.size)) 5 G (sg_A La s.heap.size) La s0 0 0 29 [(0, sg_r 0), (1, sg_i x1), (2, sg_i y0_19)] [sg_i y0_29] := by
      intro y0_29 ry0_29 hf
      unfold fX11_which_j29 at hf
      refine gw_istore_n F rfl (by decide) rfl dX11_which_29 ?_
      refine gw_iconst F dX11_which_30 ?_
      refine gw_istore F (by decide) rfl dX11_which_31 ?_
      have L33 : ∀ n_33 : Nat, ∀ (s_33 : sg_M) (x3_33 : Int) (x4_33 : Int), sg_R x3_33 → sg_R x4_33 → fX11_which_L33 La x1 y0_19 Q n_33 s_33 x3_33 x4_33 → sg_W p l e (sg_rm 7 0 0) s m args below meth c (MQ below (sg_Q (some .int) G La s.heap.size (sg_HI La Q)) args s 0 0 (sg_A La s.heap.size)) 5 G (sg_A La s.heap.size) La s_33 0 0 33 [(0, sg_r 0), (1, sg_i x1), (2, sg_i y0_19), (3, sg_i x3_33), (4, sg_i x4_33)] [] := by
        intro n_33
        induction n_33 with
        | zero => intro s_33 x3_33 x4_33 r3_33 r4_33 hf; exact hf.elim
        | succ n_33 ih =>
          intro s_33 x3_33 x4_33 r3_33 r4_33 hf
          unfold fX11_which_L33 at hf
          refine gw_iload_n F 2 rfl rfl dX11_which_33 ?_
          refine gw_if_eq F (tgt := 87) dX11_which_34 (by decide) ry0_19 (fun c3 => ?_) (fun c3 => ?_)
          · have hf := hf.1 c3
            refine gw_aload_n F 0 rfl rfl (by decide) dX11_which_87 ?_
            refine gw_get7 F (so_0 hst) (by decide) rfl sg_lay_RX11 (j := 0) (by decide) (o1 := 1) (by first | rfl | omega) rfl (host := "") (.inl kw_326) dX11_which_88 (fun h4 => ?_)
            refine gw_iconst F dX11_which_91 ?_
            obtain ⟨s5, e6⟩ : ∃ z : sg_M, z = sg_up s_33 1 1 0 := ⟨_, rfl⟩
            have hf := hf s5 e6
            refine gw_put0 F (so_1 hst) (by decide) rfl sg_lay_RX8 (j := 1) (by decide) (by decide) e6 tyX8_ok nmX8 rfl (tyX8_ok 1 (by decide)) rfl (.inr kw_128) dX11_which_92 ?_
            refine gw_iload_n F 3 rfl rfl dX11_which_95 ?_
            exact gr_HI F r3_33 hf (by decide) (by decide) dX11_which_96
          · have hf := hf.2 c3
            refine gw_iload F 4 rfl dX11_which_37 ?_
            refine gw_iconst F dX11_which_39 ?_
            refine gw_icmp_ge F (tgt := 87) dX11_which_40 (by decide) r4_33 (by decide) (fun c7 => ?_) (fun c7 => ?_)
            · have hf := hf.1 c7
              refine gw_aload_n F 0 rfl rfl (by decide) dX11_which_87 ?_
              refine gw_get7 F (so_0 hst) (by decide) rfl sg_lay_RX11 (j := 0) (by decide) (o1 := 1) (by first | rfl | omega) rfl (host := "") (.inl kw_326) dX11_which_88 (fun h8 => ?_)
              refine gw_iconst F dX11_which_91 ?_
              obtain ⟨s9, e10⟩ : ∃ z : sg_M, z = sg_up s_33 1 1 0 := ⟨_, rfl⟩
              have hf := hf s9 e10
              refine gw_put0 F (so_1 hst) (by decide) rfl sg_lay_RX8 (j := 1) (by decide) (by decide) e10 tyX8_ok nmX8 rfl (tyX8_ok 1 (by decide)) rfl (.inr kw_128) dX11_which_92 ?_
              refine gw_iload_n F 3 rfl rfl dX11_which_95 ?_
              exact gr_HI F r3_33 hf (by decide) (by decide) dX11_which_96
            · have hf := hf.2 c7
              refine gw_aload_n F 0 rfl rfl (by decide) dX11_which_43 ?_
              refine gw_get7 F (so_0 hst) (by decide) rfl sg_lay_RX11 (j := 2) (by decide) (o1 := 4) (by first | rfl | omega) rfl (host := "") (.inl kw_328) dX11_which_44 (fun h11 => ?_)
              refine gw_get7 F (so_4 hst) (by decide) rfl sg_lay_RX7 (j := 4) (by decide) (o1 := 25) (by first | rfl | omega) rfl (.inr kw_242) dX11_which_47 (fun h12 => ?_)
              refine gw_iload F 4 rfl dX11_which_50 ?_
              obtain ⟨⟨b130, b131⟩, hf⟩ := hf
              refine gw_aaldB F (n := 4) (so_25 hst) (by decide) (by decide) (by decide) b130 b131 dX11_which_52 (fun h14 => ?_)
              have J81 : ∀ (s_81 : sg_M) (x3_81 : Int), sg_R x3_81 → (fX11_which_j81 x4_33 (fX11_which_L33 La x1 y0_19 Q n_33)) s_81 x3_81 → sg_W p l e (sg_rm 7 0 0) s m args below meth c (MQ below (sg_Q (some .int) G La s.heap.size (sg_HI La Q)) args s 0 0 (sg_A La s.heap.size)) 5 G (sg_A La s.heap.size) La s_81 0 0 81 [(0, sg_r 0), (1, sg_i x1), (2, sg_i y0_19), (3, sg_i x3_81), (4, sg_i x4_33)] [] := by
                intro s_81 x3_81 r3_81 hf
                unfold fX11_which_j81 at hf
                refine gw_iinc F (z := (x4_33 + 1)) 4 rfl (by omega) (by decide) rfl dX11_which_81 ?_
                refine gw_goto F (tgt := 33) dX11_which_84 (by decide) ?_
                obtain ⟨g15, hf⟩ := hf
                refine gw_sub [1, 2, 3, 4, 0] rfl ?_
                exact ih s_81 x3_81 (x4_33 + 1) r3_81 g15 hf
              refine gw_ifnull F (tgt := 81) dX11_which_53 (by decide) (fun c16 => ?_) (fun c16 => ?_)
              · have hf := hf.1 c16
                refine gw_sub [0, 1, 2, 3, 4] rfl ?_
                exact J81 s_33 x3_33 r3_33 hf
              · have hf := hf.2 c16
                have t17 := sg_nn h14 c16
                refine gw_aload_n F 0 rfl rfl (by decide) dX11_which_56 ?_
                refine gw_aload_n F 0 rfl rfl (by decide) dX11_which_57 ?_
                refine gw_get7 F (so_0 hst) (by decide) rfl sg_lay_RX11 (j := 2) (by decide) (o1 := 4) (by first | rfl | omega) rfl (host := "") (.inl kw_328) dX11_which_58 (fun h18 => ?_)
                refine gw_get7 F (so_4 hst) (by decide) rfl sg_lay_RX7 (j := 4) (by decide) (o1 := 25) (by first | rfl | omega) rfl (.inr kw_242) dX11_which_61 (fun h19 => ?_)
                refine gw_iload F 4 rfl dX11_which_64 ?_
                obtain ⟨⟨b200, b201⟩, hf⟩ := hf
                refine gw_aaldB F (n := 4) (so_25 hst) (by decide) (by decide) (by decide) b200 b201 dX11_which_66 (fun h21 => ?_)
                refine gw_iload_n F 1 rfl rfl dX11_which_67 ?_
                obtain ⟨g22, hf⟩ := hf
                have t23 := sg_nn h21 g22
                refine gk_HZ F (gc_V F (S := []) (As := [sg_r (s_33 25 x4_33), sg_i x1]) (T := TX11) (N := 19) (CX11_isFitting hst t23 r1 hf) (so_0 hst) (by decide) rfl kw_768 kw_90 kw_766 kw_767 kw_29 hcX11_isFitting ⟨by decide, by decide⟩ rfl rfl (Nat.le_of_ble_eq_true rfl) ⟨by decide, by decide⟩ dX11_which_68) (fun u24 s26 h25 hf => ?_)
                refine gw_if_eq F (tgt := 81) dX11_which_71 (by decide) (sg_B_R h25) (fun c27 => ?_) (fun c27 => ?_)
                · have hf := hf.1 c27
                  refine gw_sub [0, 1, 2, 3, 4] rfl ?_
                  exact J81 s26 x3_33 r3_33 hf
                · have hf := hf.2 c27
                  refine gw_iload_n F 3 rfl rfl dX11_which_74 ?_
                  refine gw_iconst F dX11_which_75 ?_
                  refine gw_iload F 4 rfl dX11_which_76 ?_
                  refine gw_ishl F rfl dX11_which_78 ?_
                  refine gw_ior F rfl dX11_which_79 ?_
                  refine gw_istore_n F rfl (by decide) rfl dX11_which_80 ?_
                  refine gw_sub [1, 2, 3, 0, 4] rfl ?_
                  exact J81 s26 (sg_or x3_33 (sg_shl 1 x4_33)) (sg_or_R _ _) hf
      obtain ⟨n28, hf⟩ := hf
      refine gw_sub [2, 3, 4, 1, 0] rfl ?_
      refine L33   n28 s0 y0_29 0 ry0_29 (by decide) hf
    refine gw_if_eq F (tgt := 28) dX11_which_21 (by decide) ry0_19 (fun c29 => ?_) (fun c29 => ?_)
    · have hf := hf.1 c29
      refine gw_iconst F dX11_which_28 ?_
      refine gw_sub [1, 2, 0] rfl ?_
      exact J29 (-1) (by decide) hf
    · have hf := hf.2 c29
      refine gw_iconst F dX11_which_24 ?_
      refine gw_goto F (tgt := 29) dX11_which_25 (by decide) ?_
      refine gw_sub [1, 2, 0] rfl ?_
      exact J29 0 (by decide) hf
  have J18 : (fX11_which_j18  (fX11_which_j19 La s0 x1 Q)) → sg_W p l e (sg_rm 7 0 0) s m args below meth c (MQ below (sg_Q (some .int) G La s.heap.size (sg_HI La Q)) args s 0 0 (sg_A La s.heap.size)) 5 G (sg_A La s.heap.size) La s0 0 0 18 [(0, sg_r 0), (1, sg_i x1)] [] := by
    intro hf
    unfold fX11_which_j18 at hf
    refine gw_iconst F dX11_which_18 ?_
    refine gw_sub [0, 1] rfl ?_
    exact J19 0 (by decide) hf
  refine gw_if_eq F (tgt := 18) dX11_which_4 (by decide) (sg_B_R h2) (fun c30 => ?_) (fun c30 => ?_)
  · have hf := hf.1 c30
    refine gw_sub [0, 1] rfl ?_
    exact J18  hf
  · have hf := hf.2 c30
    refine gw_aload_n F 0 rfl rfl (by decide) dX11_which_7 ?_
    refine gk_PZ F (gc_V F (S := []) (As := []) (T := TX11) (N := 19) (CX11_tellsTones hst hf) (so_0 hst) (by decide) rfl kw_763 kw_90 kw_761 kw_762 kw_28 hcX11_tellsTones ⟨by decide, by decide⟩ rfl rfl (Nat.le_of_ble_eq_true rfl) ⟨by decide, by decide⟩ dX11_which_8) (fun u31 h32 hf => ?_)
    refine gw_if_eq F (tgt := 18) dX11_which_11 (by decide) (sg_B_R h32) (fun c33 => ?_) (fun c33 => ?_)
    · have hf := hf.1 c33
      refine gw_sub [0, 1] rfl ?_
      exact J18  hf
    · have hf := hf.2 c33
      refine gw_iconst F dX11_which_14 ?_
      refine gw_goto F (tgt := 19) dX11_which_15 (by decide) ?_
      refine gw_sub [0, 1] rfl ?_
      exact J19 1 (by decide) hf

theorem dX11_where_0 : decode cX11_where 0 = .ok (.iload_n 1, 1) := by decide +kernel
theorem dX11_where_1 : decode cX11_where 1 = .ok (.iload_n 2, 1) := by decide +kernel
theorem dX11_where_2 : decode cX11_where 2 = .ok (.invokestatic 158, 3) := by decide +kernel
theorem dX11_where_5 : decode cX11_where 5 = .ok (.ifCond .ne 5, 3) := by decide +kernel
theorem dX11_where_8 : decode cX11_where 8 = .ok (.iconst (-1), 1) := by decide +kernel
theorem dX11_where_9 : decode cX11_where 9 = .ok (.ireturn, 1) := by decide +kernel
theorem dX11_where_10 : decode cX11_where 10 = .ok (.aload_n 0, 1) := by decide +kernel
theorem dX11_where_11 : decode cX11_where 11 = .ok (.getfield 54, 3) := by decide +kernel
theorem dX11_where_14 : decode cX11_where 14 = .ok (.aload_n 0, 1) := by decide +kernel
theorem dX11_where_15 : decode cX11_where 15 = .ok (.getfield 39, 3) := by decide +kernel
theorem dX11_where_18 : decode cX11_where 18 = .ok (.getfield 112, 3) := by decide +kernel
theorem dX11_where_21 : decode cX11_where 21 = .ok (.iload_n 1, 1) := by decide +kernel
theorem dX11_where_22 : decode cX11_where 22 = .ok (.iload_n 2, 1) := by decide +kernel
theorem dX11_where_23 : decode cX11_where 23 = .ok (.invokevirtual 171, 3) := by decide +kernel
theorem dX11_where_26 : decode cX11_where 26 = .ok (.aload_n 0, 1) := by decide +kernel
theorem dX11_where_27 : decode cX11_where 27 = .ok (.getfield 54, 3) := by decide +kernel
theorem dX11_where_30 : decode cX11_where 30 = .ok (.iload_n 3, 1) := by decide +kernel
theorem dX11_where_31 : decode cX11_where 31 = .ok (.iload 4, 2) := by decide +kernel
theorem dX11_where_33 : decode cX11_where 33 = .ok (.aload_n 0, 1) := by decide +kernel
theorem dX11_where_34 : decode cX11_where 34 = .ok (.getfield 65, 3) := by decide +kernel
theorem dX11_where_37 : decode cX11_where 37 = .ok (.invokevirtual 185, 3) := by decide +kernel
theorem dX11_where_40 : decode cX11_where 40 = .ok (.ifCond .eq 20, 3) := by decide +kernel
theorem dX11_where_43 : decode cX11_where 43 = .ok (.aload_n 0, 1) := by decide +kernel
theorem dX11_where_44 : decode cX11_where 44 = .ok (.getfield 54, 3) := by decide +kernel
theorem dX11_where_47 : decode cX11_where 47 = .ok (.iload_n 3, 1) := by decide +kernel
theorem dX11_where_48 : decode cX11_where 48 = .ok (.iload 5, 2) := by decide +kernel
theorem dX11_where_50 : decode cX11_where 50 = .ok (.aload_n 0, 1) := by decide +kernel
theorem dX11_where_51 : decode cX11_where 51 = .ok (.getfield 68, 3) := by decide +kernel
theorem dX11_where_54 : decode cX11_where 54 = .ok (.invokevirtual 185, 3) := by decide +kernel
theorem dX11_where_57 : decode cX11_where 57 = .ok (.ifCond .ne 5, 3) := by decide +kernel
theorem dX11_where_60 : decode cX11_where 60 = .ok (.iconst (-1), 1) := by decide +kernel
theorem dX11_where_61 : decode cX11_where 61 = .ok (.ireturn, 1) := by decide +kernel
theorem dX11_where_62 : decode cX11_where 62 = .ok (.iconst 0, 1) := by decide +kernel
theorem dX11_where_63 : decode cX11_where 63 = .ok (.istore 6, 2) := by decide +kernel
theorem dX11_where_65 : decode cX11_where 65 = .ok (.aload_n 0, 1) := by decide +kernel
theorem dX11_where_66 : decode cX11_where 66 = .ok (.getfield 65, 3) := by decide +kernel
theorem dX11_where_69 : decode cX11_where 69 = .ok (.getfield 208, 3) := by decide +kernel
theorem dX11_where_72 : decode cX11_where 72 = .ok (.iconst 0, 1) := by decide +kernel
theorem dX11_where_73 : decode cX11_where 73 = .ok (.invokevirtual 182, 3) := by decide +kernel
theorem dX11_where_76 : decode cX11_where 76 = .ok (.aload_n 0, 1) := by decide +kernel
theorem dX11_where_77 : decode cX11_where 77 = .ok (.getfield 68, 3) := by decide +kernel
theorem dX11_where_80 : decode cX11_where 80 = .ok (.getfield 208, 3) := by decide +kernel
theorem dX11_where_83 : decode cX11_where 83 = .ok (.iconst 0, 1) := by decide +kernel
theorem dX11_where_84 : decode cX11_where 84 = .ok (.invokevirtual 182, 3) := by decide +kernel
theorem dX11_where_87 : decode cX11_where 87 = .ok (.isub, 1) := by decide +kernel
theorem dX11_where_88 : decode cX11_where 88 = .ok (.istore 7, 2) := by decide +kernel
theorem dX11_where_90 : decode cX11_where 90 = .ok (.iconst 1, 1) := by decide +kernel
theorem dX11_where_91 : decode cX11_where 91 = .ok (.istore 8, 2) := by decide +kernel
theorem dX11_where_93 : decode cX11_where 93 = .ok (.iload 8, 2) := by decide +kernel
theorem dX11_where_95 : decode cX11_where 95 = .ok (.aload_n 0, 1) := by decide +kernel
theorem dX11_where_96 : decode cX11_where 96 = .ok (.getfield 65, 3) := by decide +kernel
theorem dX11_where_99 : decode cX11_where 99 = .ok (.getfield 208, 3) := by decide +kernel
theorem dX11_where_102 : decode cX11_where 102 = .ok (.getfield 181, 3) := by decide +kernel
theorem dX11_where_105 : decode cX11_where 105 = .ok (.if_icmp .ge 51, 3) := by decide +kernel
theorem dX11_where_108 : decode cX11_where 108 = .ok (.aload_n 0, 1) := by decide +kernel
theorem dX11_where_109 : decode cX11_where 109 = .ok (.getfield 65, 3) := by decide +kernel
theorem dX11_where_112 : decode cX11_where 112 = .ok (.getfield 208, 3) := by decide +kernel
theorem dX11_where_115 : decode cX11_where 115 = .ok (.iload 8, 2) := by decide +kernel
theorem dX11_where_117 : decode cX11_where 117 = .ok (.invokevirtual 182, 3) := by decide +kernel
theorem dX11_where_120 : decode cX11_where 120 = .ok (.aload_n 0, 1) := by decide +kernel
theorem dX11_where_121 : decode cX11_where 121 = .ok (.getfield 68, 3) := by decide +kernel
theorem dX11_where_124 : decode cX11_where 124 = .ok (.getfield 208, 3) := by decide +kernel
theorem dX11_where_127 : decode cX11_where 127 = .ok (.iload 8, 2) := by decide +kernel
theorem dX11_where_129 : decode cX11_where 129 = .ok (.invokevirtual 182, 3) := by decide +kernel
theorem dX11_where_132 : decode cX11_where 132 = .ok (.isub, 1) := by decide +kernel
theorem dX11_where_133 : decode cX11_where 133 = .ok (.istore 9, 2) := by decide +kernel
theorem dX11_where_135 : decode cX11_where 135 = .ok (.iload 9, 2) := by decide +kernel
theorem dX11_where_137 : decode cX11_where 137 = .ok (.iload 7, 2) := by decide +kernel
theorem dX11_where_139 : decode cX11_where 139 = .ok (.if_icmp .le 11, 3) := by decide +kernel
theorem dX11_where_142 : decode cX11_where 142 = .ok (.iload 8, 2) := by decide +kernel
theorem dX11_where_144 : decode cX11_where 144 = .ok (.istore 6, 2) := by decide +kernel
theorem dX11_where_146 : decode cX11_where 146 = .ok (.iload 9, 2) := by decide +kernel
theorem dX11_where_148 : decode cX11_where 148 = .ok (.istore 7, 2) := by decide +kernel
theorem dX11_where_150 : decode cX11_where 150 = .ok (.iinc 8 1, 3) := by decide +kernel
theorem dX11_where_153 : decode cX11_where 153 = .ok (.goto (-60), 3) := by decide +kernel
theorem dX11_where_156 : decode cX11_where 156 = .ok (.aload_n 0, 1) := by decide +kernel
theorem dX11_where_157 : decode cX11_where 157 = .ok (.iload 7, 2) := by decide +kernel
theorem dX11_where_159 : decode cX11_where 159 = .ok (.putfield 106, 3) := by decide +kernel
theorem dX11_where_162 : decode cX11_where 162 = .ok (.iload 6, 2) := by decide +kernel
theorem dX11_where_164 : decode cX11_where 164 = .ok (.ireturn, 1) := by decide +kernel
theorem hcX11_where : yX11_where.cls ≠ "java/lang/invoke/MethodHandle" ∧ yX11_where.cls ≠ "java/lang/invoke/VarHandle" ∧ (parseMethodDescriptor yX11_where.desc).map (fun d => d.parameters.length) = some 5 := ⟨by decide +kernel, by decide +kernel, by decide +kernel⟩
def fX11_where_j150 (x8_93 : Int) (k93 : Int → Int → Int → Prop) (x6_150 : Int) (x7_150 : Int) : Prop := sg_R (x8_93 + 1) ∧ k93 x6_150 x7_150 (x8_93 + 1)
def fX11_where_L93 (La : sg_L) (s20 : sg_M) (Q : Int → sg_M → Prop) : Nat → Int → Int → Int → Prop
  | 0, _, _, _ => False
  | n_93 + 1, x6_93, x7_93, x8_93 => (((s20 41 1) ≤ x8_93 → ∀ s34 : sg_M, s34 = sg_up s20 0 17 x7_93 → Q x6_93 s34) ∧ (¬ ((s20 41 1) ≤ x8_93) → fX4_at La s20 41 x8_93 (fun u38 => fX4_at La s20 44 x8_93 (fun u42 => sg_R (u38 - u42) ∧ (((u38 - u42) ≤ x7_93 → (fX11_where_j150 x8_93 (fX11_where_L93 La s20 Q n_93)) x6_93 x7_93) ∧ (¬ ((u38 - u42) ≤ x7_93) → (fX11_where_j150 x8_93 (fX11_where_L93 La s20 Q n_93)) x8_93 (u38 - u42)))))))
def fX11_where (La : sg_L) (s0 : sg_M) (x1 : Int) (x2 : Int) (x3 : Int) (x4 : Int) (x5 : Int) (Q : Int → sg_M → Prop) : Prop := fX11_isBend x1 x2 (fun u1 => ((u1 ≠ 0 → (0 ≤ (s0 4 0)) ∧ fX0_bendTo La s0 (s0 4 0) x1 x2 (fun s9 => fX0_sound La s9 x3 x4 40 (fun u12 s14 => ((u12 = 0 → Q (-1) s14) ∧ (¬ (u12 = 0) → fX0_sound La s14 x3 x5 43 (fun u18 s20 => ((u18 ≠ 0 → fX4_at La s20 41 0 (fun u24 => fX4_at La s20 44 0 (fun u28 => sg_R (u24 - u28) ∧ (∃ n48 : Nat, fX11_where_L93 La s20 Q n48 0 (u24 - u28) 1)))) ∧ (u18 = 0 → Q (-1) s20)))))))) ∧ (u1 = 0 → Q (-1) s0)))
set_option maxHeartbeats 4000000 in
set_option maxRecDepth 100000 in
theorem CX11_where {l : Launch} {G : sg_G} {La : sg_L} {s0 : sg_M} (hst : sg_St La) {x1 : Int} (r1 : sg_R x1) {x2 : Int} (r2 : sg_R x2) {x3 : Int} (r3 : sg_R x3) {x4 : Int} (r4 : sg_R x4) {x5 : Int} (r5 : sg_R x5) {Q : Int → sg_M → Prop} (hf : fX11_where La s0 x1 x2 x3 x4 x5 Q) : sg_C l G yX11_where cX11_where 10 (some .int) 5 0 0 La s0 [sg_r 0, sg_i x1, sg_i x2, sg_i x3, sg_i x4, sg_i x5] (sg_HI La Q) := by
  refine sg_body (by decide +kernel) (Nat.le_of_ble_eq_true rfl) ?_
  intro p e s m args below meth c F hnm
  unfold fX11_where at hf
  show sg_W p l e (sg_rm 5 0 0) s m args below meth c (MQ below (sg_Q (some .int) G La s.heap.size (sg_HI La Q)) args s 0 0 (sg_A La s.heap.size)) 10 G (sg_A La s.heap.size) La s0 0 0 0 [(0, sg_r 0), (1, sg_i x1), (2, sg_i x2), (3, sg_i x3), (4, sg_i x4), (5, sg_i x5)] []
  refine gw_iload_n F 1 rfl rfl dX11_where_0 ?_
  refine gw_iload_n F 2 rfl rfl dX11_where_1 ?_
  refine gk_PZ F (gc_S F (S := []) (As := [sg_i x1, sg_i x2]) (CX11_isBend r1 r2 hf) kw_502 kw_90 kw_500 kw_501 hcX11_isBend ⟨by decide, by decide⟩ rfl rfl (Nat.le_of_ble_eq_true rfl) ⟨by decide, by decide⟩ dX11_where_2) (fun u1 h2 hf => ?_)
  refine gw_if_ne F (tgt := 10) dX11_where_5 (by decide) (sg_B_R h2) (fun c3 => ?_) (fun c3 => ?_)
  · have hf := hf.1 c3
    refine gw_aload_n F 0 rfl rfl (by decide) dX11_where_10 ?_
    refine gw_get7 F (so_0 hst) (by decide) rfl sg_lay_RX11 (j := 5) (by decide) (o1 := 32) (by first | rfl | omega) rfl (host := "") (.inl kw_331) dX11_where_11 (fun h4 => ?_)
    refine gw_aload_n F 0 rfl rfl (by decide) dX11_where_14 ?_
    refine gw_get7 F (so_0 hst) (by decide) rfl sg_lay_RX11 (j := 2) (by decide) (o1 := 4) (by first | rfl | omega) rfl (host := "") (.inl kw_328) dX11_where_15 (fun h5 => ?_)
    refine gw_get4 F (so_4 hst) (by decide) rfl sg_lay_RX7 (j := 0) (by decide) rfl (.inr kw_234) dX11_where_18 (fun h6 => ?_)
    refine gw_iload_n F 1 rfl rfl dX11_where_21 ?_
    refine gw_iload_n F 2 rfl rfl dX11_where_22 ?_
    obtain ⟨g7, hf⟩ := hf
    have t8 := sg_nn h6 g7
    refine gk_HV F (gc_V F (S := []) (As := [sg_r (s0 4 0), sg_i x1, sg_i x2]) (T := TX0) (N := 11) (CX0_bendTo hst t8 r1 r2 hf) (so_32 hst) (by decide) rfl kw_506 kw_100 kw_503 kw_504 kw_505 hcX0_bendTo ⟨by decide, by decide⟩ rfl rfl (Nat.le_of_ble_eq_true rfl) ⟨by decide, by decide⟩ dX11_where_23) (fun s9 hf => ?_)
    refine gw_aload_n F 0 rfl rfl (by decide) dX11_where_26 ?_
    refine gw_get7 F (so_0 hst) (by decide) rfl sg_lay_RX11 (j := 5) (by decide) (o1 := 32) (by first | rfl | omega) rfl (host := "") (.inl kw_331) dX11_where_27 (fun h10 => ?_)
    refine gw_iload_n F 3 rfl rfl dX11_where_30 ?_
    refine gw_iload F 4 rfl dX11_where_31 ?_
    refine gw_aload_n F 0 rfl rfl (by decide) dX11_where_33 ?_
    refine gw_get7 F (so_0 hst) (by decide) rfl sg_lay_RX11 (j := 7) (by decide) (o1 := 40) (by first | rfl | omega) rfl (host := "") (.inl kw_333) dX11_where_34 (fun h11 => ?_)
    refine gk_HZ F (gc_V F (S := []) (As := [sg_i x3, sg_i x4, sg_r 40]) (T := TX0) (N := 11) (CX0_sound hst r3 r4 (so_40 hst) hf) (so_32 hst) (by decide) rfl kw_554 kw_100 kw_551 kw_552 kw_553 hcX0_sound ⟨by decide, by decide⟩ rfl rfl (Nat.le_of_ble_eq_true rfl) ⟨by decide, by decide⟩ dX11_where_37) (fun u12 s14 h13 hf => ?_)
    refine gw_if_eq F (tgt := 60) dX11_where_40 (by decide) (sg_B_R h13) (fun c15 => ?_) (fun c15 => ?_)
    · have hf := hf.1 c15
      refine gw_iconst F dX11_where_60 ?_
      exact gr_HI F (by decide) hf (by decide) (by decide) dX11_where_61
    · have hf := hf.2 c15
      refine gw_aload_n F 0 rfl rfl (by decide) dX11_where_43 ?_
      refine gw_get7 F (so_0 hst) (by decide) rfl sg_lay_RX11 (j := 5) (by decide) (o1 := 32) (by first | rfl | omega) rfl (host := "") (.inl kw_331) dX11_where_44 (fun h16 => ?_)
      refine gw_iload_n F 3 rfl rfl dX11_where_47 ?_
      refine gw_iload F 5 rfl dX11_where_48 ?_
      refine gw_aload_n F 0 rfl rfl (by decide) dX11_where_50 ?_
      refine gw_get7 F (so_0 hst) (by decide) rfl sg_lay_RX11 (j := 8) (by decide) (o1 := 43) (by first | rfl | omega) rfl (host := "") (.inl kw_334) dX11_where_51 (fun h17 => ?_)
      refine gk_HZ F (gc_V F (S := []) (As := [sg_i x3, sg_i x5, sg_r 43]) (T := TX0) (N := 11) (CX0_sound hst r3 r5 (so_43 hst) hf) (so_32 hst) (by decide) rfl kw_554 kw_100 kw_551 kw_552 kw_553 hcX0_sound ⟨by decide, by decide⟩ rfl rfl (Nat.le_of_ble_eq_true rfl) ⟨by decide, by decide⟩ dX11_where_54) (fun u18 s20 h19 hf => ?_)
      refine gw_if_ne F (tgt := 62) dX11_where_57 (by decide) (sg_B_R h19) (fun c21 => ?_) (fun c21 => ?_)
      · have hf := hf.1 c21
        refine gw_iconst F dX11_where_62 ?_
        refine gw_istore F (by decide) rfl dX11_where_63 ?_
        refine gw_aload_n F 1 rfl rfl (by decide) dX11_where_65 ?_
        refine gw_get7 F (so_0 hst) (by decide) rfl sg_lay_RX11 (j := 7) (by decide) (o1 := 40) (by first | rfl | omega) rfl (host := "") (.inl kw_333) dX11_where_66 (fun h22 => ?_)
        refine gw_get3 F (so_40 hst) (by decide) rfl sg_lay_RX10 (j := 0) (by decide) (o1 := 41) (by first | rfl | omega) rfl (.inr kw_284) dX11_where_69 (fun h23 => ?_)
        refine gw_iconst F dX11_where_72 ?_
        refine gk_PI F (gc_V F (S := []) (As := [sg_i 0]) (T := TX4) (N := 3) (CX4_at (so_41 hst) (by decide) hf) (so_41 hst) (by decide) rfl kw_546 kw_97 kw_543 kw_544 kw_545 hcX4_at ⟨by decide, by decide⟩ rfl rfl (Nat.le_of_ble_eq_true rfl) ⟨by decide, by decide⟩ dX11_where_73) (fun u24 h25 hf => ?_)
        refine gw_aload_n F 1 rfl rfl (by decide) dX11_where_76 ?_
        refine gw_get7 F (so_0 hst) (by decide) rfl sg_lay_RX11 (j := 8) (by decide) (o1 := 43) (by first | rfl | omega) rfl (host := "") (.inl kw_334) dX11_where_77 (fun h26 => ?_)
        refine gw_get3 F (so_43 hst) (by decide) rfl sg_lay_RX10 (j := 0) (by decide) (o1 := 44) (by first | rfl | omega) rfl (.inr kw_284) dX11_where_80 (fun h27 => ?_)
        refine gw_iconst F dX11_where_83 ?_
        refine gk_PI F (gc_V F (S := [sg_i u24]) (As := [sg_i 0]) (T := TX4) (N := 3) (CX4_at (so_44 hst) (by decide) hf) (so_44 hst) (by decide) rfl kw_546 kw_97 kw_543 kw_544 kw_545 hcX4_at ⟨by decide, by decide⟩ rfl rfl (Nat.le_of_ble_eq_true rfl) ⟨by decide, by decide⟩ dX11_where_84) (fun u28 h29 hf => ?_)
        refine gw_isub F rfl dX11_where_87 ?_
        refine gw_istore F (by decide) rfl dX11_where_88 ?_
        refine gw_iconst F dX11_where_90 ?_
        refine gw_istore F (by decide) rfl dX11_where_91 ?_
        have L93 : ∀ n_93 : Nat, ∀ (x6_93 : Int) (x7_93 : Int) (x8_93 : Int), sg_R x6_93 → sg_R x7_93 → sg_R x8_93 → fX11_where_L93 La s20 Q n_93 x6_93 x7_93 x8_93 → sg_W p l e (sg_rm 5 0 0) s m args below meth c (MQ below (sg_Q (some .int) G La s.heap.size (sg_HI La Q)) args s 0 0 (sg_A La s.heap.size)) 10 G (sg_A La s.heap.size) La s20 0 0 93 [(0, sg_r 0), (6, sg_i x6_93), (7, sg_i x7_93), (8, sg_i x8_93)] [] := by
          intro n_93
          induction n_93 with
          | zero => intro x6_93 x7_93 x8_93 r6_93 r7_93 r8_93 hf; exact hf.elim
          | succ n_93 ih =>
            intro x6_93 x7_93 x8_93 r6_93 r7_93 r8_93 hf
            unfold fX11_where_L93 at hf
            refine gw_iload F 3 rfl dX11_where_93 ?_
            refine gw_aload_n F 0 rfl rfl (by decide) dX11_where_95 ?_
            refine gw_get7 F (so_0 hst) (by decide) rfl sg_lay_RX11 (j := 7) (by decide) (o1 := 40) (by first | rfl | omega) rfl (host := "") (.inl kw_333) dX11_where_96 (fun h30 => ?_)
            refine gw_get3 F (so_40 hst) (by decide) rfl sg_lay_RX10 (j := 0) (by decide) (o1 := 41) (by first | rfl | omega) rfl (.inr kw_284) dX11_where_99 (fun h31 => ?_)
            refine gw_get0 F (so_41 hst) (by decide) rfl sg_lay_RX4 (j := 1) (by decide) rfl (.inr kw_204) dX11_where_102 (fun h32 => ?_)
            refine gw_icmp_ge F (tgt := 156) dX11_where_105 (by decide) r8_93 h32 (fun c33 => ?_) (fun c33 => ?_)
            · have hf := hf.1 c33
              refine gw_aload_n F 0 rfl rfl (by decide) dX11_where_156 ?_
              refine gw_iload F 2 rfl dX11_where_157 ?_
              obtain ⟨s34, e35⟩ : ∃ z : sg_M, z = sg_up s20 0 17 x7_93 := ⟨_, rfl⟩
              have hf := hf s34 e35
              refine gw_put0 F (so_0 hst) (by decide) rfl sg_lay_RX11 (j := 17) (by decide) r7_93 e35 tyX11_ok nmX11 rfl (tyX11_ok 17 (by decide)) rfl (host := "") (.inl kw_343) dX11_where_159 ?_
              refine gw_iload F 1 rfl dX11_where_162 ?_
              exact gr_HI F r6_93 hf (by decide) (by decide) dX11_where_164
            · have hf := hf.2 c33
              refine gw_aload_n F 0 rfl rfl (by decide) dX11_where_108 ?_
              refine gw_get7 F (so_0 hst) (by decide) rfl sg_lay_RX11 (j := 7) (by decide) (o1 := 40) (by first | rfl | omega) rfl (host := "") (.inl kw_333) dX11_where_109 (fun h36 => ?_)
              refine gw_get3 F (so_40 hst) (by decide) rfl sg_lay_RX10 (j := 0) (by decide) (o1 := 41) (by first | rfl | omega) rfl (.inr kw_284) dX11_where_112 (fun h37 => ?_)
              refine gw_iload F 3 rfl dX11_where_115 ?_
              refine gk_PI F (gc_V F (S := []) (As := [sg_i x8_93]) (T := TX4) (N := 3) (CX4_at (so_41 hst) r8_93 hf) (so_41 hst) (by decide) rfl kw_546 kw_97 kw_543 kw_544 kw_545 hcX4_at ⟨by decide, by decide⟩ rfl rfl (Nat.le_of_ble_eq_true rfl) ⟨by decide, by decide⟩ dX11_where_117) (fun u38 h39 hf => ?_)
              refine gw_aload_n F 0 rfl rfl (by decide) dX11_where_120 ?_
              refine gw_get7 F (so_0 hst) (by decide) rfl sg_lay_RX11 (j := 8) (by decide) (o1 := 43) (by first | rfl | omega) rfl (host := "") (.inl kw_334) dX11_where_121 (fun h40 => ?_)
              refine gw_get3 F (so_43 hst) (by decide) rfl sg_lay_RX10 (j := 0) (by decide) (o1 := 44) (by first | rfl | omega) rfl (.inr kw_284) dX11_where_124 (fun h41 => ?_)
              refine gw_iload F 3 rfl dX11_where_127 ?_
              refine gk_PI F (gc_V F (S := [sg_i u38]) (As := [sg_i x8_93]) (T := TX4) (N := 3) (CX4_at (so_44 hst) r8_93 hf) (so_44 hst) (by decide) rfl kw_546 kw_97 kw_543 kw_544 kw_545 hcX4_at ⟨by decide, by decide⟩ rfl rfl (Nat.le_of_ble_eq_true rfl) ⟨by decide, by decide⟩ dX11_where_129) (fun u42 h43 hf => ?_)
              refine gw_isub F rfl dX11_where_132 ?_
              refine gw_istore F (by decide) rfl dX11_where_133 ?_
              refine gw_iload F 0 rfl dX11_where_135 ?_
              refine gw_iload F 3 rfl dX11_where_137 ?_
              have J150 : ∀ (x6_150 : Int) (x7_150 : Int), sg_R x6_150 → sg_R x7_150 → (fX11_where_j150 x8_93 (fX11_where_L93 La s20 Q n_93)) x6_150 x7_150 → sg_W p l e (sg_rm 5 0 0) s m args below meth c (MQ below (sg_Q (some .int) G La s.heap.size (sg_HI La Q)) args s 0 0 (sg_A La s.heap.size)) 10 G (sg_A La s.heap.size) La s20 0 0 150 [(0, sg_r 0), (6, sg_i x6_150), (7, sg_i x7_150), (8, sg_i x8_93)] [] := by
                intro x6_150 x7_150 r6_150 r7_150 hf
                unfold fX11_where_j150 at hf
                refine gw_iinc F (z := (x8_93 + 1)) 3 rfl (by omega) (by decide) rfl dX11_where_150 ?_
                refine gw_goto F (tgt := 93) dX11_where_153 (by decide) ?_
                obtain ⟨g44, hf⟩ := hf
                refine gw_sub [1, 2, 3, 0] rfl ?_
                exact ih x6_150 x7_150 (x8_93 + 1) r6_150 r7_150 g44 hf
              obtain ⟨g45, hf⟩ := hf
              refine gw_icmp_le F (tgt := 150) dX11_where_139 (by decide) g45 r7_93 (fun c46 => ?_) (fun c46 => ?_)
              · have hf := hf.1 c46
                refine gw_sub [1, 2, 3, 4] rfl ?_
                exact J150 x6_93 x7_93 r6_93 r7_93 hf
              · have hf := hf.2 c46
                refine gw_iload F 4 rfl dX11_where_142 ?_
                refine gw_istore F (by decide) rfl dX11_where_144 ?_
                refine gw_iload F 1 rfl dX11_where_146 ?_
                refine gw_istore F (by decide) rfl dX11_where_148 ?_
                refine gw_sub [3, 1, 0, 4] rfl ?_
                exact J150 x8_93 (u38 - u42) r8_93 g45 hf
        obtain ⟨g47, hf⟩ := hf
        obtain ⟨n48, hf⟩ := hf
        refine gw_sub [3, 2, 1, 0] rfl ?_
        refine L93   n48 0 (u24 - u28) 1 (by decide) g47 (by decide) hf
      · have hf := hf.2 c21
        refine gw_iconst F dX11_where_60 ?_
        exact gr_HI F (by decide) hf (by decide) (by decide) dX11_where_61
  · have hf := hf.2 c3
    refine gw_iconst F dX11_where_8 ?_
    exact gr_HI F (by decide) hf (by decide) (by decide) dX11_where_9

theorem dX11_even_0 : decode cX11_even 0 = .ok (.iload_n 3, 1) := by decide +kernel
theorem dX11_even_1 : decode cX11_even 1 = .ok (.iconst 1, 1) := by decide +kernel
theorem dX11_even_2 : decode cX11_even 2 = .ok (.if_icmp .lt 9, 3) := by decide +kernel
theorem dX11_even_5 : decode cX11_even 5 = .ok (.iload_n 3, 1) := by decide +kernel
theorem dX11_even_6 : decode cX11_even 6 = .ok (.bipush 20, 2) := by decide +kernel
theorem dX11_even_8 : decode cX11_even 8 = .ok (.if_icmp .le 5, 3) := by decide +kernel
theorem dX11_even_11 : decode cX11_even 11 = .ok (.iconst (-1), 1) := by decide +kernel
theorem dX11_even_12 : decode cX11_even 12 = .ok (.ireturn, 1) := by decide +kernel
theorem dX11_even_13 : decode cX11_even 13 = .ok (.aload_n 0, 1) := by decide +kernel
theorem dX11_even_14 : decode cX11_even 14 = .ok (.invokevirtual 251, 3) := by decide +kernel
theorem dX11_even_17 : decode cX11_even 17 = .ok (.aload_n 0, 1) := by decide +kernel
theorem dX11_even_18 : decode cX11_even 18 = .ok (.getfield 93, 3) := by decide +kernel
theorem dX11_even_21 : decode cX11_even 21 = .ok (.iload_n 1, 1) := by decide +kernel
theorem dX11_even_22 : decode cX11_even 22 = .ok (.invokevirtual 182, 3) := by decide +kernel
theorem dX11_even_25 : decode cX11_even 25 = .ok (.istore 4, 2) := by decide +kernel
theorem dX11_even_27 : decode cX11_even 27 = .ok (.aload_n 0, 1) := by decide +kernel
theorem dX11_even_28 : decode cX11_even 28 = .ok (.getfield 93, 3) := by decide +kernel
theorem dX11_even_31 : decode cX11_even 31 = .ok (.iload_n 2, 1) := by decide +kernel
theorem dX11_even_32 : decode cX11_even 32 = .ok (.invokevirtual 182, 3) := by decide +kernel
theorem dX11_even_35 : decode cX11_even 35 = .ok (.istore 5, 2) := by decide +kernel
theorem dX11_even_37 : decode cX11_even 37 = .ok (.iload 4, 2) := by decide +kernel
theorem dX11_even_39 : decode cX11_even 39 = .ok (.iconst 1, 1) := by decide +kernel
theorem dX11_even_40 : decode cX11_even 40 = .ok (.if_icmp .lt 9, 3) := by decide +kernel
theorem dX11_even_43 : decode cX11_even 43 = .ok (.iload 5, 2) := by decide +kernel
theorem dX11_even_45 : decode cX11_even 45 = .ok (.iconst 1, 1) := by decide +kernel
theorem dX11_even_46 : decode cX11_even 46 = .ok (.if_icmp .ge 5, 3) := by decide +kernel
theorem dX11_even_49 : decode cX11_even 49 = .ok (.iconst (-1), 1) := by decide +kernel
theorem dX11_even_50 : decode cX11_even 50 = .ok (.ireturn, 1) := by decide +kernel
theorem dX11_even_51 : decode cX11_even 51 = .ok (.aload_n 0, 1) := by decide +kernel
theorem dX11_even_52 : decode cX11_even 52 = .ok (.iload_n 1, 1) := by decide +kernel
theorem dX11_even_53 : decode cX11_even 53 = .ok (.iload_n 2, 1) := by decide +kernel
theorem dX11_even_54 : decode cX11_even 54 = .ok (.invokevirtual 280, 3) := by decide +kernel
theorem dX11_even_57 : decode cX11_even 57 = .ok (.aload_n 0, 1) := by decide +kernel
theorem dX11_even_58 : decode cX11_even 58 = .ok (.getfield 87, 3) := by decide +kernel
theorem dX11_even_61 : decode cX11_even 61 = .ok (.invokevirtual 271, 3) := by decide +kernel
theorem dX11_even_64 : decode cX11_even 64 = .ok (.iconst 0, 1) := by decide +kernel
theorem dX11_even_65 : decode cX11_even 65 = .ok (.istore 6, 2) := by decide +kernel
theorem dX11_even_67 : decode cX11_even 67 = .ok (.iconst 0, 1) := by decide +kernel
theorem dX11_even_68 : decode cX11_even 68 = .ok (.istore 7, 2) := by decide +kernel
theorem dX11_even_70 : decode cX11_even 70 = .ok (.iload 7, 2) := by decide +kernel
theorem dX11_even_72 : decode cX11_even 72 = .ok (.iload_n 3, 1) := by decide +kernel
theorem dX11_even_73 : decode cX11_even 73 = .ok (.if_icmp .gt 69, 3) := by decide +kernel
theorem dX11_even_76 : decode cX11_even 76 = .ok (.aload_n 0, 1) := by decide +kernel
theorem dX11_even_77 : decode cX11_even 77 = .ok (.getfield 87, 3) := by decide +kernel
theorem dX11_even_80 : decode cX11_even 80 = .ok (.aload_n 0, 1) := by decide +kernel
theorem dX11_even_81 : decode cX11_even 81 = .ok (.iload 4, 2) := by decide +kernel
theorem dX11_even_83 : decode cX11_even 83 = .ok (.iload 5, 2) := by decide +kernel
theorem dX11_even_85 : decode cX11_even 85 = .ok (.iload 4, 2) := by decide +kernel
theorem dX11_even_87 : decode cX11_even 87 = .ok (.isub, 1) := by decide +kernel
theorem dX11_even_88 : decode cX11_even 88 = .ok (.iload 7, 2) := by decide +kernel
theorem dX11_even_90 : decode cX11_even 90 = .ok (.imul, 1) := by decide +kernel
theorem dX11_even_91 : decode cX11_even 91 = .ok (.iload_n 3, 1) := by decide +kernel
theorem dX11_even_92 : decode cX11_even 92 = .ok (.idiv, 1) := by decide +kernel
theorem dX11_even_93 : decode cX11_even 93 = .ok (.iadd, 1) := by decide +kernel
theorem dX11_even_94 : decode cX11_even 94 = .ok (.invokevirtual 283, 3) := by decide +kernel
theorem dX11_even_97 : decode cX11_even 97 = .ok (.invokevirtual 278, 3) := by decide +kernel
theorem dX11_even_100 : decode cX11_even 100 = .ok (.iload 7, 2) := by decide +kernel
theorem dX11_even_102 : decode cX11_even 102 = .ok (.ifCond .le 34, 3) := by decide +kernel
theorem dX11_even_105 : decode cX11_even 105 = .ok (.iload 6, 2) := by decide +kernel
theorem dX11_even_107 : decode cX11_even 107 = .ok (.aload_n 0, 1) := by decide +kernel
theorem dX11_even_108 : decode cX11_even 108 = .ok (.getfield 87, 3) := by decide +kernel
theorem dX11_even_111 : decode cX11_even 111 = .ok (.iload 7, 2) := by decide +kernel
theorem dX11_even_113 : decode cX11_even 113 = .ok (.invokevirtual 182, 3) := by decide +kernel
theorem dX11_even_116 : decode cX11_even 116 = .ok (.aload_n 0, 1) := by decide +kernel
theorem dX11_even_117 : decode cX11_even 117 = .ok (.getfield 87, 3) := by decide +kernel
theorem dX11_even_120 : decode cX11_even 120 = .ok (.iload 7, 2) := by decide +kernel
theorem dX11_even_122 : decode cX11_even 122 = .ok (.iconst 1, 1) := by decide +kernel
theorem dX11_even_123 : decode cX11_even 123 = .ok (.isub, 1) := by decide +kernel
theorem dX11_even_124 : decode cX11_even 124 = .ok (.invokevirtual 182, 3) := by decide +kernel
theorem dX11_even_127 : decode cX11_even 127 = .ok (.isub, 1) := by decide +kernel
theorem dX11_even_128 : decode cX11_even 128 = .ok (.invokestatic 286, 3) := by decide +kernel
theorem dX11_even_131 : decode cX11_even 131 = .ok (.invokestatic 291, 3) := by decide +kernel
theorem dX11_even_134 : decode cX11_even 134 = .ok (.istore 6, 2) := by decide +kernel
theorem dX11_even_136 : decode cX11_even 136 = .ok (.iinc 7 1, 3) := by decide +kernel
theorem dX11_even_139 : decode cX11_even 139 = .ok (.goto (-69), 3) := by decide +kernel
theorem dX11_even_142 : decode cX11_even 142 = .ok (.iload 6, 2) := by decide +kernel
theorem dX11_even_144 : decode cX11_even 144 = .ok (.ireturn, 1) := by decide +kernel
theorem hcX11_even : yX11_even.cls ≠ "java/lang/invoke/MethodHandle" ∧ yX11_even.cls ≠ "java/lang/invoke/VarHandle" ∧ (parseMethodDescriptor yX11_even.desc).map (fun d => d.parameters.length) = some 3 := ⟨by decide +kernel, by decide +kernel, by decide +kernel⟩
def fX11_even_j136 (x7_70 : Int) (s22 : sg_M) (k70 : sg_M → Int → Int → Prop) (x6_136 : Int) : Prop := sg_R (x7_70 + 1) ∧ k70 s22 x6_136 (x7_70 + 1)
def fX11_even_L70 (La : sg_L) (x3 : Int) (u5 : Int) (u8 : Int) (Q : Int → sg_M → Prop) : Nat → sg_M → Int → Int → Prop
  | 0, _, _, _ => False
  | n_70 + 1, s_70, x6_70, x7_70 => ((x3 < x7_70 → Q x6_70 s_70) ∧ (¬ (x3 < x7_70) → sg_R ((u8 - u5) * x7_70) ∧ (x3 ≠ 0) ∧ sg_R (u5 + (Int.tdiv ((u8 - u5) * x7_70) x3)) ∧ fX11_nearestPart La s_70 (u5 + (Int.tdiv ((u8 - u5) * x7_70) x3)) (fun u20 => fX4_add La s_70 54 u20 (fun s22 => ((x7_70 ≤ 0 → (fX11_even_j136 x7_70 s22 (fX11_even_L70 La x3 u5 u8 Q n_70)) x6_70) ∧ (¬ (x7_70 ≤ 0) → fX4_at La s22 54 x7_70 (fun u26 => sg_R (x7_70 - 1) ∧ fX4_at La s22 54 (x7_70 - 1) (fun u30 => sg_R (u26 - u30) ∧ sg_R (sg_abs (u26 - u30)) ∧ ∀ v34 : Int, v34 = (sg_max x6_70 (sg_abs (u26 - u30))) → sg_R v34 ∧ (fX11_even_j136 x7_70 s22 (fX11_even_L70 La x3 u5 u8 Q n_70)) v34))))))))
def fX11_even (La : sg_L) (s0 : sg_M) (x1 : Int) (x2 : Int) (x3 : Int) (Q : Int → sg_M → Prop) : Prop := ((x3 < 1 → Q (-1) s0) ∧ (¬ (x3 < 1) → ((x3 ≤ 20 → fX11_hearBook La s0 (fun s3 => fX4_at La s3 58 x1 (fun u5 => fX4_at La s3 58 x2 (fun u8 => ((u5 < 1 → Q (-1) s3) ∧ (¬ (u5 < 1) → ((1 ≤ u8 → fX11_hearParts La s3 x1 x2 (fun s12 => fX4_clear s12 54 (fun s14 => (∃ n37 : Nat, fX11_even_L70 La x3 u5 u8 Q n37 s14 0 0)))) ∧ (¬ (1 ≤ u8) → Q (-1) s3)))))))) ∧ (¬ (x3 ≤ 20) → Q (-1) s0))))
set_option maxHeartbeats 4000000 in
set_option maxRecDepth 100000 in
theorem CX11_even {l : Launch} {G : sg_G} {La : sg_L} {s0 : sg_M} (hst : sg_St La) {x1 : Int} (r1 : sg_R x1) {x2 : Int} (r2 : sg_R x2) {x3 : Int} (r3 : sg_R x3) {Q : Int → sg_M → Prop} (hf : fX11_even La s0 x1 x2 x3 Q) : sg_C l G yX11_even cX11_even 8 (some .int) 7 0 0 La s0 [sg_r 0, sg_i x1, sg_i x2, sg_i x3] (sg_HI La Q) := by
  refine sg_body (by decide +kernel) (Nat.le_of_ble_eq_true rfl) ?_
  intro p e s m args below meth c F hnm
  unfold fX11_even at hf
  show sg_W p l e (sg_rm 7 0 0) s m args below meth c (MQ below (sg_Q (some .int) G La s.heap.size (sg_HI La Q)) args s 0 0 (sg_A La s.heap.size)) 8 G (sg_A La s.heap.size) La s0 0 0 0 [(0, sg_r 0), (1, sg_i x1), (2, sg_i x2), (3, sg_i x3)] []
  refine gw_iload_n F 3 rfl rfl dX11_even_0 ?_
  refine gw_iconst F dX11_even_1 ?_
  refine gw_icmp_lt F (tgt := 11) dX11_even_2 (by decide) r3 (by decide) (fun c1 => ?_) (fun c1 => ?_)
  · have hf := hf.1 c1
    refine gw_iconst F dX11_even_11 ?_
    exact gr_HI F (by decide) hf (by decide) (by decide) dX11_even_12
  · have hf := hf.2 c1
    refine gw_iload_n F 3 rfl rfl dX11_even_5 ?_
    refine gw_bipush F rfl dX11_even_6 ?_
    refine gw_icmp_le F (tgt := 13) dX11_even_8 (by decide) r3 (by decide) (fun c2 => ?_) (fun c2 => ?_)
    · have hf := hf.1 c2
      refine gw_aload_n F 0 rfl rfl (by decide) dX11_even_13 ?_
      refine gk_HV F (gc_V F (S := []) (As := []) (T := TX11) (N := 19) (CX11_hearBook hst hf) (so_0 hst) (by decide) rfl kw_651 kw_90 kw_649 kw_650 kw_19 hcX11_hearBook ⟨by decide, by decide⟩ rfl rfl (Nat.le_of_ble_eq_true rfl) ⟨by decide, by decide⟩ dX11_even_14) (fun s3 hf => ?_)
      refine gw_aload_n F 0 rfl rfl (by decide) dX11_even_17 ?_
      refine gw_get7 F (so_0 hst) (by decide) rfl sg_lay_RX11 (j := 13) (by decide) (o1 := 58) (by first | rfl | omega) rfl (host := "") (.inl kw_339) dX11_even_18 (fun h4 => ?_)
      refine gw_iload_n F 1 rfl rfl dX11_even_21 ?_
      refine gk_PI F (gc_V F (S := []) (As := [sg_i x1]) (T := TX4) (N := 3) (CX4_at (so_58 hst) r1 hf) (so_58 hst) (by decide) rfl kw_546 kw_97 kw_543 kw_544 kw_545 hcX4_at ⟨by decide, by decide⟩ rfl rfl (Nat.le_of_ble_eq_true rfl) ⟨by decide, by decide⟩ dX11_even_22) (fun u5 h6 hf => ?_)
      refine gw_istore F (by decide) rfl dX11_even_25 ?_
      refine gw_aload_n F 1 rfl rfl (by decide) dX11_even_27 ?_
      refine gw_get7 F (so_0 hst) (by decide) rfl sg_lay_RX11 (j := 13) (by decide) (o1 := 58) (by first | rfl | omega) rfl (host := "") (.inl kw_339) dX11_even_28 (fun h7 => ?_)
      refine gw_iload_n F 3 rfl rfl dX11_even_31 ?_
      refine gk_PI F (gc_V F (S := []) (As := [sg_i x2]) (T := TX4) (N := 3) (CX4_at (so_58 hst) r2 hf) (so_58 hst) (by decide) rfl kw_546 kw_97 kw_543 kw_544 kw_545 hcX4_at ⟨by decide, by decide⟩ rfl rfl (Nat.le_of_ble_eq_true rfl) ⟨by decide, by decide⟩ dX11_even_32) (fun u8 h9 hf => ?_)
      refine gw_istore F (by decide) rfl dX11_even_35 ?_
      refine gw_iload F 1 rfl dX11_even_37 ?_
      refine gw_iconst F dX11_even_39 ?_
      refine gw_icmp_lt F (tgt := 49) dX11_even_40 (by decide) h6 (by decide) (fun c10 => ?_) (fun c10 => ?_)
      · have hf := hf.1 c10
        refine gw_iconst F dX11_even_49 ?_
        exact gr_HI F (by decide) hf (by decide) (by decide) dX11_even_50
      · have hf := hf.2 c10
        refine gw_iload F 0 rfl dX11_even_43 ?_
        refine gw_iconst F dX11_even_45 ?_
        refine gw_icmp_ge F (tgt := 51) dX11_even_46 (by decide) h9 (by decide) (fun c11 => ?_) (fun c11 => ?_)
        · have hf := hf.1 c11
          refine gw_aload_n F 2 rfl rfl (by decide) dX11_even_51 ?_
          refine gw_iload_n F 3 rfl rfl dX11_even_52 ?_
          refine gw_iload_n F 4 rfl rfl dX11_even_53 ?_
          refine gk_HV F (gc_V F (S := []) (As := [sg_i x1, sg_i x2]) (T := TX11) (N := 19) (CX11_hearParts hst r1 r2 hf) (so_0 hst) (by decide) rfl kw_736 kw_90 kw_734 kw_735 kw_26 hcX11_hearParts ⟨by decide, by decide⟩ rfl rfl (Nat.le_of_ble_eq_true rfl) ⟨by decide, by decide⟩ dX11_even_54) (fun s12 hf => ?_)
          refine gw_aload_n F 2 rfl rfl (by decide) dX11_even_57 ?_
          refine gw_get7 F (so_0 hst) (by decide) rfl sg_lay_RX11 (j := 11) (by decide) (o1 := 54) (by first | rfl | omega) rfl (host := "") (.inl kw_337) dX11_even_58 (fun h13 => ?_)
          refine gk_HV F (gc_V F (S := []) (As := []) (T := TX4) (N := 3) (CX4_clear (so_54 hst) hf) (so_54 hst) (by decide) rfl kw_531 kw_97 kw_652 kw_529 kw_530 hcX4_clear ⟨by decide, by decide⟩ rfl rfl (Nat.le_of_ble_eq_true rfl) ⟨by decide, by decide⟩ dX11_even_61) (fun s14 hf => ?_)
          refine gw_iconst F dX11_even_64 ?_
          refine gw_istore F (by decide) rfl dX11_even_65 ?_
          refine gw_iconst F dX11_even_67 ?_
          refine gw_istore F (by decide) rfl dX11_even_68 ?_
          have L70 : ∀ n_70 : Nat, ∀ (s_70 : sg_M) (x6_70 : Int) (x7_70 : Int), sg_R x6_70 → sg_R x7_70 → fX11_even_L70 La x3 u5 u8 Q n_70 s_70 x6_70 x7_70 → sg_W p l e (sg_rm 7 0 0) s m args below meth c (MQ below (sg_Q (some .int) G La s.heap.size (sg_HI La Q)) args s 0 0 (sg_A La s.heap.size)) 8 G (sg_A La s.heap.size) La s_70 0 0 70 [(0, sg_r 0), (3, sg_i x3), (4, sg_i u5), (5, sg_i u8), (6, sg_i x6_70), (7, sg_i x7_70)] [] := by
            intro n_70
            induction n_70 with
            | zero => intro s_70 x6_70 x7_70 r6_70 r7_70 hf; exact hf.elim
            | succ n_70 ih =>
              intro s_70 x6_70 x7_70 r6_70 r7_70 hf
              unfold fX11_even_L70 at hf
              refine gw_iload F 5 rfl dX11_even_70 ?_
              refine gw_iload_n F 1 rfl rfl dX11_even_72 ?_
              refine gw_icmp_gt F (tgt := 142) dX11_even_73 (by decide) r7_70 r3 (fun c15 => ?_) (fun c15 => ?_)
              · have hf := hf.1 c15
                refine gw_iload F 4 rfl dX11_even_142 ?_
                exact gr_HI F r6_70 hf (by decide) (by decide) dX11_even_144
              · have hf := hf.2 c15
                refine gw_aload_n F 0 rfl rfl (by decide) dX11_even_76 ?_
                refine gw_get7 F (so_0 hst) (by decide) rfl sg_lay_RX11 (j := 11) (by decide) (o1 := 54) (by first | rfl | omega) rfl (host := "") (.inl kw_337) dX11_even_77 (fun h16 => ?_)
                refine gw_aload_n F 0 rfl rfl (by decide) dX11_even_80 ?_
                refine gw_iload F 2 rfl dX11_even_81 ?_
                refine gw_iload F 3 rfl dX11_even_83 ?_
                refine gw_iload F 2 rfl dX11_even_85 ?_
                refine gw_isub F rfl dX11_even_87 ?_
                refine gw_iload F 5 rfl dX11_even_88 ?_
                refine gw_imul F rfl dX11_even_90 ?_
                refine gw_iload_n F 1 rfl rfl dX11_even_91 ?_
                obtain ⟨g17, hf⟩ := hf
                obtain ⟨g18, hf⟩ := hf
                refine gw_idiv F g17 r3 g18 rfl dX11_even_92 ?_
                refine gw_iadd F rfl dX11_even_93 ?_
                obtain ⟨g19, hf⟩ := hf
                refine gk_PI F (gc_V F (S := [sg_r 54]) (As := [sg_i (u5 + (Int.tdiv ((u8 - u5) * x7_70) x3))]) (T := TX11) (N := 19) (CX11_nearestPart hst g19 hf) (so_0 hst) (by decide) rfl kw_739 kw_90 kw_737 kw_738 kw_27 hcX11_nearestPart ⟨by decide, by decide⟩ rfl rfl (Nat.le_of_ble_eq_true rfl) ⟨by decide, by decide⟩ dX11_even_94) (fun u20 h21 hf => ?_)
                refine gk_HV F (gc_V F (S := []) (As := [sg_i u20]) (T := TX4) (N := 3) (CX4_add (so_54 hst) h21 hf) (so_54 hst) (by decide) rfl kw_538 kw_97 kw_663 kw_536 kw_537 hcX4_add ⟨by decide, by decide⟩ rfl rfl (Nat.le_of_ble_eq_true rfl) ⟨by decide, by decide⟩ dX11_even_97) (fun s22 hf => ?_)
                refine gw_iload F 5 rfl dX11_even_100 ?_
                have J136 : ∀ (x6_136 : Int), sg_R x6_136 → (fX11_even_j136 x7_70 s22 (fX11_even_L70 La x3 u5 u8 Q n_70)) x6_136 → sg_W p l e (sg_rm 7 0 0) s m args below meth c (MQ below (sg_Q (some .int) G La s.heap.size (sg_HI La Q)) args s 0 0 (sg_A La s.heap.size)) 8 G (sg_A La s.heap.size) La s22 0 0 136 [(0, sg_r 0), (3, sg_i x3), (4, sg_i u5), (5, sg_i u8), (6, sg_i x6_136), (7, sg_i x7_70)] [] := by
                  intro x6_136 r6_136 hf
                  unfold fX11_even_j136 at hf
                  refine gw_iinc F (z := (x7_70 + 1)) 5 rfl (by omega) (by decide) rfl dX11_even_136 ?_
                  refine gw_goto F (tgt := 70) dX11_even_139 (by decide) ?_
                  obtain ⟨g23, hf⟩ := hf
                  refine gw_sub [1, 2, 3, 4, 5, 0] rfl ?_
                  exact ih s22 x6_136 (x7_70 + 1) r6_136 g23 hf
                refine gw_if_le F (tgt := 136) dX11_even_102 (by decide) r7_70 (fun c24 => ?_) (fun c24 => ?_)
                · have hf := hf.1 c24
                  refine gw_sub [0, 1, 2, 3, 4, 5] rfl ?_
                  exact J136 x6_70 r6_70 hf
                · have hf := hf.2 c24
                  refine gw_iload F 4 rfl dX11_even_105 ?_
                  refine gw_aload_n F 0 rfl rfl (by decide) dX11_even_107 ?_
                  refine gw_get7 F (so_0 hst) (by decide) rfl sg_lay_RX11 (j := 11) (by decide) (o1 := 54) (by first | rfl | omega) rfl (host := "") (.inl kw_337) dX11_even_108 (fun h25 => ?_)
                  refine gw_iload F 5 rfl dX11_even_111 ?_
                  refine gk_PI F (gc_V F (S := [sg_i x6_70]) (As := [sg_i x7_70]) (T := TX4) (N := 3) (CX4_at (so_54 hst) r7_70 hf) (so_54 hst) (by decide) rfl kw_546 kw_97 kw_543 kw_544 kw_545 hcX4_at ⟨by decide, by decide⟩ rfl rfl (Nat.le_of_ble_eq_true rfl) ⟨by decide, by decide⟩ dX11_even_113) (fun u26 h27 hf => ?_)
                  refine gw_aload_n F 0 rfl rfl (by decide) dX11_even_116 ?_
                  refine gw_get7 F (so_0 hst) (by decide) rfl sg_lay_RX11 (j := 11) (by decide) (o1 := 54) (by first | rfl | omega) rfl (host := "") (.inl kw_337) dX11_even_117 (fun h28 => ?_)
                  refine gw_iload F 5 rfl dX11_even_120 ?_
                  refine gw_iconst F dX11_even_122 ?_
                  refine gw_isub F rfl dX11_even_123 ?_
                  obtain ⟨g29, hf⟩ := hf
                  refine gk_PI F (gc_V F (S := [sg_i u26, sg_i x6_70]) (As := [sg_i (x7_70 - 1)]) (T := TX4) (N := 3) (CX4_at (so_54 hst) g29 hf) (so_54 hst) (by decide) rfl kw_546 kw_97 kw_543 kw_544 kw_545 hcX4_at ⟨by decide, by decide⟩ rfl rfl (Nat.le_of_ble_eq_true rfl) ⟨by decide, by decide⟩ dX11_even_124) (fun u30 h31 hf => ?_)
                  refine gw_isub F rfl dX11_even_127 ?_
                  obtain ⟨g32, hf⟩ := hf
                  refine gw_abs F g32 rfl kw_697 kw_abs1 kw_math kw_abs2 (Nat.le_of_ble_eq_true rfl) (by decide) (by decide) (by decide) (by decide) dX11_even_128 ?_
                  obtain ⟨g33, hf⟩ := hf
                  refine gw_max F r6_70 g33 rfl kw_523 kw_max1 kw_math kw_max2 (Nat.le_of_ble_eq_true rfl) (by decide) (by decide) (by decide) (by decide) dX11_even_131 ?_
                  obtain ⟨v34, e35⟩ : ∃ z : Int, z = (sg_max x6_70 (sg_abs (u26 - u30))) := ⟨_, rfl⟩
                  obtain ⟨g36, hf⟩ := hf v34 e35
                  refine gw_nmI e35 ?_
                  refine gw_istore F (by decide) rfl dX11_even_134 ?_
                  refine gw_sub [1, 2, 3, 4, 0, 5] rfl ?_
                  exact J136 v34 g36 hf
          obtain ⟨n37, hf⟩ := hf
          refine gw_sub [4, 7, 3, 2, 1, 0] rfl ?_
          refine L70   n37 s14 0 0 (by decide) (by decide) hf
        · have hf := hf.2 c11
          refine gw_iconst F dX11_even_49 ?_
          exact gr_HI F (by decide) hf (by decide) (by decide) dX11_even_50
    · have hf := hf.2 c2
      refine gw_iconst F dX11_even_11 ?_
      exact gr_HI F (by decide) hf (by decide) (by decide) dX11_even_12
