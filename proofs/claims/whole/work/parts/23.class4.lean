def fX7_init_B (La : sg_L) (s0 : sg_M) (o : Int) (o1 : Int) (o2 : Int) (o3 : Int) (Q : sg_L → sg_M → Prop) : Prop := ∀ (q1 : Nat) (La2 : sg_L), La2 = sg_pu La 22 q1 → ∀ s3 : sg_M, s3 = sg_nw s0 La.1 22 → ∀ o4 : Int, o4 = (La.1 : Int) → fX2_init La2 s3 o4 (fun La16 s17 => ∀ s25 : sg_M, s25 = sg_up s17 o 3 o4 → ∀ (q27 : Nat) (La28 : sg_L), La28 = sg_pu La16 30004 q27 → ∀ s29 : sg_M, s29 = sg_nw s25 La16.1 30004 → ∀ o30 : Int, o30 = (La16.1 : Int) → ∀ s42 : sg_M, s42 = sg_up s29 o 4 o30 → ∀ s44 : sg_M, s44 = sg_up s42 o 0 o1 → ∀ s46 : sg_M, s46 = sg_up s44 o 1 o2 → ∀ s48 : sg_M, s48 = sg_up s46 o 2 o3 → sg_sealed La28 s48 o 47 7 ∧ ∀ La50 : sg_L, La50 = sg_se La28 o.toNat 7 → Q La50 s48)
set_option maxHeartbeats 4000000 in
set_option maxRecDepth 100000 in
theorem CX7_init_B {l : Launch} {G : sg_G} {La : sg_L} {s0 : sg_M} {o : Int} (to : sg_O La o 47) {o1 : Int} (t1 : sg_O La o1 1) {o2 : Int} (t2 : sg_O La o2 3) {o3 : Int} (t3 : sg_O La o3 5) {Q : sg_L → sg_M → Prop} (hf : fX7_init_B La s0 o o1 o2 o3 Q) : sg_C l G yX7_init cX7_init 4 (none) 3 6 413 La s0 [sg_r o, sg_r o1, sg_r o2, sg_r o3] (sg_BV (sg_se La o.toNat 7) Q) := by
  refine sg_body (by decide +kernel) (Nat.le_of_ble_eq_true rfl) ?_
  intro p e s m args below meth c F hnm
  unfold fX7_init_B at hf
  show sg_W p l e (sg_rm 3 6 413) s m args below meth c (MQ below (sg_Q (none) G La s.heap.size (sg_BV (sg_se La o.toNat 7) Q)) args s 6 413 (sg_A La s.heap.size)) 4 G (sg_A La s.heap.size) La s0 0 0 0 [(0, sg_r o), (1, sg_r o1), (2, sg_r o2), (3, sg_r o3)] []
  have hin : meth.name = "<init>" := hnm
  refine gw_aload_n F 0 rfl rfl to.1 dX7_init_0 ?_
  refine gw_objInit F to.1 kw_215 kw_OI kw_OC (Nat.le_of_ble_eq_true rfl) (by decide) (by decide) dX7_init_1 ?_
  refine gw_aload_n F 0 rfl rfl to.1 dX7_init_4 ?_
  refine gy_new F (kd := 22) (T := TX2) (by decide) rfl sg_lay_RX2 tyX2_ok kw_216 kw_217 kw_99 ns_X2 nf_X2 nr_X2 (by decide) (by decide) (List.forall_mem_cons.mpr ⟨(Or.inl to.2.1), (List.forall_mem_cons.mpr ⟨(Or.inl t1.2.1), (List.forall_mem_cons.mpr ⟨(Or.inl t2.2.1), (List.forall_mem_cons.mpr ⟨(Or.inl t3.2.1), (fun _ h => absurd h List.not_mem_nil)⟩)⟩)⟩)⟩) (List.forall_mem_cons.mpr ⟨(Or.inl to.2.1), (fun _ h => absurd h List.not_mem_nil)⟩) dX7_init_5 (fun q1 La2 s3 o4 e5 e6 e7 t8 hX9 => ?_)
  have hf := hf q1 La2 e5 s3 e6 o4 e7
  have hn10 : La.1 ≤ o4.toNat := by rw [e7, Int.toNat_natCast]; exact (sg_X.rf : sg_X La La).1
  have t11 := to.X hX9
  have t12 := t1.X hX9
  have t13 := t2.X hX9
  have t14 := t3.X hX9
  have hX15 := sg_X.tr (sg_X.rf) hX9
  refine gw_dup F rfl dX7_init_8 ?_
  refine gk_BV F (gc_IN F (S := [sg_r o4, sg_r o]) (As := []) (CX2_init t8 hf) t8.1 kw_220 kw_99 kw_218 kw_219 rfl hcX2_init ⟨by decide, by decide⟩ rfl rfl (Nat.le_of_ble_eq_true rfl) ⟨by decide, by decide⟩ dX7_init_9) (List.forall_mem_cons.mpr ⟨(Or.inl t11.2.1), (List.forall_mem_cons.mpr ⟨(Or.inl t12.2.1), (List.forall_mem_cons.mpr ⟨(Or.inl t13.2.1), (List.forall_mem_cons.mpr ⟨(Or.inl t14.2.1), (fun _ h => absurd h List.not_mem_nil)⟩)⟩)⟩)⟩) (List.forall_mem_cons.mpr ⟨(Or.inl t8.2.1), (List.forall_mem_cons.mpr ⟨(Or.inl t11.2.1), (fun _ h => absurd h List.not_mem_nil)⟩)⟩) (fun La16 s17 hX18 hf => ?_)
  have t19 := (sg_O_sx t11 t8 (by decide)).X hX18
  have t20 := (sg_O_sx t12 t8 (by decide)).X hX18
  have t21 := (sg_O_sx t13 t8 (by decide)).X hX18
  have t22 := (sg_O_sx t14 t8 (by decide)).X hX18
  have t23 := (sg_O_sealed t8).X hX18
  have hX24 := (sg_X_sx (hX15) hn10).tr hX18
  obtain ⟨s25, e26⟩ : ∃ z : sg_M, z = sg_up s17 o 3 o4 := ⟨_, rfl⟩
  have hf := hf s25 e26
  refine gw_put5F F t19 (by decide) rfl sg_lay_RX7 (j := 3) (by decide) (D0 := tyX7 3) (fun _ => ⟨rfl, rfl⟩) t23.1 t23.2.1 e26 tyX7_ok nmX7 rfl hin rfl (tyX7_ok 3 (by decide)) rfl (host := "") kw_239 dX7_init_12 ?_
  refine gw_aload_n F 0 rfl rfl t19.1 dX7_init_15 ?_
  refine gw_iconst F dX7_init_16 ?_
  refine gy_newB F (N := 4) kw_231 (F.2.2.2.2.2.2.2.2.2.1 _ kw_232) rfl (by decide) (by decide) (by decide) (List.forall_mem_cons.mpr ⟨(Or.inl t19.2.1), (List.forall_mem_cons.mpr ⟨(Or.inl t20.2.1), (List.forall_mem_cons.mpr ⟨(Or.inl t21.2.1), (List.forall_mem_cons.mpr ⟨(Or.inl t22.2.1), (fun _ h => absurd h List.not_mem_nil)⟩)⟩)⟩)⟩) (List.forall_mem_cons.mpr ⟨(Or.inl t19.2.1), (fun _ h => absurd h List.not_mem_nil)⟩) dX7_init_17 (fun q27 La28 s29 o30 e31 e32 e33 t34 hX35 => ?_)
  have hf := hf q27 La28 e31 s29 e32 o30 e33
  have hn36 : La.1 ≤ o30.toNat := by rw [e33, Int.toNat_natCast]; exact (hX24 : sg_X La La16).1
  have t37 := t19.X hX35
  have t38 := t20.X hX35
  have t39 := t21.X hX35
  have t40 := t22.X hX35
  have hX41 := sg_X.tr (hX24) hX35
  obtain ⟨s42, e43⟩ : ∃ z : sg_M, z = sg_up s29 o 4 o30 := ⟨_, rfl⟩
  have hf := hf s42 e43
  refine gw_put5F F t37 (by decide) rfl sg_lay_RX7 (j := 4) (by decide) (D0 := tyX7 4) (fun _ => ⟨rfl, rfl⟩) t34.1 t34.2.1 e43 tyX7_ok nmX7 rfl hin rfl (tyX7_ok 4 (by decide)) rfl (host := "") kw_241 dX7_init_20 ?_
  refine gw_aload_n F 0 rfl rfl t37.1 dX7_init_23 ?_
  refine gw_aload_n F 1 rfl rfl t38.1 dX7_init_24 ?_
  obtain ⟨s44, e45⟩ : ∃ z : sg_M, z = sg_up s42 o 0 o1 := ⟨_, rfl⟩
  have hf := hf s44 e45
  refine gw_put5 F t37 (by decide) rfl sg_lay_RX7 (j := 0) (by decide) (D0 := tyX7 0) (fun _ => ⟨rfl, rfl⟩) t38.1 t38.2.1 e45 tyX7_ok nmX7 rfl (tyX7_ok 0 (by decide)) rfl (host := "") (.inl kw_233) dX7_init_25 ?_
  refine gw_aload_n F 0 rfl rfl t37.1 dX7_init_28 ?_
  refine gw_aload_n F 2 rfl rfl t39.1 dX7_init_29 ?_
  obtain ⟨s46, e47⟩ : ∃ z : sg_M, z = sg_up s44 o 1 o2 := ⟨_, rfl⟩
  have hf := hf s46 e47
  refine gw_put5 F t37 (by decide) rfl sg_lay_RX7 (j := 1) (by decide) (D0 := tyX7 1) (fun _ => ⟨rfl, rfl⟩) t39.1 t39.2.1 e47 tyX7_ok nmX7 rfl (tyX7_ok 1 (by decide)) rfl (host := "") (.inl kw_235) dX7_init_30 ?_
  refine gw_aload_n F 0 rfl rfl t37.1 dX7_init_33 ?_
  refine gw_aload_n F 3 rfl rfl t40.1 dX7_init_34 ?_
  obtain ⟨s48, e49⟩ : ∃ z : sg_M, z = sg_up s46 o 2 o3 := ⟨_, rfl⟩
  have hf := hf s48 e49
  refine gw_put5 F t37 (by decide) rfl sg_lay_RX7 (j := 2) (by decide) (D0 := tyX7 2) (fun _ => ⟨rfl, rfl⟩) t40.1 t40.2.1 e49 tyX7_ok nmX7 rfl (tyX7_ok 2 (by decide)) rfl (host := "") (.inl kw_237) dX7_init_35 ?_
  obtain ⟨g51, hf⟩ := hf
  obtain ⟨La50, e52⟩ : ∃ z : sg_L, z = sg_se La28 o.toNat 7 := ⟨_, rfl⟩
  have hf := hf La50 e52
  refine gw_seal t37 ⟨by decide, by decide, by decide⟩ (by decide) (by decide) g51.1 g51.2 ?_
  rw [← e52]
  exact gr_BC F (o := o.toNat) (kd := 7) hf (by rw [e52]; exact sg_X.both hX41) (by decide) (by decide) dX7_init_38

theorem dX11_worth_0 : decode cX11_worth 0 = .ok (.aload_n 0, 1) := by decide +kernel
theorem dX11_worth_1 : decode cX11_worth 1 = .ok (.getfield 106, 3) := by decide +kernel
theorem dX11_worth_4 : decode cX11_worth 4 = .ok (.ireturn, 1) := by decide +kernel
theorem hcX11_worth : yX11_worth.cls ≠ "java/lang/invoke/MethodHandle" ∧ yX11_worth.cls ≠ "java/lang/invoke/VarHandle" ∧ (parseMethodDescriptor yX11_worth.desc).map (fun d => d.parameters.length) = some 0 := ⟨by decide +kernel, by decide +kernel, by decide +kernel⟩
def fX11_worth (s0 : sg_M) (Q : Int → Prop) : Prop := Q (s0 0 17)
set_option maxHeartbeats 4000000 in
set_option maxRecDepth 100000 in
theorem CX11_worth {l : Launch} {G : sg_G} {La : sg_L} {s0 : sg_M} (hst : sg_St La) {Q : Int → Prop} (hf : fX11_worth s0 Q) : sg_C l G yX11_worth cX11_worth 1 (some .int) 1 0 0 La s0 [sg_r 0] (sg_PI La s0 Q) := by
  refine sg_body (by decide +kernel) (Nat.le_of_ble_eq_true rfl) ?_
  intro p e s m args below meth c F hnm
  unfold fX11_worth at hf
  show sg_W p l e (sg_rm 1 0 0) s m args below meth c (MQ below (sg_Q (some .int) G La s.heap.size (sg_PI La s0 Q)) args s 0 0 (sg_A La s.heap.size)) 1 G (sg_A La s.heap.size) La s0 0 0 0 [(0, sg_r 0)] []
  refine gw_aload_n F 0 rfl rfl (by decide) dX11_worth_0 ?_
  refine gw_get0 F (so_0 hst) (by decide) rfl sg_lay_RX11 (j := 17) (by decide) rfl (host := "") (.inl kw_343) dX11_worth_1 (fun h1 => ?_)
  exact gr_PI F h1 hf (by decide) (by decide) dX11_worth_4

theorem dX11_hearParts_0 : decode cX11_hearParts 0 = .ok (.aload_n 0, 1) := by decide +kernel
theorem dX11_hearParts_1 : decode cX11_hearParts 1 = .ok (.getfield 39, 3) := by decide +kernel
theorem dX11_hearParts_4 : decode cX11_hearParts 4 = .ok (.getfield 237, 3) := by decide +kernel
theorem dX11_hearParts_7 : decode cX11_hearParts 7 = .ok (.getfield 352, 3) := by decide +kernel
theorem dX11_hearParts_10 : decode cX11_hearParts 10 = .ok (.iload_n 1, 1) := by decide +kernel
theorem dX11_hearParts_11 : decode cX11_hearParts 11 = .ok (.invokevirtual 182, 3) := by decide +kernel
theorem dX11_hearParts_14 : decode cX11_hearParts 14 = .ok (.istore_n 3, 1) := by decide +kernel
theorem dX11_hearParts_15 : decode cX11_hearParts 15 = .ok (.aload_n 0, 1) := by decide +kernel
theorem dX11_hearParts_16 : decode cX11_hearParts 16 = .ok (.getfield 39, 3) := by decide +kernel
theorem dX11_hearParts_19 : decode cX11_hearParts 19 = .ok (.getfield 237, 3) := by decide +kernel
theorem dX11_hearParts_22 : decode cX11_hearParts 22 = .ok (.getfield 355, 3) := by decide +kernel
theorem dX11_hearParts_25 : decode cX11_hearParts 25 = .ok (.iload_n 1, 1) := by decide +kernel
theorem dX11_hearParts_26 : decode cX11_hearParts 26 = .ok (.invokevirtual 182, 3) := by decide +kernel
theorem dX11_hearParts_29 : decode cX11_hearParts 29 = .ok (.istore 4, 2) := by decide +kernel
theorem dX11_hearParts_31 : decode cX11_hearParts 31 = .ok (.aload_n 0, 1) := by decide +kernel
theorem dX11_hearParts_32 : decode cX11_hearParts 32 = .ok (.getfield 39, 3) := by decide +kernel
theorem dX11_hearParts_35 : decode cX11_hearParts 35 = .ok (.getfield 237, 3) := by decide +kernel
theorem dX11_hearParts_38 : decode cX11_hearParts 38 = .ok (.getfield 352, 3) := by decide +kernel
theorem dX11_hearParts_41 : decode cX11_hearParts 41 = .ok (.iload_n 2, 1) := by decide +kernel
theorem dX11_hearParts_42 : decode cX11_hearParts 42 = .ok (.invokevirtual 182, 3) := by decide +kernel
theorem dX11_hearParts_45 : decode cX11_hearParts 45 = .ok (.iload_n 3, 1) := by decide +kernel
theorem dX11_hearParts_46 : decode cX11_hearParts 46 = .ok (.isub, 1) := by decide +kernel
theorem dX11_hearParts_47 : decode cX11_hearParts 47 = .ok (.istore 5, 2) := by decide +kernel
theorem dX11_hearParts_49 : decode cX11_hearParts 49 = .ok (.aload_n 0, 1) := by decide +kernel
theorem dX11_hearParts_50 : decode cX11_hearParts 50 = .ok (.getfield 39, 3) := by decide +kernel
theorem dX11_hearParts_53 : decode cX11_hearParts 53 = .ok (.getfield 237, 3) := by decide +kernel
theorem dX11_hearParts_56 : decode cX11_hearParts 56 = .ok (.getfield 355, 3) := by decide +kernel
theorem dX11_hearParts_59 : decode cX11_hearParts 59 = .ok (.iload_n 2, 1) := by decide +kernel
theorem dX11_hearParts_60 : decode cX11_hearParts 60 = .ok (.invokevirtual 182, 3) := by decide +kernel
theorem dX11_hearParts_63 : decode cX11_hearParts 63 = .ok (.iload 4, 2) := by decide +kernel
theorem dX11_hearParts_65 : decode cX11_hearParts 65 = .ok (.isub, 1) := by decide +kernel
theorem dX11_hearParts_66 : decode cX11_hearParts 66 = .ok (.istore 6, 2) := by decide +kernel
theorem dX11_hearParts_68 : decode cX11_hearParts 68 = .ok (.aload_n 0, 1) := by decide +kernel
theorem dX11_hearParts_69 : decode cX11_hearParts 69 = .ok (.getfield 90, 3) := by decide +kernel
theorem dX11_hearParts_72 : decode cX11_hearParts 72 = .ok (.invokevirtual 271, 3) := by decide +kernel
theorem dX11_hearParts_75 : decode cX11_hearParts 75 = .ok (.iconst 0, 1) := by decide +kernel
theorem dX11_hearParts_76 : decode cX11_hearParts 76 = .ok (.istore 7, 2) := by decide +kernel
theorem dX11_hearParts_78 : decode cX11_hearParts 78 = .ok (.iload 7, 2) := by decide +kernel
theorem dX11_hearParts_80 : decode cX11_hearParts 80 = .ok (.bipush 100, 2) := by decide +kernel
theorem dX11_hearParts_82 : decode cX11_hearParts 82 = .ok (.if_icmp .gt 55, 3) := by decide +kernel
theorem dX11_hearParts_85 : decode cX11_hearParts 85 = .ok (.aload_n 0, 1) := by decide +kernel
theorem dX11_hearParts_86 : decode cX11_hearParts 86 = .ok (.aload_n 0, 1) := by decide +kernel
theorem dX11_hearParts_87 : decode cX11_hearParts 87 = .ok (.getfield 39, 3) := by decide +kernel
theorem dX11_hearParts_90 : decode cX11_hearParts 90 = .ok (.getfield 112, 3) := by decide +kernel
theorem dX11_hearParts_93 : decode cX11_hearParts 93 = .ok (.iload_n 3, 1) := by decide +kernel
theorem dX11_hearParts_94 : decode cX11_hearParts 94 = .ok (.iload 5, 2) := by decide +kernel
theorem dX11_hearParts_96 : decode cX11_hearParts 96 = .ok (.iload 7, 2) := by decide +kernel
theorem dX11_hearParts_98 : decode cX11_hearParts 98 = .ok (.imul, 1) := by decide +kernel
theorem dX11_hearParts_99 : decode cX11_hearParts 99 = .ok (.bipush 100, 2) := by decide +kernel
theorem dX11_hearParts_101 : decode cX11_hearParts 101 = .ok (.idiv, 1) := by decide +kernel
theorem dX11_hearParts_102 : decode cX11_hearParts 102 = .ok (.iadd, 1) := by decide +kernel
theorem dX11_hearParts_103 : decode cX11_hearParts 103 = .ok (.iload 4, 2) := by decide +kernel
theorem dX11_hearParts_105 : decode cX11_hearParts 105 = .ok (.iload 6, 2) := by decide +kernel
theorem dX11_hearParts_107 : decode cX11_hearParts 107 = .ok (.iload 7, 2) := by decide +kernel
theorem dX11_hearParts_109 : decode cX11_hearParts 109 = .ok (.imul, 1) := by decide +kernel
theorem dX11_hearParts_110 : decode cX11_hearParts 110 = .ok (.bipush 100, 2) := by decide +kernel
theorem dX11_hearParts_112 : decode cX11_hearParts 112 = .ok (.idiv, 1) := by decide +kernel
theorem dX11_hearParts_113 : decode cX11_hearParts 113 = .ok (.iadd, 1) := by decide +kernel
theorem dX11_hearParts_114 : decode cX11_hearParts 114 = .ok (.invokevirtual 225, 3) := by decide +kernel
theorem dX11_hearParts_117 : decode cX11_hearParts 117 = .ok (.aload_n 0, 1) := by decide +kernel
theorem dX11_hearParts_118 : decode cX11_hearParts 118 = .ok (.getfield 90, 3) := by decide +kernel
theorem dX11_hearParts_121 : decode cX11_hearParts 121 = .ok (.aload_n 0, 1) := by decide +kernel
theorem dX11_hearParts_122 : decode cX11_hearParts 122 = .ok (.getfield 54, 3) := by decide +kernel
theorem dX11_hearParts_125 : decode cX11_hearParts 125 = .ok (.getfield 228, 3) := by decide +kernel
theorem dX11_hearParts_128 : decode cX11_hearParts 128 = .ok (.invokevirtual 278, 3) := by decide +kernel
theorem dX11_hearParts_131 : decode cX11_hearParts 131 = .ok (.iinc 7 1, 3) := by decide +kernel
theorem dX11_hearParts_134 : decode cX11_hearParts 134 = .ok (.goto (-56), 3) := by decide +kernel
theorem dX11_hearParts_137 : decode cX11_hearParts 137 = .ok (.return_, 1) := by decide +kernel
theorem hcX11_hearParts : yX11_hearParts.cls ≠ "java/lang/invoke/MethodHandle" ∧ yX11_hearParts.cls ≠ "java/lang/invoke/VarHandle" ∧ (parseMethodDescriptor yX11_hearParts.desc).map (fun d => d.parameters.length) = some 2 := ⟨by decide +kernel, by decide +kernel, by decide +kernel⟩
def fX11_hearParts_L78 (La : sg_L) (u4 : Int) (u9 : Int) (u14 : Int) (u19 : Int) (Q : sg_M → Prop) : Nat → sg_M → Int → Prop
  | 0, _, _ => False
  | n_78 + 1, s_78, x7_78 => ((100 < x7_78 → Q s_78) ∧ (¬ (100 < x7_78) → sg_R ((u14 - u4) * x7_78) ∧ sg_R ((u19 - u9) * x7_78) ∧ (0 ≤ (s_78 4 0)) ∧ sg_R (u4 + (Int.tdiv ((u14 - u4) * x7_78) 100)) ∧ sg_R (u9 + (Int.tdiv ((u19 - u9) * x7_78) 100)) ∧ fX11_listenTo La s_78 (s_78 4 0) (u4 + (Int.tdiv ((u14 - u4) * x7_78) 100)) (u9 + (Int.tdiv ((u19 - u9) * x7_78) 100)) (fun s32 => fX4_add La s32 56 (s32 32 7) (fun s36 => sg_R (x7_78 + 1) ∧ (fX11_hearParts_L78 La u4 u9 u14 u19 Q n_78) s36 (x7_78 + 1)))))
def fX11_hearParts (La : sg_L) (s0 : sg_M) (x1 : Int) (x2 : Int) (Q : sg_M → Prop) : Prop := fX4_at La s0 21 x1 (fun u4 => fX4_at La s0 23 x1 (fun u9 => fX4_at La s0 21 x2 (fun u14 => fX4_at La s0 23 x2 (fun u19 => fX4_clear s0 56 (fun s22 => (∃ n38 : Nat, fX11_hearParts_L78 La u4 u9 u14 u19 Q n38 s22 0))))))
set_option maxHeartbeats 4000000 in
set_option maxRecDepth 100000 in
theorem CX11_hearParts {l : Launch} {G : sg_G} {La : sg_L} {s0 : sg_M} (hst : sg_St La) {x1 : Int} (r1 : sg_R x1) {x2 : Int} (r2 : sg_R x2) {Q : sg_M → Prop} (hf : fX11_hearParts La s0 x1 x2 Q) : sg_C l G yX11_hearParts cX11_hearParts 8 (none) 6 0 0 La s0 [sg_r 0, sg_i x1, sg_i x2] (sg_HV La Q) := by
  refine sg_body (by decide +kernel) (Nat.le_of_ble_eq_true rfl) ?_
  intro p e s m args below meth c F hnm
  unfold fX11_hearParts at hf
  show sg_W p l e (sg_rm 6 0 0) s m args below meth c (MQ below (sg_Q (none) G La s.heap.size (sg_HV La Q)) args s 0 0 (sg_A La s.heap.size)) 8 G (sg_A La s.heap.size) La s0 0 0 0 [(0, sg_r 0), (1, sg_i x1), (2, sg_i x2)] []
  refine gw_aload_n F 0 rfl rfl (by decide) dX11_hearParts_0 ?_
  refine gw_get7 F (so_0 hst) (by decide) rfl sg_lay_RX11 (j := 2) (by decide) (o1 := 4) (by first | rfl | omega) rfl (host := "") (.inl kw_328) dX11_hearParts_1 (fun h1 => ?_)
  refine gw_get7 F (so_4 hst) (by decide) rfl sg_lay_RX7 (j := 3) (by decide) (o1 := 20) (by first | rfl | omega) rfl (.inr kw_240) dX11_hearParts_4 (fun h2 => ?_)
  refine gw_get3 F (so_20 hst) (by decide) rfl sg_lay_RX2 (j := 0) (by decide) (o1 := 21) (by first | rfl | omega) rfl (.inr kw_225) dX11_hearParts_7 (fun h3 => ?_)
  refine gw_iload_n F 1 rfl rfl dX11_hearParts_10 ?_
  refine gk_PI F (gc_V F (S := []) (As := [sg_i x1]) (T := TX4) (N := 3) (CX4_at (so_21 hst) r1 hf) (so_21 hst) (by decide) rfl kw_546 kw_97 kw_543 kw_544 kw_545 hcX4_at ⟨by decide, by decide⟩ rfl rfl (Nat.le_of_ble_eq_true rfl) ⟨by decide, by decide⟩ dX11_hearParts_11) (fun u4 h5 hf => ?_)
  refine gw_istore_n F rfl (by decide) rfl dX11_hearParts_14 ?_
  refine gw_aload_n F 1 rfl rfl (by decide) dX11_hearParts_15 ?_
  refine gw_get7 F (so_0 hst) (by decide) rfl sg_lay_RX11 (j := 2) (by decide) (o1 := 4) (by first | rfl | omega) rfl (host := "") (.inl kw_328) dX11_hearParts_16 (fun h6 => ?_)
  refine gw_get7 F (so_4 hst) (by decide) rfl sg_lay_RX7 (j := 3) (by decide) (o1 := 20) (by first | rfl | omega) rfl (.inr kw_240) dX11_hearParts_19 (fun h7 => ?_)
  refine gw_get3 F (so_20 hst) (by decide) rfl sg_lay_RX2 (j := 1) (by decide) (o1 := 23) (by first | rfl | omega) rfl (.inr kw_227) dX11_hearParts_22 (fun h8 => ?_)
  refine gw_iload_n F 2 rfl rfl dX11_hearParts_25 ?_
  refine gk_PI F (gc_V F (S := []) (As := [sg_i x1]) (T := TX4) (N := 3) (CX4_at (so_23 hst) r1 hf) (so_23 hst) (by decide) rfl kw_546 kw_97 kw_543 kw_544 kw_545 hcX4_at ⟨by decide, by decide⟩ rfl rfl (Nat.le_of_ble_eq_true rfl) ⟨by decide, by decide⟩ dX11_hearParts_26) (fun u9 h10 hf => ?_)
  refine gw_istore F (by decide) rfl dX11_hearParts_29 ?_
  refine gw_aload_n F 2 rfl rfl (by decide) dX11_hearParts_31 ?_
  refine gw_get7 F (so_0 hst) (by decide) rfl sg_lay_RX11 (j := 2) (by decide) (o1 := 4) (by first | rfl | omega) rfl (host := "") (.inl kw_328) dX11_hearParts_32 (fun h11 => ?_)
  refine gw_get7 F (so_4 hst) (by decide) rfl sg_lay_RX7 (j := 3) (by decide) (o1 := 20) (by first | rfl | omega) rfl (.inr kw_240) dX11_hearParts_35 (fun h12 => ?_)
  refine gw_get3 F (so_20 hst) (by decide) rfl sg_lay_RX2 (j := 0) (by decide) (o1 := 21) (by first | rfl | omega) rfl (.inr kw_225) dX11_hearParts_38 (fun h13 => ?_)
  refine gw_iload_n F 4 rfl rfl dX11_hearParts_41 ?_
  refine gk_PI F (gc_V F (S := []) (As := [sg_i x2]) (T := TX4) (N := 3) (CX4_at (so_21 hst) r2 hf) (so_21 hst) (by decide) rfl kw_546 kw_97 kw_543 kw_544 kw_545 hcX4_at ⟨by decide, by decide⟩ rfl rfl (Nat.le_of_ble_eq_true rfl) ⟨by decide, by decide⟩ dX11_hearParts_42) (fun u14 h15 hf => ?_)
  refine gw_iload_n F 1 rfl rfl dX11_hearParts_45 ?_
  refine gw_isub F rfl dX11_hearParts_46 ?_
  refine gw_istore F (by decide) rfl dX11_hearParts_47 ?_
  refine gw_aload_n F 3 rfl rfl (by decide) dX11_hearParts_49 ?_
  refine gw_get7 F (so_0 hst) (by decide) rfl sg_lay_RX11 (j := 2) (by decide) (o1 := 4) (by first | rfl | omega) rfl (host := "") (.inl kw_328) dX11_hearParts_50 (fun h16 => ?_)
  refine gw_get7 F (so_4 hst) (by decide) rfl sg_lay_RX7 (j := 3) (by decide) (o1 := 20) (by first | rfl | omega) rfl (.inr kw_240) dX11_hearParts_53 (fun h17 => ?_)
  refine gw_get3 F (so_20 hst) (by decide) rfl sg_lay_RX2 (j := 1) (by decide) (o1 := 23) (by first | rfl | omega) rfl (.inr kw_227) dX11_hearParts_56 (fun h18 => ?_)
  refine gw_iload_n F 5 rfl rfl dX11_hearParts_59 ?_
  refine gk_PI F (gc_V F (S := []) (As := [sg_i x2]) (T := TX4) (N := 3) (CX4_at (so_23 hst) r2 hf) (so_23 hst) (by decide) rfl kw_546 kw_97 kw_543 kw_544 kw_545 hcX4_at ⟨by decide, by decide⟩ rfl rfl (Nat.le_of_ble_eq_true rfl) ⟨by decide, by decide⟩ dX11_hearParts_60) (fun u19 h20 hf => ?_)
  refine gw_iload F 1 rfl dX11_hearParts_63 ?_
  refine gw_isub F rfl dX11_hearParts_65 ?_
  refine gw_istore F (by decide) rfl dX11_hearParts_66 ?_
  refine gw_aload_n F 4 rfl rfl (by decide) dX11_hearParts_68 ?_
  refine gw_get7 F (so_0 hst) (by decide) rfl sg_lay_RX11 (j := 12) (by decide) (o1 := 56) (by first | rfl | omega) rfl (host := "") (.inl kw_338) dX11_hearParts_69 (fun h21 => ?_)
  refine gk_HV F (gc_V F (S := []) (As := []) (T := TX4) (N := 3) (CX4_clear (so_56 hst) hf) (so_56 hst) (by decide) rfl kw_531 kw_97 kw_652 kw_529 kw_530 hcX4_clear ⟨by decide, by decide⟩ rfl rfl (Nat.le_of_ble_eq_true rfl) ⟨by decide, by decide⟩ dX11_hearParts_72) (fun s22 hf => ?_)
  refine gw_iconst F dX11_hearParts_75 ?_
  refine gw_istore F (by decide) rfl dX11_hearParts_76 ?_
  have L78 : ∀ n_78 : Nat, ∀ (s_78 : sg_M) (x7_78 : Int), sg_R x7_78 → fX11_hearParts_L78 La u4 u9 u14 u19 Q n_78 s_78 x7_78 → sg_W p l e (sg_rm 6 0 0) s m args below meth c (MQ below (sg_Q (none) G La s.heap.size (sg_HV La Q)) args s 0 0 (sg_A La s.heap.size)) 8 G (sg_A La s.heap.size) La s_78 0 0 78 [(0, sg_r 0), (3, sg_i u4), (4, sg_i u9), (5, sg_i (u14 - u4)), (6, sg_i (u19 - u9)), (7, sg_i x7_78)] [] := by
    intro n_78
    induction n_78 with
    | zero => intro s_78 x7_78 r7_78 hf; exact hf.elim
    | succ n_78 ih =>
      intro s_78 x7_78 r7_78 hf
      unfold fX11_hearParts_L78 at hf
      refine gw_iload F 5 rfl dX11_hearParts_78 ?_
      refine gw_bipush F rfl dX11_hearParts_80 ?_
      refine gw_icmp_gt F (tgt := 137) dX11_hearParts_82 (by decide) r7_78 (by decide) (fun c23 => ?_) (fun c23 => ?_)
      · have hf := hf.1 c23
        exact gr_HV F hf (by decide) (by decide) dX11_hearParts_137
      · have hf := hf.2 c23
        refine gw_aload_n F 0 rfl rfl (by decide) dX11_hearParts_85 ?_
        refine gw_aload_n F 0 rfl rfl (by decide) dX11_hearParts_86 ?_
        refine gw_get7 F (so_0 hst) (by decide) rfl sg_lay_RX11 (j := 2) (by decide) (o1 := 4) (by first | rfl | omega) rfl (host := "") (.inl kw_328) dX11_hearParts_87 (fun h24 => ?_)
        refine gw_get4 F (so_4 hst) (by decide) rfl sg_lay_RX7 (j := 0) (by decide) rfl (.inr kw_234) dX11_hearParts_90 (fun h25 => ?_)
        refine gw_iload_n F 1 rfl rfl dX11_hearParts_93 ?_
        refine gw_iload F 3 rfl dX11_hearParts_94 ?_
        refine gw_iload F 5 rfl dX11_hearParts_96 ?_
        refine gw_imul F rfl dX11_hearParts_98 ?_
        refine gw_bipush F rfl dX11_hearParts_99 ?_
        obtain ⟨g26, hf⟩ := hf
        refine gw_idiv F g26 (by decide) (by decide) rfl dX11_hearParts_101 ?_
        refine gw_iadd F rfl dX11_hearParts_102 ?_
        refine gw_iload F 2 rfl dX11_hearParts_103 ?_
        refine gw_iload F 4 rfl dX11_hearParts_105 ?_
        refine gw_iload F 5 rfl dX11_hearParts_107 ?_
        refine gw_imul F rfl dX11_hearParts_109 ?_
        refine gw_bipush F rfl dX11_hearParts_110 ?_
        obtain ⟨g27, hf⟩ := hf
        refine gw_idiv F g27 (by decide) (by decide) rfl dX11_hearParts_112 ?_
        refine gw_iadd F rfl dX11_hearParts_113 ?_
        obtain ⟨g28, hf⟩ := hf
        have t29 := sg_nn h25 g28
        obtain ⟨g30, hf⟩ := hf
        obtain ⟨g31, hf⟩ := hf
        refine gk_HV F (gc_V F (S := []) (As := [sg_r (s_78 4 0), sg_i (u4 + (Int.tdiv ((u14 - u4) * x7_78) 100)), sg_i (u9 + (Int.tdiv ((u19 - u9) * x7_78) 100))]) (T := TX11) (N := 19) (CX11_listenTo hst t29 g30 g31 hf) (so_0 hst) (by decide) rfl kw_655 kw_90 kw_653 kw_654 kw_20 hcX11_listenTo ⟨by decide, by decide⟩ rfl rfl (Nat.le_of_ble_eq_true rfl) ⟨by decide, by decide⟩ dX11_hearParts_114) (fun s32 hf => ?_)
        refine gw_aload_n F 0 rfl rfl (by decide) dX11_hearParts_117 ?_
        refine gw_get7 F (so_0 hst) (by decide) rfl sg_lay_RX11 (j := 12) (by decide) (o1 := 56) (by first | rfl | omega) rfl (host := "") (.inl kw_338) dX11_hearParts_118 (fun h33 => ?_)
        refine gw_aload_n F 0 rfl rfl (by decide) dX11_hearParts_121 ?_
        refine gw_get7 F (so_0 hst) (by decide) rfl sg_lay_RX11 (j := 5) (by decide) (o1 := 32) (by first | rfl | omega) rfl (host := "") (.inl kw_331) dX11_hearParts_122 (fun h34 => ?_)
        refine gw_get0 F (so_32 hst) (by decide) rfl sg_lay_RX0 (j := 7) (by decide) rfl (.inr kw_266) dX11_hearParts_125 (fun h35 => ?_)
        refine gk_HV F (gc_V F (S := []) (As := [sg_i (s32 32 7)]) (T := TX4) (N := 3) (CX4_add (so_56 hst) h35 hf) (so_56 hst) (by decide) rfl kw_538 kw_97 kw_663 kw_536 kw_537 hcX4_add ⟨by decide, by decide⟩ rfl rfl (Nat.le_of_ble_eq_true rfl) ⟨by decide, by decide⟩ dX11_hearParts_128) (fun s36 hf => ?_)
        refine gw_iinc F (z := (x7_78 + 1)) 5 rfl (by omega) (by decide) rfl dX11_hearParts_131 ?_
        refine gw_goto F (tgt := 78) dX11_hearParts_134 (by decide) ?_
        obtain ⟨g37, hf⟩ := hf
        refine gw_sub [1, 2, 3, 4, 5, 0] rfl ?_
        exact ih s36 (x7_78 + 1) g37 hf
  obtain ⟨n38, hf⟩ := hf
  refine gw_sub [5, 4, 3, 2, 1, 0] rfl ?_
  refine L78   n38 s22 0 (by decide) hf

theorem dX11_nearestPart_0 : decode cX11_nearestPart 0 = .ok (.iconst 0, 1) := by decide +kernel
theorem dX11_nearestPart_1 : decode cX11_nearestPart 1 = .ok (.istore_n 2, 1) := by decide +kernel
theorem dX11_nearestPart_2 : decode cX11_nearestPart 2 = .ok (.sipush 4000, 3) := by decide +kernel
theorem dX11_nearestPart_5 : decode cX11_nearestPart 5 = .ok (.istore_n 3, 1) := by decide +kernel
theorem dX11_nearestPart_6 : decode cX11_nearestPart 6 = .ok (.iconst 0, 1) := by decide +kernel
theorem dX11_nearestPart_7 : decode cX11_nearestPart 7 = .ok (.istore 4, 2) := by decide +kernel
theorem dX11_nearestPart_9 : decode cX11_nearestPart 9 = .ok (.iload 4, 2) := by decide +kernel
theorem dX11_nearestPart_11 : decode cX11_nearestPart 11 = .ok (.aload_n 0, 1) := by decide +kernel
theorem dX11_nearestPart_12 : decode cX11_nearestPart 12 = .ok (.getfield 90, 3) := by decide +kernel
theorem dX11_nearestPart_15 : decode cX11_nearestPart 15 = .ok (.getfield 181, 3) := by decide +kernel
theorem dX11_nearestPart_18 : decode cX11_nearestPart 18 = .ok (.if_icmp .ge 46, 3) := by decide +kernel
theorem dX11_nearestPart_21 : decode cX11_nearestPart 21 = .ok (.aload_n 0, 1) := by decide +kernel
theorem dX11_nearestPart_22 : decode cX11_nearestPart 22 = .ok (.getfield 90, 3) := by decide +kernel
theorem dX11_nearestPart_25 : decode cX11_nearestPart 25 = .ok (.iload 4, 2) := by decide +kernel
theorem dX11_nearestPart_27 : decode cX11_nearestPart 27 = .ok (.invokevirtual 182, 3) := by decide +kernel
theorem dX11_nearestPart_30 : decode cX11_nearestPart 30 = .ok (.istore 5, 2) := by decide +kernel
theorem dX11_nearestPart_32 : decode cX11_nearestPart 32 = .ok (.iload 5, 2) := by decide +kernel
theorem dX11_nearestPart_34 : decode cX11_nearestPart 34 = .ok (.iload_n 1, 1) := by decide +kernel
theorem dX11_nearestPart_35 : decode cX11_nearestPart 35 = .ok (.isub, 1) := by decide +kernel
theorem dX11_nearestPart_36 : decode cX11_nearestPart 36 = .ok (.invokestatic 286, 3) := by decide +kernel
theorem dX11_nearestPart_39 : decode cX11_nearestPart 39 = .ok (.istore 6, 2) := by decide +kernel
theorem dX11_nearestPart_41 : decode cX11_nearestPart 41 = .ok (.iload 5, 2) := by decide +kernel
theorem dX11_nearestPart_43 : decode cX11_nearestPart 43 = .ok (.ifCond .le 15, 3) := by decide +kernel
theorem dX11_nearestPart_46 : decode cX11_nearestPart 46 = .ok (.iload 6, 2) := by decide +kernel
theorem dX11_nearestPart_48 : decode cX11_nearestPart 48 = .ok (.iload_n 3, 1) := by decide +kernel
theorem dX11_nearestPart_49 : decode cX11_nearestPart 49 = .ok (.if_icmp .ge 9, 3) := by decide +kernel
theorem dX11_nearestPart_52 : decode cX11_nearestPart 52 = .ok (.iload 4, 2) := by decide +kernel
theorem dX11_nearestPart_54 : decode cX11_nearestPart 54 = .ok (.istore_n 2, 1) := by decide +kernel
theorem dX11_nearestPart_55 : decode cX11_nearestPart 55 = .ok (.iload 6, 2) := by decide +kernel
theorem dX11_nearestPart_57 : decode cX11_nearestPart 57 = .ok (.istore_n 3, 1) := by decide +kernel
theorem dX11_nearestPart_58 : decode cX11_nearestPart 58 = .ok (.iinc 4 1, 3) := by decide +kernel
theorem dX11_nearestPart_61 : decode cX11_nearestPart 61 = .ok (.goto (-52), 3) := by decide +kernel
theorem dX11_nearestPart_64 : decode cX11_nearestPart 64 = .ok (.iload_n 2, 1) := by decide +kernel
theorem dX11_nearestPart_65 : decode cX11_nearestPart 65 = .ok (.ireturn, 1) := by decide +kernel
theorem hcX11_nearestPart : yX11_nearestPart.cls ≠ "java/lang/invoke/MethodHandle" ∧ yX11_nearestPart.cls ≠ "java/lang/invoke/VarHandle" ∧ (parseMethodDescriptor yX11_nearestPart.desc).map (fun d => d.parameters.length) = some 1 := ⟨by decide +kernel, by decide +kernel, by decide +kernel⟩
def fX11_nearestPart_j58 (x4_9 : Int) (k9 : Int → Int → Int → Prop) (x2_58 : Int) (x3_58 : Int) : Prop := sg_R (x4_9 + 1) ∧ k9 x2_58 x3_58 (x4_9 + 1)
def fX11_nearestPart_L9 (La : sg_L) (s0 : sg_M) (x1 : Int) (Q : Int → Prop) : Nat → Int → Int → Int → Prop
  | 0, _, _, _ => False
  | n_9 + 1, x2_9, x3_9, x4_9 => (((s0 56 1) ≤ x4_9 → Q x2_9) ∧ (¬ ((s0 56 1) ≤ x4_9) → fX4_at La s0 56 x4_9 (fun u5 => sg_R (u5 - x1) ∧ ((u5 ≤ 0 → (fX11_nearestPart_j58 x4_9 (fX11_nearestPart_L9 La s0 x1 Q n_9)) x2_9 x3_9) ∧ (¬ (u5 ≤ 0) → sg_R (sg_abs (u5 - x1)) ∧ ((x3_9 ≤ (sg_abs (u5 - x1)) → (fX11_nearestPart_j58 x4_9 (fX11_nearestPart_L9 La s0 x1 Q n_9)) x2_9 x3_9) ∧ (¬ (x3_9 ≤ (sg_abs (u5 - x1))) → (fX11_nearestPart_j58 x4_9 (fX11_nearestPart_L9 La s0 x1 Q n_9)) x4_9 (sg_abs (u5 - x1)))))))))
def fX11_nearestPart (La : sg_L) (s0 : sg_M) (x1 : Int) (Q : Int → Prop) : Prop := (∃ n12 : Nat, fX11_nearestPart_L9 La s0 x1 Q n12 0 4000 0)
set_option maxHeartbeats 4000000 in
set_option maxRecDepth 100000 in
theorem CX11_nearestPart {l : Launch} {G : sg_G} {La : sg_L} {s0 : sg_M} (hst : sg_St La) {x1 : Int} (r1 : sg_R x1) {Q : Int → Prop} (hf : fX11_nearestPart La s0 x1 Q) : sg_C l G yX11_nearestPart cX11_nearestPart 7 (some .int) 2 0 0 La s0 [sg_r 0, sg_i x1] (sg_PI La s0 Q) := by
  refine sg_body (by decide +kernel) (Nat.le_of_ble_eq_true rfl) ?_
  intro p e s m args below meth c F hnm
  unfold fX11_nearestPart at hf
  show sg_W p l e (sg_rm 2 0 0) s m args below meth c (MQ below (sg_Q (some .int) G La s.heap.size (sg_PI La s0 Q)) args s 0 0 (sg_A La s.heap.size)) 7 G (sg_A La s.heap.size) La s0 0 0 0 [(0, sg_r 0), (1, sg_i x1)] []
  refine gw_iconst F dX11_nearestPart_0 ?_
  refine gw_istore_n F rfl (by decide) rfl dX11_nearestPart_1 ?_
  refine gw_sipush F rfl dX11_nearestPart_2 ?_
  refine gw_istore_n F rfl (by decide) rfl dX11_nearestPart_5 ?_
  refine gw_iconst F dX11_nearestPart_6 ?_
  refine gw_istore F (by decide) rfl dX11_nearestPart_7 ?_
  have L9 : ∀ n_9 : Nat, ∀ (x2_9 : Int) (x3_9 : Int) (x4_9 : Int), sg_R x2_9 → sg_R x3_9 → sg_R x4_9 → fX11_nearestPart_L9 La s0 x1 Q n_9 x2_9 x3_9 x4_9 → sg_W p l e (sg_rm 2 0 0) s m args below meth c (MQ below (sg_Q (some .int) G La s.heap.size (sg_PI La s0 Q)) args s 0 0 (sg_A La s.heap.size)) 7 G (sg_A La s.heap.size) La s0 0 0 9 [(0, sg_r 0), (1, sg_i x1), (2, sg_i x2_9), (3, sg_i x3_9), (4, sg_i x4_9)] [] := by
    intro n_9
    induction n_9 with
    | zero => intro x2_9 x3_9 x4_9 r2_9 r3_9 r4_9 hf; exact hf.elim
    | succ n_9 ih =>
      intro x2_9 x3_9 x4_9 r2_9 r3_9 r4_9 hf
      unfold fX11_nearestPart_L9 at hf
      refine gw_iload F 4 rfl dX11_nearestPart_9 ?_
      refine gw_aload_n F 0 rfl rfl (by decide) dX11_nearestPart_11 ?_
      refine gw_get7 F (so_0 hst) (by decide) rfl sg_lay_RX11 (j := 12) (by decide) (o1 := 56) (by first | rfl | omega) rfl (host := "") (.inl kw_338) dX11_nearestPart_12 (fun h1 => ?_)
      refine gw_get0 F (so_56 hst) (by decide) rfl sg_lay_RX4 (j := 1) (by decide) rfl (.inr kw_204) dX11_nearestPart_15 (fun h2 => ?_)
      refine gw_icmp_ge F (tgt := 64) dX11_nearestPart_18 (by decide) r4_9 h2 (fun c3 => ?_) (fun c3 => ?_)
      · have hf := hf.1 c3
        refine gw_iload_n F 2 rfl rfl dX11_nearestPart_64 ?_
        exact gr_PI F r2_9 hf (by decide) (by decide) dX11_nearestPart_65
      · have hf := hf.2 c3
        refine gw_aload_n F 0 rfl rfl (by decide) dX11_nearestPart_21 ?_
        refine gw_get7 F (so_0 hst) (by decide) rfl sg_lay_RX11 (j := 12) (by decide) (o1 := 56) (by first | rfl | omega) rfl (host := "") (.inl kw_338) dX11_nearestPart_22 (fun h4 => ?_)
        refine gw_iload F 4 rfl dX11_nearestPart_25 ?_
        refine gk_PI F (gc_V F (S := []) (As := [sg_i x4_9]) (T := TX4) (N := 3) (CX4_at (so_56 hst) r4_9 hf) (so_56 hst) (by decide) rfl kw_546 kw_97 kw_543 kw_544 kw_545 hcX4_at ⟨by decide, by decide⟩ rfl rfl (Nat.le_of_ble_eq_true rfl) ⟨by decide, by decide⟩ dX11_nearestPart_27) (fun u5 h6 hf => ?_)
        refine gw_istore F (by decide) rfl dX11_nearestPart_30 ?_
        refine gw_iload F 0 rfl dX11_nearestPart_32 ?_
        refine gw_iload_n F 2 rfl rfl dX11_nearestPart_34 ?_
        refine gw_isub F rfl dX11_nearestPart_35 ?_
        obtain ⟨g7, hf⟩ := hf
        refine gw_abs F g7 rfl kw_697 kw_abs1 kw_math kw_abs2 (Nat.le_of_ble_eq_true rfl) (by decide) (by decide) (by decide) (by decide) dX11_nearestPart_36 ?_
        refine gw_istore F (by decide) rfl dX11_nearestPart_39 ?_
        refine gw_iload F 1 rfl dX11_nearestPart_41 ?_
        have J58 : ∀ (x2_58 : Int) (x3_58 : Int), sg_R x2_58 → sg_R x3_58 → (fX11_nearestPart_j58 x4_9 (fX11_nearestPart_L9 La s0 x1 Q n_9)) x2_58 x3_58 → sg_W p l e (sg_rm 2 0 0) s m args below meth c (MQ below (sg_Q (some .int) G La s.heap.size (sg_PI La s0 Q)) args s 0 0 (sg_A La s.heap.size)) 7 G (sg_A La s.heap.size) La s0 0 0 58 [(0, sg_r 0), (1, sg_i x1), (2, sg_i x2_58), (3, sg_i x3_58), (4, sg_i x4_9)] [] := by
          intro x2_58 x3_58 r2_58 r3_58 hf
          unfold fX11_nearestPart_j58 at hf
          refine gw_iinc F (z := (x4_9 + 1)) 4 rfl (by omega) (by decide) rfl dX11_nearestPart_58 ?_
          refine gw_goto F (tgt := 9) dX11_nearestPart_61 (by decide) ?_
          obtain ⟨g8, hf⟩ := hf
          refine gw_sub [1, 2, 3, 4, 0] rfl ?_
          exact ih x2_58 x3_58 (x4_9 + 1) r2_58 r3_58 g8 hf
        refine gw_if_le F (tgt := 58) dX11_nearestPart_43 (by decide) h6 (fun c9 => ?_) (fun c9 => ?_)
        · have hf := hf.1 c9
          refine gw_sub [2, 3, 4, 5, 6] rfl ?_
          exact J58 x2_9 x3_9 r2_9 r3_9 hf
        · have hf := hf.2 c9
          refine gw_iload F 0 rfl dX11_nearestPart_46 ?_
          refine gw_iload_n F 5 rfl rfl dX11_nearestPart_48 ?_
          obtain ⟨g10, hf⟩ := hf
          refine gw_icmp_ge F (tgt := 58) dX11_nearestPart_49 (by decide) g10 r3_9 (fun c11 => ?_) (fun c11 => ?_)
          · have hf := hf.1 c11
            refine gw_sub [2, 3, 4, 5, 6] rfl ?_
            exact J58 x2_9 x3_9 r2_9 r3_9 hf
          · have hf := hf.2 c11
            refine gw_iload F 6 rfl dX11_nearestPart_52 ?_
            refine gw_istore_n F rfl (by decide) rfl dX11_nearestPart_54 ?_
            refine gw_iload F 1 rfl dX11_nearestPart_55 ?_
            refine gw_istore_n F rfl (by decide) rfl dX11_nearestPart_57 ?_
            refine gw_sub [4, 5, 1, 0, 6] rfl ?_
            exact J58 x4_9 (sg_abs (u5 - x1)) r4_9 g10 hf
  obtain ⟨n12, hf⟩ := hf
  refine gw_sub [3, 4, 2, 1, 0] rfl ?_
  refine L9   n12 0 4000 0 (by decide) (by decide) (by decide) hf

theorem dX11_even_0 : decode cX11_even 0 = .ok (.iload_n 3, 1) := by decide +kernel
theorem dX11_even_1 : decode cX11_even 1 = .ok (.iconst 1, 1) := by decide +kernel
theorem dX11_even_2 : decode cX11_even 2 = .ok (.if_icmp .lt 9, 3) := by decide +kernel
theorem dX11_even_5 : decode cX11_even 5 = .ok (.iload_n 3, 1) := by decide +kernel
theorem dX11_even_6 : decode cX11_even 6 = .ok (.bipush 20, 2) := by decide +kernel
theorem dX11_even_8 : decode cX11_even 8 = .ok (.if_icmp .le 5, 3) := by decide +kernel
theorem dX11_even_11 : decode cX11_even 11 = .ok (.iconst (-1), 1) := by decide +kernel
theorem dX11_even_12 : decode cX11_even 12 = .ok (.ireturn, 1) := by decide +kernel
theorem dX11_even_13 : decode cX11_even 13 = .ok (.aload_n 0, 1) := by decide +kernel
theorem dX11_even_14 : decode cX11_even 14 = .ok (.invokevirtual 251, 3) := by decide +kernel
theorem dX11_even_17 : decode cX11_even 17 = .ok (.aload_n 0, 1) := by decide +kernel
theorem dX11_even_18 : decode cX11_even 18 = .ok (.getfield 93, 3) := by decide +kernel
theorem dX11_even_21 : decode cX11_even 21 = .ok (.iload_n 1, 1) := by decide +kernel
theorem dX11_even_22 : decode cX11_even 22 = .ok (.invokevirtual 182, 3) := by decide +kernel
theorem dX11_even_25 : decode cX11_even 25 = .ok (.istore 4, 2) := by decide +kernel
theorem dX11_even_27 : decode cX11_even 27 = .ok (.aload_n 0, 1) := by decide +kernel
theorem dX11_even_28 : decode cX11_even 28 = .ok (.getfield 93, 3) := by decide +kernel
theorem dX11_even_31 : decode cX11_even 31 = .ok (.iload_n 2, 1) := by decide +kernel
theorem dX11_even_32 : decode cX11_even 32 = .ok (.invokevirtual 182, 3) := by decide +kernel
theorem dX11_even_35 : decode cX11_even 35 = .ok (.istore 5, 2) := by decide +kernel
theorem dX11_even_37 : decode cX11_even 37 = .ok (.iload 4, 2) := by decide +kernel
theorem dX11_even_39 : decode cX11_even 39 = .ok (.iconst 1, 1) := by decide +kernel
theorem dX11_even_40 : decode cX11_even 40 = .ok (.if_icmp .lt 9, 3) := by decide +kernel
theorem dX11_even_43 : decode cX11_even 43 = .ok (.iload 5, 2) := by decide +kernel
theorem dX11_even_45 : decode cX11_even 45 = .ok (.iconst 1, 1) := by decide +kernel
theorem dX11_even_46 : decode cX11_even 46 = .ok (.if_icmp .ge 5, 3) := by decide +kernel
theorem dX11_even_49 : decode cX11_even 49 = .ok (.iconst (-1), 1) := by decide +kernel
theorem dX11_even_50 : decode cX11_even 50 = .ok (.ireturn, 1) := by decide +kernel
theorem dX11_even_51 : decode cX11_even 51 = .ok (.aload_n 0, 1) := by decide +kernel
theorem dX11_even_52 : decode cX11_even 52 = .ok (.iload_n 1, 1) := by decide +kernel
theorem dX11_even_53 : decode cX11_even 53 = .ok (.iload_n 2, 1) := by decide +kernel
theorem dX11_even_54 : decode cX11_even 54 = .ok (.invokevirtual 280, 3) := by decide +kernel
theorem dX11_even_57 : decode cX11_even 57 = .ok (.aload_n 0, 1) := by decide +kernel
theorem dX11_even_58 : decode cX11_even 58 = .ok (.getfield 87, 3) := by decide +kernel
theorem dX11_even_61 : decode cX11_even 61 = .ok (.invokevirtual 271, 3) := by decide +kernel
theorem dX11_even_64 : decode cX11_even 64 = .ok (.iconst 0, 1) := by decide +kernel
theorem dX11_even_65 : decode cX11_even 65 = .ok (.istore 6, 2) := by decide +kernel
theorem dX11_even_67 : decode cX11_even 67 = .ok (.iconst 0, 1) := by decide +kernel
theorem dX11_even_68 : decode cX11_even 68 = .ok (.istore 7, 2) := by decide +kernel
theorem dX11_even_70 : decode cX11_even 70 = .ok (.iload 7, 2) := by decide +kernel
theorem dX11_even_72 : decode cX11_even 72 = .ok (.iload_n 3, 1) := by decide +kernel
theorem dX11_even_73 : decode cX11_even 73 = .ok (.if_icmp .gt 69, 3) := by decide +kernel
theorem dX11_even_76 : decode cX11_even 76 = .ok (.aload_n 0, 1) := by decide +kernel
theorem dX11_even_77 : decode cX11_even 77 = .ok (.getfield 87, 3) := by decide +kernel
theorem dX11_even_80 : decode cX11_even 80 = .ok (.aload_n 0, 1) := by decide +kernel
theorem dX11_even_81 : decode cX11_even 81 = .ok (.iload 4, 2) := by decide +kernel
theorem dX11_even_83 : decode cX11_even 83 = .ok (.iload 5, 2) := by decide +kernel
theorem dX11_even_85 : decode cX11_even 85 = .ok (.iload 4, 2) := by decide +kernel
theorem dX11_even_87 : decode cX11_even 87 = .ok (.isub, 1) := by decide +kernel
theorem dX11_even_88 : decode cX11_even 88 = .ok (.iload 7, 2) := by decide +kernel
theorem dX11_even_90 : decode cX11_even 90 = .ok (.imul, 1) := by decide +kernel
theorem dX11_even_91 : decode cX11_even 91 = .ok (.iload_n 3, 1) := by decide +kernel
theorem dX11_even_92 : decode cX11_even 92 = .ok (.idiv, 1) := by decide +kernel
theorem dX11_even_93 : decode cX11_even 93 = .ok (.iadd, 1) := by decide +kernel
theorem dX11_even_94 : decode cX11_even 94 = .ok (.invokevirtual 283, 3) := by decide +kernel
theorem dX11_even_97 : decode cX11_even 97 = .ok (.invokevirtual 278, 3) := by decide +kernel
theorem dX11_even_100 : decode cX11_even 100 = .ok (.iload 7, 2) := by decide +kernel
theorem dX11_even_102 : decode cX11_even 102 = .ok (.ifCond .le 34, 3) := by decide +kernel
theorem dX11_even_105 : decode cX11_even 105 = .ok (.iload 6, 2) := by decide +kernel
theorem dX11_even_107 : decode cX11_even 107 = .ok (.aload_n 0, 1) := by decide +kernel
theorem dX11_even_108 : decode cX11_even 108 = .ok (.getfield 87, 3) := by decide +kernel
theorem dX11_even_111 : decode cX11_even 111 = .ok (.iload 7, 2) := by decide +kernel
theorem dX11_even_113 : decode cX11_even 113 = .ok (.invokevirtual 182, 3) := by decide +kernel
theorem dX11_even_116 : decode cX11_even 116 = .ok (.aload_n 0, 1) := by decide +kernel
theorem dX11_even_117 : decode cX11_even 117 = .ok (.getfield 87, 3) := by decide +kernel
theorem dX11_even_120 : decode cX11_even 120 = .ok (.iload 7, 2) := by decide +kernel
theorem dX11_even_122 : decode cX11_even 122 = .ok (.iconst 1, 1) := by decide +kernel
theorem dX11_even_123 : decode cX11_even 123 = .ok (.isub, 1) := by decide +kernel
theorem dX11_even_124 : decode cX11_even 124 = .ok (.invokevirtual 182, 3) := by decide +kernel
theorem dX11_even_127 : decode cX11_even 127 = .ok (.isub, 1) := by decide +kernel
theorem dX11_even_128 : decode cX11_even 128 = .ok (.invokestatic 286, 3) := by decide +kernel
theorem dX11_even_131 : decode cX11_even 131 = .ok (.invokestatic 291, 3) := by decide +kernel
theorem dX11_even_134 : decode cX11_even 134 = .ok (.istore 6, 2) := by decide +kernel
theorem dX11_even_136 : decode cX11_even 136 = .ok (.iinc 7 1, 3) := by decide +kernel
theorem dX11_even_139 : decode cX11_even 139 = .ok (.goto (-69), 3) := by decide +kernel
theorem dX11_even_142 : decode cX11_even 142 = .ok (.iload 6, 2) := by decide +kernel
theorem dX11_even_144 : decode cX11_even 144 = .ok (.ireturn, 1) := by decide +kernel
theorem hcX11_even : yX11_even.cls ≠ "java/lang/invoke/MethodHandle" ∧ yX11_even.cls ≠ "java/lang/invoke/VarHandle" ∧ (parseMethodDescriptor yX11_even.desc).map (fun d => d.parameters.length) = some 3 := ⟨by decide +kernel, by decide +kernel, by decide +kernel⟩
def fX11_even_j136 (x7_70 : Int) (s22 : sg_M) (k70 : sg_M → Int → Int → Prop) (x6_136 : Int) : Prop := sg_R (x7_70 + 1) ∧ k70 s22 x6_136 (x7_70 + 1)
def fX11_even_L70 (La : sg_L) (x3 : Int) (u5 : Int) (u8 : Int) (Q : Int → sg_M → Prop) : Nat → sg_M → Int → Int → Prop
  | 0, _, _, _ => False
  | n_70 + 1, s_70, x6_70, x7_70 => ((x3 < x7_70 → Q x6_70 s_70) ∧ (¬ (x3 < x7_70) → sg_R ((u8 - u5) * x7_70) ∧ (x3 ≠ 0) ∧ sg_R (u5 + (Int.tdiv ((u8 - u5) * x7_70) x3)) ∧ fX11_nearestPart La s_70 (u5 + (Int.tdiv ((u8 - u5) * x7_70) x3)) (fun u20 => fX4_add La s_70 54 u20 (fun s22 => ((x7_70 ≤ 0 → (fX11_even_j136 x7_70 s22 (fX11_even_L70 La x3 u5 u8 Q n_70)) x6_70) ∧ (¬ (x7_70 ≤ 0) → fX4_at La s22 54 x7_70 (fun u26 => sg_R (x7_70 - 1) ∧ fX4_at La s22 54 (x7_70 - 1) (fun u30 => sg_R (u26 - u30) ∧ sg_R (sg_abs (u26 - u30)) ∧ ∀ v34 : Int, v34 = (sg_max x6_70 (sg_abs (u26 - u30))) → sg_R v34 ∧ (fX11_even_j136 x7_70 s22 (fX11_even_L70 La x3 u5 u8 Q n_70)) v34))))))))
def fX11_even (La : sg_L) (s0 : sg_M) (x1 : Int) (x2 : Int) (x3 : Int) (Q : Int → sg_M → Prop) : Prop := ((x3 < 1 → Q (-1) s0) ∧ (¬ (x3 < 1) → ((x3 ≤ 20 → fX11_hearBook La s0 (fun s3 => fX4_at La s3 58 x1 (fun u5 => fX4_at La s3 58 x2 (fun u8 => ((u5 < 1 → Q (-1) s3) ∧ (¬ (u5 < 1) → ((1 ≤ u8 → fX11_hearParts La s3 x1 x2 (fun s12 => fX4_clear s12 54 (fun s14 => (∃ n37 : Nat, fX11_even_L70 La x3 u5 u8 Q n37 s14 0 0)))) ∧ (¬ (1 ≤ u8) → Q (-1) s3)))))))) ∧ (¬ (x3 ≤ 20) → Q (-1) s0))))
set_option maxHeartbeats 4000000 in
set_option maxRecDepth 100000 in
theorem CX11_even {l : Launch} {G : sg_G} {La : sg_L} {s0 : sg_M} (hst : sg_St La) {x1 : Int} (r1 : sg_R x1) {x2 : Int} (r2 : sg_R x2) {x3 : Int} (r3 : sg_R x3) {Q : Int → sg_M → Prop} (hf : fX11_even La s0 x1 x2 x3 Q) : sg_C l G yX11_even cX11_even 8 (some .int) 7 0 0 La s0 [sg_r 0, sg_i x1, sg_i x2, sg_i x3] (sg_HI La Q) := by
  refine sg_body (by decide +kernel) (Nat.le_of_ble_eq_true rfl) ?_
  intro p e s m args below meth c F hnm
  unfold fX11_even at hf
  show sg_W p l e (sg_rm 7 0 0) s m args below meth c (MQ below (sg_Q (some .int) G La s.heap.size (sg_HI La Q)) args s 0 0 (sg_A La s.heap.size)) 8 G (sg_A La s.heap.size) La s0 0 0 0 [(0, sg_r 0), (1, sg_i x1), (2, sg_i x2), (3, sg_i x3)] []
  refine gw_iload_n F 3 rfl rfl dX11_even_0 ?_
  refine gw_iconst F dX11_even_1 ?_
  refine gw_icmp_lt F (tgt := 11) dX11_even_2 (by decide) r3 (by decide) (fun c1 => ?_) (fun c1 => ?_)
  · have hf := hf.1 c1
    refine gw_iconst F dX11_even_11 ?_
    exact gr_HI F (by decide) hf (by decide) (by decide) dX11_even_12
  · have hf := hf.2 c1
    refine gw_iload_n F 3 rfl rfl dX11_even_5 ?_
    refine gw_bipush F rfl dX11_even_6 ?_
    refine gw_icmp_le F (tgt := 13) dX11_even_8 (by decide) r3 (by decide) (fun c2 => ?_) (fun c2 => ?_)
    · have hf := hf.1 c2
      refine gw_aload_n F 0 rfl rfl (by decide) dX11_even_13 ?_
      refine gk_HV F (gc_V F (S := []) (As := []) (T := TX11) (N := 19) (CX11_hearBook hst hf) (so_0 hst) (by decide) rfl kw_651 kw_90 kw_649 kw_650 kw_19 hcX11_hearBook ⟨by decide, by decide⟩ rfl rfl (Nat.le_of_ble_eq_true rfl) ⟨by decide, by decide⟩ dX11_even_14) (fun s3 hf => ?_)
      refine gw_aload_n F 0 rfl rfl (by decide) dX11_even_17 ?_
      refine gw_get7 F (so_0 hst) (by decide) rfl sg_lay_RX11 (j := 13) (by decide) (o1 := 58) (by first | rfl | omega) rfl (host := "") (.inl kw_339) dX11_even_18 (fun h4 => ?_)
      refine gw_iload_n F 1 rfl rfl dX11_even_21 ?_
      refine gk_PI F (gc_V F (S := []) (As := [sg_i x1]) (T := TX4) (N := 3) (CX4_at (so_58 hst) r1 hf) (so_58 hst) (by decide) rfl kw_546 kw_97 kw_543 kw_544 kw_545 hcX4_at ⟨by decide, by decide⟩ rfl rfl (Nat.le_of_ble_eq_true rfl) ⟨by decide, by decide⟩ dX11_even_22) (fun u5 h6 hf => ?_)
      refine gw_istore F (by decide) rfl dX11_even_25 ?_
      refine gw_aload_n F 1 rfl rfl (by decide) dX11_even_27 ?_
      refine gw_get7 F (so_0 hst) (by decide) rfl sg_lay_RX11 (j := 13) (by decide) (o1 := 58) (by first | rfl | omega) rfl (host := "") (.inl kw_339) dX11_even_28 (fun h7 => ?_)
      refine gw_iload_n F 3 rfl rfl dX11_even_31 ?_
      refine gk_PI F (gc_V F (S := []) (As := [sg_i x2]) (T := TX4) (N := 3) (CX4_at (so_58 hst) r2 hf) (so_58 hst) (by decide) rfl kw_546 kw_97 kw_543 kw_544 kw_545 hcX4_at ⟨by decide, by decide⟩ rfl rfl (Nat.le_of_ble_eq_true rfl) ⟨by decide, by decide⟩ dX11_even_32) (fun u8 h9 hf => ?_)
      refine gw_istore F (by decide) rfl dX11_even_35 ?_
      refine gw_iload F 1 rfl dX11_even_37 ?_
      refine gw_iconst F dX11_even_39 ?_
      refine gw_icmp_lt F (tgt := 49) dX11_even_40 (by decide) h6 (by decide) (fun c10 => ?_) (fun c10 => ?_)
      · have hf := hf.1 c10
        refine gw_iconst F dX11_even_49 ?_
        exact gr_HI F (by decide) hf (by decide) (by decide) dX11_even_50
      · have hf := hf.2 c10
        refine gw_iload F 0 rfl dX11_even_43 ?_
        refine gw_iconst F dX11_even_45 ?_
        refine gw_icmp_ge F (tgt := 51) dX11_even_46 (by decide) h9 (by decide) (fun c11 => ?_) (fun c11 => ?_)
        · have hf := hf.1 c11
          refine gw_aload_n F 2 rfl rfl (by decide) dX11_even_51 ?_
          refine gw_iload_n F 3 rfl rfl dX11_even_52 ?_
          refine gw_iload_n F 4 rfl rfl dX11_even_53 ?_
          refine gk_HV F (gc_V F (S := []) (As := [sg_i x1, sg_i x2]) (T := TX11) (N := 19) (CX11_hearParts hst r1 r2 hf) (so_0 hst) (by decide) rfl kw_736 kw_90 kw_734 kw_735 kw_26 hcX11_hearParts ⟨by decide, by decide⟩ rfl rfl (Nat.le_of_ble_eq_true rfl) ⟨by decide, by decide⟩ dX11_even_54) (fun s12 hf => ?_)
          refine gw_aload_n F 2 rfl rfl (by decide) dX11_even_57 ?_
          refine gw_get7 F (so_0 hst) (by decide) rfl sg_lay_RX11 (j := 11) (by decide) (o1 := 54) (by first | rfl | omega) rfl (host := "") (.inl kw_337) dX11_even_58 (fun h13 => ?_)
          refine gk_HV F (gc_V F (S := []) (As := []) (T := TX4) (N := 3) (CX4_clear (so_54 hst) hf) (so_54 hst) (by decide) rfl kw_531 kw_97 kw_652 kw_529 kw_530 hcX4_clear ⟨by decide, by decide⟩ rfl rfl (Nat.le_of_ble_eq_true rfl) ⟨by decide, by decide⟩ dX11_even_61) (fun s14 hf => ?_)
          refine gw_iconst F dX11_even_64 ?_
          refine gw_istore F (by decide) rfl dX11_even_65 ?_
          refine gw_iconst F dX11_even_67 ?_
          refine gw_istore F (by decide) rfl dX11_even_68 ?_
          have L70 : ∀ n_70 : Nat, ∀ (s_70 : sg_M) (x6_70 : Int) (x7_70 : Int), sg_R x6_70 → sg_R x7_70 → fX11_even_L70 La x3 u5 u8 Q n_70 s_70 x6_70 x7_70 → sg_W p l e (sg_rm 7 0 0) s m args below meth c (MQ below (sg_Q (some .int) G La s.heap.size (sg_HI La Q)) args s 0 0 (sg_A La s.heap.size)) 8 G (sg_A La s.heap.size) La s_70 0 0 70 [(0, sg_r 0), (3, sg_i x3), (4, sg_i u5), (5, sg_i u8), (6, sg_i x6_70), (7, sg_i x7_70)] [] := by
            intro n_70
            induction n_70 with
            | zero => intro s_70 x6_70 x7_70 r6_70 r7_70 hf; exact hf.elim
            | succ n_70 ih =>
              intro s_70 x6_70 x7_70 r6_70 r7_70 hf
              unfold fX11_even_L70 at hf
              refine gw_iload F 5 rfl dX11_even_70 ?_
              refine gw_iload_n F 1 rfl rfl dX11_even_72 ?_
              refine gw_icmp_gt F (tgt := 142) dX11_even_73 (by decide) r7_70 r3 (fun c15 => ?_) (fun c15 => ?_)
              · have hf := hf.1 c15
                refine gw_iload F 4 rfl dX11_even_142 ?_
                exact gr_HI F r6_70 hf (by decide) (by decide) dX11_even_144
              · have hf := hf.2 c15
                refine gw_aload_n F 0 rfl rfl (by decide) dX11_even_76 ?_
                refine gw_get7 F (so_0 hst) (by decide) rfl sg_lay_RX11 (j := 11) (by decide) (o1 := 54) (by first | rfl | omega) rfl (host := "") (.inl kw_337) dX11_even_77 (fun h16 => ?_)
                refine gw_aload_n F 0 rfl rfl (by decide) dX11_even_80 ?_
                refine gw_iload F 2 rfl dX11_even_81 ?_
                refine gw_iload F 3 rfl dX11_even_83 ?_
                refine gw_iload F 2 rfl dX11_even_85 ?_
                refine gw_isub F rfl dX11_even_87 ?_
                refine gw_iload F 5 rfl dX11_even_88 ?_
                refine gw_imul F rfl dX11_even_90 ?_
                refine gw_iload_n F 1 rfl rfl dX11_even_91 ?_
                obtain ⟨g17, hf⟩ := hf
                obtain ⟨g18, hf⟩ := hf
                refine gw_idiv F g17 r3 g18 rfl dX11_even_92 ?_
                refine gw_iadd F rfl dX11_even_93 ?_
                obtain ⟨g19, hf⟩ := hf
                refine gk_PI F (gc_V F (S := [sg_r 54]) (As := [sg_i (u5 + (Int.tdiv ((u8 - u5) * x7_70) x3))]) (T := TX11) (N := 19) (CX11_nearestPart hst g19 hf) (so_0 hst) (by decide) rfl kw_739 kw_90 kw_737 kw_738 kw_27 hcX11_nearestPart ⟨by decide, by decide⟩ rfl rfl (Nat.le_of_ble_eq_true rfl) ⟨by decide, by decide⟩ dX11_even_94) (fun u20 h21 hf => ?_)
                refine gk_HV F (gc_V F (S := []) (As := [sg_i u20]) (T := TX4) (N := 3) (CX4_add (so_54 hst) h21 hf) (so_54 hst) (by decide) rfl kw_538 kw_97 kw_663 kw_536 kw_537 hcX4_add ⟨by decide, by decide⟩ rfl rfl (Nat.le_of_ble_eq_true rfl) ⟨by decide, by decide⟩ dX11_even_97) (fun s22 hf => ?_)
                refine gw_iload F 5 rfl dX11_even_100 ?_
                have J136 : ∀ (x6_136 : Int), sg_R x6_136 → (fX11_even_j136 x7_70 s22 (fX11_even_L70 La x3 u5 u8 Q n_70)) x6_136 → sg_W p l e (sg_rm 7 0 0) s m args below meth c (MQ below (sg_Q (some .int) G La s.heap.size (sg_HI La Q)) args s 0 0 (sg_A La s.heap.size)) 8 G (sg_A La s.heap.size) La s22 0 0 136 [(0, sg_r 0), (3, sg_i x3), (4, sg_i u5), (5, sg_i u8), (6, sg_i x6_136), (7, sg_i x7_70)] [] := by
                  intro x6_136 r6_136 hf
                  unfold fX11_even_j136 at hf
                  refine gw_iinc F (z := (x7_70 + 1)) 5 rfl (by omega) (by decide) rfl dX11_even_136 ?_
                  refine gw_goto F (tgt := 70) dX11_even_139 (by decide) ?_
                  obtain ⟨g23, hf⟩ := hf
                  refine gw_sub [1, 2, 3, 4, 5, 0] rfl ?_
                  exact ih s22 x6_136 (x7_70 + 1) r6_136 g23 hf
                refine gw_if_le F (tgt := 136) dX11_even_102 (by decide) r7_70 (fun c24 => ?_) (fun c24 => ?_)
                · have hf := hf.1 c24
                  refine gw_sub [0, 1, 2, 3, 4, 5] rfl ?_
                  exact J136 x6_70 r6_70 hf
                · have hf := hf.2 c24
                  refine gw_iload F 4 rfl dX11_even_105 ?_
                  refine gw_aload_n F 0 rfl rfl (by decide) dX11_even_107 ?_
                  refine gw_get7 F (so_0 hst) (by decide) rfl sg_lay_RX11 (j := 11) (by decide) (o1 := 54) (by first | rfl | omega) rfl (host := "") (.inl kw_337) dX11_even_108 (fun h25 => ?_)
                  refine gw_iload F 5 rfl dX11_even_111 ?_
                  refine gk_PI F (gc_V F (S := [sg_i x6_70]) (As := [sg_i x7_70]) (T := TX4) (N := 3) (CX4_at (so_54 hst) r7_70 hf) (so_54 hst) (by decide) rfl kw_546 kw_97 kw_543 kw_544 kw_545 hcX4_at ⟨by decide, by decide⟩ rfl rfl (Nat.le_of_ble_eq_true rfl) ⟨by decide, by decide⟩ dX11_even_113) (fun u26 h27 hf => ?_)
                  refine gw_aload_n F 0 rfl rfl (by decide) dX11_even_116 ?_
                  refine gw_get7 F (so_0 hst) (by decide) rfl sg_lay_RX11 (j := 11) (by decide) (o1 := 54) (by first | rfl | omega) rfl (host := "") (.inl kw_337) dX11_even_117 (fun h28 => ?_)
                  refine gw_iload F 5 rfl dX11_even_120 ?_
                  refine gw_iconst F dX11_even_122 ?_
                  refine gw_isub F rfl dX11_even_123 ?_
                  obtain ⟨g29, hf⟩ := hf
                  refine gk_PI F (gc_V F (S := [sg_i u26, sg_i x6_70]) (As := [sg_i (x7_70 - 1)]) (T := TX4) (N := 3) (CX4_at (so_54 hst) g29 hf) (so_54 hst) (by decide) rfl kw_546 kw_97 kw_543 kw_544 kw_545 hcX4_at ⟨by decide, by decide⟩ rfl rfl (Nat.le_of_ble_eq_true rfl) ⟨by decide, by decide⟩ dX11_even_124) (fun u30 h31 hf => ?_)
                  refine gw_isub F rfl dX11_even_127 ?_
                  obtain ⟨g32, hf⟩ := hf
                  refine gw_abs F g32 rfl kw_697 kw_abs1 kw_math kw_abs2 (Nat.le_of_ble_eq_true rfl) (by decide) (by decide) (by decide) (by decide) dX11_even_128 ?_
                  obtain ⟨g33, hf⟩ := hf
                  refine gw_max F r6_70 g33 rfl kw_523 kw_max1 kw_math kw_max2 (Nat.le_of_ble_eq_true rfl) (by decide) (by decide) (by decide) (by decide) dX11_even_131 ?_
                  obtain ⟨v34, e35⟩ : ∃ z : Int, z = (sg_max x6_70 (sg_abs (u26 - u30))) := ⟨_, rfl⟩
                  obtain ⟨g36, hf⟩ := hf v34 e35
                  refine gw_nmI e35 ?_
                  refine gw_istore F (by decide) rfl dX11_even_134 ?_
                  refine gw_sub [1, 2, 3, 4, 0, 5] rfl ?_
                  exact J136 v34 g36 hf
          obtain ⟨n37, hf⟩ := hf
          refine gw_sub [4, 7, 3, 2, 1, 0] rfl ?_
          refine L70   n37 s14 0 0 (by decide) (by decide) hf
        · have hf := hf.2 c11
          refine gw_iconst F dX11_even_49 ?_
          exact gr_HI F (by decide) hf (by decide) (by decide) dX11_even_50
    · have hf := hf.2 c2
      refine gw_iconst F dX11_even_11 ?_
      exact gr_HI F (by decide) hf (by decide) (by decide) dX11_even_12

theorem dX1_strain_0 : decode cX1_strain 0 = .ok (.aload_n 0, 1) := by decide +kernel
theorem dX1_strain_1 : decode cX1_strain 1 = .ok (.iload_n 3, 1) := by decide +kernel
theorem dX1_strain_2 : decode cX1_strain 2 = .ok (.invokevirtual 38, 3) := by decide +kernel
theorem dX1_strain_5 : decode cX1_strain 5 = .ok (.ifCond .eq 23, 3) := by decide +kernel
theorem dX1_strain_8 : decode cX1_strain 8 = .ok (.aload_n 0, 1) := by decide +kernel
theorem dX1_strain_9 : decode cX1_strain 9 = .ok (.iload_n 1, 1) := by decide +kernel
theorem dX1_strain_10 : decode cX1_strain 10 = .ok (.iload_n 2, 1) := by decide +kernel
theorem dX1_strain_11 : decode cX1_strain 11 = .ok (.iload_n 3, 1) := by decide +kernel
theorem dX1_strain_12 : decode cX1_strain 12 = .ok (.invokevirtual 50, 3) := by decide +kernel
theorem dX1_strain_15 : decode cX1_strain 15 = .ok (.invokestatic 54, 3) := by decide +kernel
theorem dX1_strain_18 : decode cX1_strain 18 = .ok (.aload_n 0, 1) := by decide +kernel
theorem dX1_strain_19 : decode cX1_strain 19 = .ok (.getfield 15, 3) := by decide +kernel
theorem dX1_strain_22 : decode cX1_strain 22 = .ok (.iload_n 3, 1) := by decide +kernel
theorem dX1_strain_23 : decode cX1_strain 23 = .ok (.iaload, 1) := by decide +kernel
theorem dX1_strain_24 : decode cX1_strain 24 = .ok (.imul, 1) := by decide +kernel
theorem dX1_strain_25 : decode cX1_strain 25 = .ok (.goto 4, 3) := by decide +kernel
theorem dX1_strain_28 : decode cX1_strain 28 = .ok (.iconst 0, 1) := by decide +kernel
theorem dX1_strain_29 : decode cX1_strain 29 = .ok (.ireturn, 1) := by decide +kernel
theorem hcX1_strain : yX1_strain.cls ≠ "java/lang/invoke/MethodHandle" ∧ yX1_strain.cls ≠ "java/lang/invoke/VarHandle" ∧ (parseMethodDescriptor yX1_strain.desc).map (fun d => d.parameters.length) = some 3 := ⟨by decide +kernel, by decide +kernel, by decide +kernel⟩
def fX1_strain (s0 : sg_M) (o : Int) (x1 : Int) (x2 : Int) (x3 : Int) (Q : Int → Prop) : Prop := fX1_has s0 o x3 (fun u1 => ((u1 = 0 → Q 0) ∧ (¬ (u1 = 0) → fX1_curve s0 o x1 x2 x3 (fun u4 => (0 ≤ x3 ∧ x3 < 60) ∧ sg_R ((sg_abs u4) * (s0 (o + 2) x3)) ∧ Q ((sg_abs u4) * (s0 (o + 2) x3))))))
set_option maxHeartbeats 4000000 in
set_option maxRecDepth 100000 in
theorem CX1_strain {l : Launch} {G : sg_G} {La : sg_L} {s0 : sg_M} {o : Int} (to : sg_O La o 1) {x1 : Int} (r1 : sg_R x1) {x2 : Int} (r2 : sg_R x2) {x3 : Int} (r3 : sg_R x3) {Q : Int → Prop} (hf : fX1_strain s0 o x1 x2 x3 Q) : sg_C l G yX1_strain cX1_strain 4 (some .int) 4 0 0 La s0 [sg_r o, sg_i x1, sg_i x2, sg_i x3] (sg_PI La s0 Q) := by
  refine sg_body (by decide +kernel) (Nat.le_of_ble_eq_true rfl) ?_
  intro p e s m args below meth c F hnm
  unfold fX1_strain at hf
  show sg_W p l e (sg_rm 4 0 0) s m args below meth c (MQ below (sg_Q (some .int) G La s.heap.size (sg_PI La s0 Q)) args s 0 0 (sg_A La s.heap.size)) 4 G (sg_A La s.heap.size) La s0 0 0 0 [(0, sg_r o), (1, sg_i x1), (2, sg_i x2), (3, sg_i x3)] []
  refine gw_aload_n F 0 rfl rfl to.1 dX1_strain_0 ?_
  refine gw_iload_n F 3 rfl rfl dX1_strain_1 ?_
  refine gk_PZ F (gc_V F (S := []) (As := [sg_i x3]) (T := TX1) (N := 7) (CX1_has to r3 hf) to (by decide) rfl kw_518 kw_94 kw_515 kw_516 kw_517 hcX1_has ⟨by decide, by decide⟩ rfl rfl (Nat.le_of_ble_eq_true rfl) ⟨by decide, by decide⟩ dX1_strain_2) (fun u1 h2 hf => ?_)
  refine gw_if_eq F (tgt := 28) dX1_strain_5 (by decide) (sg_B_R h2) (fun c3 => ?_) (fun c3 => ?_)
  · have hf := hf.1 c3
    refine gw_iconst F dX1_strain_28 ?_
    exact gr_PI F (by decide) hf (by decide) (by decide) dX1_strain_29
  · have hf := hf.2 c3
    refine gw_aload_n F 0 rfl rfl to.1 dX1_strain_8 ?_
    refine gw_iload_n F 1 rfl rfl dX1_strain_9 ?_
    refine gw_iload_n F 2 rfl rfl dX1_strain_10 ?_
    refine gw_iload_n F 3 rfl rfl dX1_strain_11 ?_
    refine gk_PI F (gc_V F (S := []) (As := [sg_i x1, sg_i x2, sg_i x3]) (T := TX1) (N := 7) (CX1_curve to r1 r2 r3 hf) to (by decide) rfl kw_511 kw_94 kw_942 kw_509 kw_510 hcX1_curve ⟨by decide, by decide⟩ rfl rfl (Nat.le_of_ble_eq_true rfl) ⟨by decide, by decide⟩ dX1_strain_12) (fun u4 h5 hf => ?_)
    refine gw_abs F h5 rfl kw_943 kw_abs1 kw_math kw_abs2 (Nat.le_of_ble_eq_true rfl) (by decide) (by decide) (by decide) (by decide) dX1_strain_15 ?_
    refine gw_aload_n F 0 rfl rfl to.1 dX1_strain_18 ?_
    refine gw_get3 F to (by decide) rfl sg_lay_RX1 (j := 1) (by decide) (o1 := (o + 2)) (by first | rfl | omega) rfl (host := "") (.inl kw_159) dX1_strain_19 (fun h6 => ?_)
    refine gw_iload_n F 3 rfl rfl dX1_strain_22 ?_
    obtain ⟨⟨b70, b71⟩, hf⟩ := hf
    refine gw_iald F (sg_AN_of (sg_O_of h6 (by decide)) (by decide) (by decide) (by decide)) b70 b71 dX1_strain_23 (fun h8 => ?_)
    refine gw_imul F rfl dX1_strain_24 ?_
    refine gw_goto F (tgt := 29) dX1_strain_25 (by decide) ?_
    obtain ⟨g9, hf⟩ := hf
    exact gr_PI F g9 hf (by decide) (by decide) dX1_strain_29

theorem dX8_append_0 : decode cX8_append 0 = .ok (.bipush 24, 2) := by decide +kernel
theorem dX8_append_2 : decode cX8_append 2 = .ok (.istore_n 2, 1) := by decide +kernel
theorem dX8_append_3 : decode cX8_append 3 = .ok (.iload_n 2, 1) := by decide +kernel
theorem dX8_append_4 : decode cX8_append 4 = .ok (.ifCond .lt 54, 3) := by decide +kernel
theorem dX8_append_7 : decode cX8_append 7 = .ok (.aload_n 0, 1) := by decide +kernel
theorem dX8_append_8 : decode cX8_append 8 = .ok (.getfield 15, 3) := by decide +kernel
theorem dX8_append_11 : decode cX8_append 11 = .ok (.ifCond .lt 41, 3) := by decide +kernel
theorem dX8_append_14 : decode cX8_append 14 = .ok (.aload_n 0, 1) := by decide +kernel
theorem dX8_append_15 : decode cX8_append 15 = .ok (.getfield 15, 3) := by decide +kernel
theorem dX8_append_18 : decode cX8_append 18 = .ok (.aload_n 0, 1) := by decide +kernel
theorem dX8_append_19 : decode cX8_append 19 = .ok (.getfield 9, 3) := by decide +kernel
theorem dX8_append_22 : decode cX8_append 22 = .ok (.arraylength, 1) := by decide +kernel
theorem dX8_append_23 : decode cX8_append 23 = .ok (.if_icmp .ge 29, 3) := by decide +kernel
theorem dX8_append_26 : decode cX8_append 26 = .ok (.aload_n 0, 1) := by decide +kernel
theorem dX8_append_27 : decode cX8_append 27 = .ok (.getfield 9, 3) := by decide +kernel
theorem dX8_append_30 : decode cX8_append 30 = .ok (.aload_n 0, 1) := by decide +kernel
theorem dX8_append_31 : decode cX8_append 31 = .ok (.getfield 15, 3) := by decide +kernel
theorem dX8_append_34 : decode cX8_append 34 = .ok (.iload_n 1, 1) := by decide +kernel
theorem dX8_append_35 : decode cX8_append 35 = .ok (.iload_n 2, 1) := by decide +kernel
theorem dX8_append_36 : decode cX8_append 36 = .ok (.iushr, 1) := by decide +kernel
theorem dX8_append_37 : decode cX8_append 37 = .ok (.sipush 255, 3) := by decide +kernel
theorem dX8_append_40 : decode cX8_append 40 = .ok (.iand, 1) := by decide +kernel
theorem dX8_append_41 : decode cX8_append 41 = .ok (.iastore, 1) := by decide +kernel
theorem dX8_append_42 : decode cX8_append 42 = .ok (.aload_n 0, 1) := by decide +kernel
theorem dX8_append_43 : decode cX8_append 43 = .ok (.dup, 1) := by decide +kernel
theorem dX8_append_44 : decode cX8_append 44 = .ok (.getfield 15, 3) := by decide +kernel
theorem dX8_append_47 : decode cX8_append 47 = .ok (.iconst 1, 1) := by decide +kernel
theorem dX8_append_48 : decode cX8_append 48 = .ok (.iadd, 1) := by decide +kernel
theorem dX8_append_49 : decode cX8_append 49 = .ok (.putfield 15, 3) := by decide +kernel
theorem dX8_append_52 : decode cX8_append 52 = .ok (.iinc 2 (-8), 3) := by decide +kernel
theorem dX8_append_55 : decode cX8_append 55 = .ok (.goto (-52), 3) := by decide +kernel
theorem dX8_append_58 : decode cX8_append 58 = .ok (.return_, 1) := by decide +kernel
theorem hcX8_append : yX8_append.cls ≠ "java/lang/invoke/MethodHandle" ∧ yX8_append.cls ≠ "java/lang/invoke/VarHandle" ∧ (parseMethodDescriptor yX8_append.desc).map (fun d => d.parameters.length) = some 1 := ⟨by decide +kernel, by decide +kernel, by decide +kernel⟩
def fX8_append_j52 (x2_3 : Int) (k3 : sg_M → Int → Prop) (s_52 : sg_M) : Prop := sg_R (x2_3 - 8) ∧ k3 s_52 (x2_3 - 8)
def fX8_append_L3 (x1 : Int) (Q : sg_M → Prop) : Nat → sg_M → Int → Prop
  | 0, _, _ => False
  | n_3 + 1, s_3, x2_3 => ((x2_3 < 0 → Q s_3) ∧ (¬ (x2_3 < 0) → (((s_3 1 1) < 0 → (fX8_append_j52 x2_3 (fX8_append_L3 x1 Q n_3)) s_3) ∧ (¬ ((s_3 1 1) < 0) → sg_R 540 ∧ ((540 ≤ (s_3 1 1) → (fX8_append_j52 x2_3 (fX8_append_L3 x1 Q n_3)) s_3) ∧ (¬ (540 ≤ (s_3 1 1)) → (0 ≤ (s_3 1 1) ∧ (s_3 1 1) < 540) ∧ ∀ s12 : sg_M, s12 = sg_up s_3 2 (s_3 1 1) (sg_and (sg_ushr x1 x2_3) 255) → sg_R ((s12 1 1) + 1) ∧ ∀ s16 : sg_M, s16 = sg_up s12 1 1 ((s12 1 1) + 1) → (fX8_append_j52 x2_3 (fX8_append_L3 x1 Q n_3)) s16))))))
def fX8_append (s0 : sg_M) (x1 : Int) (Q : sg_M → Prop) : Prop := (∃ n18 : Nat, fX8_append_L3 x1 Q n18 s0 24)
set_option maxHeartbeats 4000000 in
set_option maxRecDepth 100000 in
theorem CX8_append {l : Launch} {G : sg_G} {La : sg_L} {s0 : sg_M} (hst : sg_St La) {x1 : Int} (r1 : sg_R x1) {Q : sg_M → Prop} (hf : fX8_append s0 x1 Q) : sg_C l G yX8_append cX8_append 3 (none) 1 0 0 La s0 [sg_r 1, sg_i x1] (sg_HV La Q) := by
  refine sg_body (by decide +kernel) (Nat.le_of_ble_eq_true rfl) ?_
  intro p e s m args below meth c F hnm
  unfold fX8_append at hf
  show sg_W p l e (sg_rm 1 0 0) s m args below meth c (MQ below (sg_Q (none) G La s.heap.size (sg_HV La Q)) args s 0 0 (sg_A La s.heap.size)) 3 G (sg_A La s.heap.size) La s0 0 0 0 [(0, sg_r 1), (1, sg_i x1)] []
  refine gw_bipush F rfl dX8_append_0 ?_
  refine gw_istore_n F rfl (by decide) rfl dX8_append_2 ?_
  have L3 : ∀ n_3 : Nat, ∀ (s_3 : sg_M) (x2_3 : Int), sg_R x2_3 → fX8_append_L3 x1 Q n_3 s_3 x2_3 → sg_W p l e (sg_rm 1 0 0) s m args below meth c (MQ below (sg_Q (none) G La s.heap.size (sg_HV La Q)) args s 0 0 (sg_A La s.heap.size)) 3 G (sg_A La s.heap.size) La s_3 0 0 3 [(0, sg_r 1), (1, sg_i x1), (2, sg_i x2_3)] [] := by
    intro n_3
    induction n_3 with
    | zero => intro s_3 x2_3 r2_3 hf; exact hf.elim
    | succ n_3 ih =>
      intro s_3 x2_3 r2_3 hf
      unfold fX8_append_L3 at hf
      refine gw_iload_n F 2 rfl rfl dX8_append_3 ?_
      refine gw_if_lt F (tgt := 58) dX8_append_4 (by decide) r2_3 (fun c1 => ?_) (fun c1 => ?_)
      · have hf := hf.1 c1
        exact gr_HV F hf (by decide) (by decide) dX8_append_58
      · have hf := hf.2 c1
        refine gw_aload_n F 0 rfl rfl (by decide) dX8_append_7 ?_
        refine gw_get0 F (so_1 hst) (by decide) rfl sg_lay_RX8 (j := 1) (by decide) rfl (host := "") (.inl kw_127) dX8_append_8 (fun h2 => ?_)
        have J52 : ∀ (s_52 : sg_M), (fX8_append_j52 x2_3 (fX8_append_L3 x1 Q n_3)) s_52 → sg_W p l e (sg_rm 1 0 0) s m args below meth c (MQ below (sg_Q (none) G La s.heap.size (sg_HV La Q)) args s 0 0 (sg_A La s.heap.size)) 3 G (sg_A La s.heap.size) La s_52 0 0 52 [(0, sg_r 1), (1, sg_i x1), (2, sg_i x2_3)] [] := by
          intro s_52 hf
          unfold fX8_append_j52 at hf
          refine gw_iinc F (z := (x2_3 - 8)) 2 rfl (by omega) (by decide) rfl dX8_append_52 ?_
          refine gw_goto F (tgt := 3) dX8_append_55 (by decide) ?_
          obtain ⟨g3, hf⟩ := hf
          refine gw_sub [1, 2, 0] rfl ?_
          exact ih s_52 (x2_3 - 8) g3 hf
        refine gw_if_lt F (tgt := 52) dX8_append_11 (by decide) h2 (fun c4 => ?_) (fun c4 => ?_)
        · have hf := hf.1 c4
          refine gw_sub [0, 1, 2] rfl ?_
          exact J52 s_3 hf
        · have hf := hf.2 c4
          refine gw_aload_n F 0 rfl rfl (by decide) dX8_append_14 ?_
          refine gw_get0 F (so_1 hst) (by decide) rfl sg_lay_RX8 (j := 1) (by decide) rfl (host := "") (.inl kw_127) dX8_append_15 (fun h5 => ?_)
          refine gw_aload_n F 0 rfl rfl (by decide) dX8_append_18 ?_
          refine gw_get3 F (so_1 hst) (by decide) rfl sg_lay_RX8 (j := 0) (by decide) (o1 := 2) (by first | rfl | omega) rfl (host := "") (.inl kw_126) dX8_append_19 (fun h6 => ?_)
          refine gw_alen F (sa_2 hst) dX8_append_22 ?_
          obtain ⟨g7, hf⟩ := hf
          refine gw_icmp_ge F (tgt := 52) dX8_append_23 (by decide) h5 g7 (fun c8 => ?_) (fun c8 => ?_)
          · have hf := hf.1 c8
            refine gw_sub [0, 1, 2] rfl ?_
            exact J52 s_3 hf
          · have hf := hf.2 c8
            refine gw_aload_n F 0 rfl rfl (by decide) dX8_append_26 ?_
            refine gw_get3 F (so_1 hst) (by decide) rfl sg_lay_RX8 (j := 0) (by decide) (o1 := 2) (by first | rfl | omega) rfl (host := "") (.inl kw_126) dX8_append_27 (fun h9 => ?_)
            refine gw_aload_n F 0 rfl rfl (by decide) dX8_append_30 ?_
            refine gw_get0 F (so_1 hst) (by decide) rfl sg_lay_RX8 (j := 1) (by decide) rfl (host := "") (.inl kw_127) dX8_append_31 (fun h10 => ?_)
            refine gw_iload_n F 1 rfl rfl dX8_append_34 ?_
            refine gw_iload_n F 2 rfl rfl dX8_append_35 ?_
            refine gw_iushr F rfl dX8_append_36 ?_
            refine gw_sipush F rfl dX8_append_37 ?_
            refine gw_iand F rfl dX8_append_40 ?_
            obtain ⟨⟨b110, b111⟩, hf⟩ := hf
            obtain ⟨s12, e13⟩ : ∃ z : sg_M, z = sg_up s_3 2 (s_3 1 1) (sg_and (sg_ushr x1 x2_3) 255) := ⟨_, rfl⟩
            have hf := hf s12 e13
            refine gw_iast F (sa_2 hst) b110 b111 (sg_and_R _ _) e13 dX8_append_41 ?_
            refine gw_aload_n F 0 rfl rfl (by decide) dX8_append_42 ?_
            refine gw_dup F rfl dX8_append_43 ?_
            refine gw_get0 F (so_1 hst) (by decide) rfl sg_lay_RX8 (j := 1) (by decide) rfl (host := "") (.inl kw_127) dX8_append_44 (fun h14 => ?_)
            refine gw_iconst F dX8_append_47 ?_
            refine gw_iadd F rfl dX8_append_48 ?_
            obtain ⟨g15, hf⟩ := hf
            obtain ⟨s16, e17⟩ : ∃ z : sg_M, z = sg_up s12 1 1 ((s12 1 1) + 1) := ⟨_, rfl⟩
            have hf := hf s16 e17
            refine gw_put0 F (so_1 hst) (by decide) rfl sg_lay_RX8 (j := 1) (by decide) g15 e17 tyX8_ok nmX8 rfl (tyX8_ok 1 (by decide)) rfl (host := "") (.inl kw_127) dX8_append_49 ?_
            refine gw_sub [0, 1, 2] rfl ?_
            exact J52 s16 hf
  obtain ⟨n18, hf⟩ := hf
  refine gw_sub [1, 2, 0] rfl ?_
  refine L3   n18 s0 24 (by decide) hf

theorem dX11_feed_0 : decode cX11_feed 0 = .ok (.aload_n 0, 1) := by decide +kernel
theorem dX11_feed_1 : decode cX11_feed 1 = .ok (.getfield 10, 3) := by decide +kernel
theorem dX11_feed_4 : decode cX11_feed 4 = .ok (.getfield 122, 3) := by decide +kernel
theorem dX11_feed_7 : decode cX11_feed 7 = .ok (.bipush 20, 2) := by decide +kernel
theorem dX11_feed_9 : decode cX11_feed 9 = .ok (.iadd, 1) := by decide +kernel
theorem dX11_feed_10 : decode cX11_feed 10 = .ok (.sipush 540, 3) := by decide +kernel
theorem dX11_feed_13 : decode cX11_feed 13 = .ok (.if_icmp .le 5, 3) := by decide +kernel
theorem dX11_feed_16 : decode cX11_feed 16 = .ok (.iconst (-1), 1) := by decide +kernel
theorem dX11_feed_17 : decode cX11_feed 17 = .ok (.ireturn, 1) := by decide +kernel
theorem dX11_feed_18 : decode cX11_feed 18 = .ok (.aload_n 0, 1) := by decide +kernel
theorem dX11_feed_19 : decode cX11_feed 19 = .ok (.getfield 10, 3) := by decide +kernel
theorem dX11_feed_22 : decode cX11_feed 22 = .ok (.iload_n 1, 1) := by decide +kernel
theorem dX11_feed_23 : decode cX11_feed 23 = .ok (.invokevirtual 125, 3) := by decide +kernel
theorem dX11_feed_26 : decode cX11_feed 26 = .ok (.aload_n 0, 1) := by decide +kernel
theorem dX11_feed_27 : decode cX11_feed 27 = .ok (.getfield 10, 3) := by decide +kernel
theorem dX11_feed_30 : decode cX11_feed 30 = .ok (.iload_n 2, 1) := by decide +kernel
theorem dX11_feed_31 : decode cX11_feed 31 = .ok (.invokevirtual 125, 3) := by decide +kernel
theorem dX11_feed_34 : decode cX11_feed 34 = .ok (.aload_n 0, 1) := by decide +kernel
theorem dX11_feed_35 : decode cX11_feed 35 = .ok (.getfield 10, 3) := by decide +kernel
theorem dX11_feed_38 : decode cX11_feed 38 = .ok (.iload_n 3, 1) := by decide +kernel
theorem dX11_feed_39 : decode cX11_feed 39 = .ok (.invokevirtual 125, 3) := by decide +kernel
theorem dX11_feed_42 : decode cX11_feed 42 = .ok (.aload_n 0, 1) := by decide +kernel
theorem dX11_feed_43 : decode cX11_feed 43 = .ok (.getfield 10, 3) := by decide +kernel
theorem dX11_feed_46 : decode cX11_feed 46 = .ok (.iload 4, 2) := by decide +kernel
theorem dX11_feed_48 : decode cX11_feed 48 = .ok (.invokevirtual 125, 3) := by decide +kernel
theorem dX11_feed_51 : decode cX11_feed 51 = .ok (.aload_n 0, 1) := by decide +kernel
theorem dX11_feed_52 : decode cX11_feed 52 = .ok (.getfield 10, 3) := by decide +kernel
theorem dX11_feed_55 : decode cX11_feed 55 = .ok (.iload 5, 2) := by decide +kernel
theorem dX11_feed_57 : decode cX11_feed 57 = .ok (.invokevirtual 125, 3) := by decide +kernel
theorem dX11_feed_60 : decode cX11_feed 60 = .ok (.aload_n 0, 1) := by decide +kernel
theorem dX11_feed_61 : decode cX11_feed 61 = .ok (.getfield 10, 3) := by decide +kernel
theorem dX11_feed_64 : decode cX11_feed 64 = .ok (.getfield 122, 3) := by decide +kernel
theorem dX11_feed_67 : decode cX11_feed 67 = .ok (.ireturn, 1) := by decide +kernel
theorem hcX11_feed : yX11_feed.cls ≠ "java/lang/invoke/MethodHandle" ∧ yX11_feed.cls ≠ "java/lang/invoke/VarHandle" ∧ (parseMethodDescriptor yX11_feed.desc).map (fun d => d.parameters.length) = some 5 := ⟨by decide +kernel, by decide +kernel, by decide +kernel⟩
def fX11_feed (s0 : sg_M) (x1 : Int) (x2 : Int) (x3 : Int) (x4 : Int) (x5 : Int) (Q : Int → sg_M → Prop) : Prop := sg_R ((s0 1 1) + 20) ∧ ((((s0 1 1) + 20) ≤ 540 → fX8_append s0 x1 (fun s6 => fX8_append s6 x2 (fun s8 => fX8_append s8 x3 (fun s10 => fX8_append s10 x4 (fun s12 => fX8_append s12 x5 (fun s14 => Q (s14 1 1) s14)))))) ∧ (¬ (((s0 1 1) + 20) ≤ 540) → Q (-1) s0))
set_option maxHeartbeats 4000000 in
set_option maxRecDepth 100000 in
theorem CX11_feed {l : Launch} {G : sg_G} {La : sg_L} {s0 : sg_M} (hst : sg_St La) {x1 : Int} (r1 : sg_R x1) {x2 : Int} (r2 : sg_R x2) {x3 : Int} (r3 : sg_R x3) {x4 : Int} (r4 : sg_R x4) {x5 : Int} (r5 : sg_R x5) {Q : Int → sg_M → Prop} (hf : fX11_feed s0 x1 x2 x3 x4 x5 Q) : sg_C l G yX11_feed cX11_feed 6 (some .int) 2 0 0 La s0 [sg_r 0, sg_i x1, sg_i x2, sg_i x3, sg_i x4, sg_i x5] (sg_HI La Q) := by
  refine sg_body (by decide +kernel) (Nat.le_of_ble_eq_true rfl) ?_
  intro p e s m args below meth c F hnm
  unfold fX11_feed at hf
  show sg_W p l e (sg_rm 2 0 0) s m args below meth c (MQ below (sg_Q (some .int) G La s.heap.size (sg_HI La Q)) args s 0 0 (sg_A La s.heap.size)) 6 G (sg_A La s.heap.size) La s0 0 0 0 [(0, sg_r 0), (1, sg_i x1), (2, sg_i x2), (3, sg_i x3), (4, sg_i x4), (5, sg_i x5)] []
  refine gw_aload_n F 0 rfl rfl (by decide) dX11_feed_0 ?_
  refine gw_get7 F (so_0 hst) (by decide) rfl sg_lay_RX11 (j := 0) (by decide) (o1 := 1) (by first | rfl | omega) rfl (host := "") (.inl kw_326) dX11_feed_1 (fun h1 => ?_)
  refine gw_get0 F (so_1 hst) (by decide) rfl sg_lay_RX8 (j := 1) (by decide) rfl (.inr kw_128) dX11_feed_4 (fun h2 => ?_)
  refine gw_bipush F rfl dX11_feed_7 ?_
  refine gw_iadd F rfl dX11_feed_9 ?_
  refine gw_sipush F rfl dX11_feed_10 ?_
  obtain ⟨g3, hf⟩ := hf
  refine gw_icmp_le F (tgt := 18) dX11_feed_13 (by decide) g3 (by decide) (fun c4 => ?_) (fun c4 => ?_)
  · have hf := hf.1 c4
    refine gw_aload_n F 0 rfl rfl (by decide) dX11_feed_18 ?_
    refine gw_get7 F (so_0 hst) (by decide) rfl sg_lay_RX11 (j := 0) (by decide) (o1 := 1) (by first | rfl | omega) rfl (host := "") (.inl kw_326) dX11_feed_19 (fun h5 => ?_)
    refine gw_iload_n F 1 rfl rfl dX11_feed_22 ?_
    refine gk_HV F (gc_V F (S := []) (As := [sg_i x1]) (T := TX8) (N := 2) (CX8_append hst r1 hf) (so_1 hst) (by decide) rfl kw_352 kw_91 kw_349 kw_350 kw_351 hcX8_append ⟨by decide, by decide⟩ rfl rfl (Nat.le_of_ble_eq_true rfl) ⟨by decide, by decide⟩ dX11_feed_23) (fun s6 hf => ?_)
    refine gw_aload_n F 0 rfl rfl (by decide) dX11_feed_26 ?_
    refine gw_get7 F (so_0 hst) (by decide) rfl sg_lay_RX11 (j := 0) (by decide) (o1 := 1) (by first | rfl | omega) rfl (host := "") (.inl kw_326) dX11_feed_27 (fun h7 => ?_)
    refine gw_iload_n F 2 rfl rfl dX11_feed_30 ?_
    refine gk_HV F (gc_V F (S := []) (As := [sg_i x2]) (T := TX8) (N := 2) (CX8_append hst r2 hf) (so_1 hst) (by decide) rfl kw_352 kw_91 kw_349 kw_350 kw_351 hcX8_append ⟨by decide, by decide⟩ rfl rfl (Nat.le_of_ble_eq_true rfl) ⟨by decide, by decide⟩ dX11_feed_31) (fun s8 hf => ?_)
    refine gw_aload_n F 0 rfl rfl (by decide) dX11_feed_34 ?_
    refine gw_get7 F (so_0 hst) (by decide) rfl sg_lay_RX11 (j := 0) (by decide) (o1 := 1) (by first | rfl | omega) rfl (host := "") (.inl kw_326) dX11_feed_35 (fun h9 => ?_)
    refine gw_iload_n F 3 rfl rfl dX11_feed_38 ?_
    refine gk_HV F (gc_V F (S := []) (As := [sg_i x3]) (T := TX8) (N := 2) (CX8_append hst r3 hf) (so_1 hst) (by decide) rfl kw_352 kw_91 kw_349 kw_350 kw_351 hcX8_append ⟨by decide, by decide⟩ rfl rfl (Nat.le_of_ble_eq_true rfl) ⟨by decide, by decide⟩ dX11_feed_39) (fun s10 hf => ?_)
    refine gw_aload_n F 0 rfl rfl (by decide) dX11_feed_42 ?_
    refine gw_get7 F (so_0 hst) (by decide) rfl sg_lay_RX11 (j := 0) (by decide) (o1 := 1) (by first | rfl | omega) rfl (host := "") (.inl kw_326) dX11_feed_43 (fun h11 => ?_)
    refine gw_iload F 4 rfl dX11_feed_46 ?_
    refine gk_HV F (gc_V F (S := []) (As := [sg_i x4]) (T := TX8) (N := 2) (CX8_append hst r4 hf) (so_1 hst) (by decide) rfl kw_352 kw_91 kw_349 kw_350 kw_351 hcX8_append ⟨by decide, by decide⟩ rfl rfl (Nat.le_of_ble_eq_true rfl) ⟨by decide, by decide⟩ dX11_feed_48) (fun s12 hf => ?_)
    refine gw_aload_n F 0 rfl rfl (by decide) dX11_feed_51 ?_
    refine gw_get7 F (so_0 hst) (by decide) rfl sg_lay_RX11 (j := 0) (by decide) (o1 := 1) (by first | rfl | omega) rfl (host := "") (.inl kw_326) dX11_feed_52 (fun h13 => ?_)
    refine gw_iload F 5 rfl dX11_feed_55 ?_
    refine gk_HV F (gc_V F (S := []) (As := [sg_i x5]) (T := TX8) (N := 2) (CX8_append hst r5 hf) (so_1 hst) (by decide) rfl kw_352 kw_91 kw_349 kw_350 kw_351 hcX8_append ⟨by decide, by decide⟩ rfl rfl (Nat.le_of_ble_eq_true rfl) ⟨by decide, by decide⟩ dX11_feed_57) (fun s14 hf => ?_)
    refine gw_aload_n F 0 rfl rfl (by decide) dX11_feed_60 ?_
    refine gw_get7 F (so_0 hst) (by decide) rfl sg_lay_RX11 (j := 0) (by decide) (o1 := 1) (by first | rfl | omega) rfl (host := "") (.inl kw_326) dX11_feed_61 (fun h15 => ?_)
    refine gw_get0 F (so_1 hst) (by decide) rfl sg_lay_RX8 (j := 1) (by decide) rfl (.inr kw_128) dX11_feed_64 (fun h16 => ?_)
    exact gr_HI F h16 hf (by decide) (by decide) dX11_feed_67
  · have hf := hf.2 c4
    refine gw_iconst F dX11_feed_16 ?_
    exact gr_HI F (by decide) hf (by decide) (by decide) dX11_feed_17

theorem dX2_copyFrom_0 : decode cX2_copyFrom 0 = .ok (.aload_n 0, 1) := by decide +kernel
theorem dX2_copyFrom_1 : decode cX2_copyFrom 1 = .ok (.getfield 14, 3) := by decide +kernel
theorem dX2_copyFrom_4 : decode cX2_copyFrom 4 = .ok (.aload_n 1, 1) := by decide +kernel
theorem dX2_copyFrom_5 : decode cX2_copyFrom 5 = .ok (.getfield 14, 3) := by decide +kernel
theorem dX2_copyFrom_8 : decode cX2_copyFrom 8 = .ok (.invokevirtual 30, 3) := by decide +kernel
theorem dX2_copyFrom_11 : decode cX2_copyFrom 11 = .ok (.aload_n 0, 1) := by decide +kernel
theorem dX2_copyFrom_12 : decode cX2_copyFrom 12 = .ok (.getfield 20, 3) := by decide +kernel
theorem dX2_copyFrom_15 : decode cX2_copyFrom 15 = .ok (.aload_n 1, 1) := by decide +kernel
theorem dX2_copyFrom_16 : decode cX2_copyFrom 16 = .ok (.getfield 20, 3) := by decide +kernel
theorem dX2_copyFrom_19 : decode cX2_copyFrom 19 = .ok (.invokevirtual 30, 3) := by decide +kernel
theorem dX2_copyFrom_22 : decode cX2_copyFrom 22 = .ok (.aload_n 0, 1) := by decide +kernel
theorem dX2_copyFrom_23 : decode cX2_copyFrom 23 = .ok (.aload_n 1, 1) := by decide +kernel
theorem dX2_copyFrom_24 : decode cX2_copyFrom 24 = .ok (.getfield 23, 3) := by decide +kernel
theorem dX2_copyFrom_27 : decode cX2_copyFrom 27 = .ok (.putfield 23, 3) := by decide +kernel
theorem dX2_copyFrom_30 : decode cX2_copyFrom 30 = .ok (.return_, 1) := by decide +kernel
theorem hcX2_copyFrom : yX2_copyFrom.cls ≠ "java/lang/invoke/MethodHandle" ∧ yX2_copyFrom.cls ≠ "java/lang/invoke/VarHandle" ∧ (parseMethodDescriptor yX2_copyFrom.desc).map (fun d => d.parameters.length) = some 1 := ⟨by decide +kernel, by decide +kernel, by decide +kernel⟩
def fX2_copyFrom (La : sg_L) (s0 : sg_M) (o : Int) (o1 : Int) (Q : sg_M → Prop) : Prop := fX4_copyFrom La s0 (o + 1) (o1 + 1) (fun s3 => fX4_copyFrom La s3 (o + 3) (o1 + 3) (fun s6 => ∀ s8 : sg_M, s8 = sg_up s6 o 2 (s6 o1 2) → Q s8))
set_option maxHeartbeats 4000000 in
set_option maxRecDepth 100000 in
theorem CX2_copyFrom {l : Launch} {G : sg_G} {La : sg_L} {s0 : sg_M} {o : Int} (to : sg_O La o 2) {o1 : Int} (t1 : sg_O La o1 2) {Q : sg_M → Prop} (hf : fX2_copyFrom La s0 o o1 Q) : sg_C l G yX2_copyFrom cX2_copyFrom 2 (none) 3 0 0 La s0 [sg_r o, sg_r o1] (sg_HV La Q) := by
  refine sg_body (by decide +kernel) (Nat.le_of_ble_eq_true rfl) ?_
  intro p e s m args below meth c F hnm
  unfold fX2_copyFrom at hf
  show sg_W p l e (sg_rm 3 0 0) s m args below meth c (MQ below (sg_Q (none) G La s.heap.size (sg_HV La Q)) args s 0 0 (sg_A La s.heap.size)) 2 G (sg_A La s.heap.size) La s0 0 0 0 [(0, sg_r o), (1, sg_r o1)] []
  refine gw_aload_n F 0 rfl rfl to.1 dX2_copyFrom_0 ?_
  refine gw_get3 F to (by decide) rfl sg_lay_RX2 (j := 0) (by decide) (o1 := (o + 1)) (by first | rfl | omega) rfl (host := "") (.inl kw_224) dX2_copyFrom_1 (fun h1 => ?_)
  refine gw_aload_n F 1 rfl rfl t1.1 dX2_copyFrom_4 ?_
  refine gw_get3 F t1 (by decide) rfl sg_lay_RX2 (j := 0) (by decide) (o1 := (o1 + 1)) (by first | rfl | omega) rfl (host := "") (.inl kw_224) dX2_copyFrom_5 (fun h2 => ?_)
  refine gk_HV F (gc_V F (S := []) (As := [sg_r (o1 + 1)]) (T := TX4) (N := 3) (CX4_copyFrom (sg_O_of h1 (by decide)) (sg_O_of h2 (by decide)) hf) (sg_O_of h1 (by decide)) (by decide) rfl kw_869 kw_97 kw_866 kw_867 kw_868 hcX4_copyFrom ⟨by decide, by decide⟩ rfl rfl (Nat.le_of_ble_eq_true rfl) ⟨by decide, by decide⟩ dX2_copyFrom_8) (fun s3 hf => ?_)
  refine gw_aload_n F 0 rfl rfl to.1 dX2_copyFrom_11 ?_
  refine gw_get3 F to (by decide) rfl sg_lay_RX2 (j := 1) (by decide) (o1 := (o + 3)) (by first | rfl | omega) rfl (host := "") (.inl kw_226) dX2_copyFrom_12 (fun h4 => ?_)
  refine gw_aload_n F 1 rfl rfl t1.1 dX2_copyFrom_15 ?_
  refine gw_get3 F t1 (by decide) rfl sg_lay_RX2 (j := 1) (by decide) (o1 := (o1 + 3)) (by first | rfl | omega) rfl (host := "") (.inl kw_226) dX2_copyFrom_16 (fun h5 => ?_)
  refine gk_HV F (gc_V F (S := []) (As := [sg_r (o1 + 3)]) (T := TX4) (N := 3) (CX4_copyFrom (sg_O_of h4 (by decide)) (sg_O_of h5 (by decide)) hf) (sg_O_of h4 (by decide)) (by decide) rfl kw_869 kw_97 kw_866 kw_867 kw_868 hcX4_copyFrom ⟨by decide, by decide⟩ rfl rfl (Nat.le_of_ble_eq_true rfl) ⟨by decide, by decide⟩ dX2_copyFrom_19) (fun s6 hf => ?_)
  refine gw_aload_n F 0 rfl rfl to.1 dX2_copyFrom_22 ?_
  refine gw_aload_n F 1 rfl rfl t1.1 dX2_copyFrom_23 ?_
  refine gw_get0 F t1 (by decide) rfl sg_lay_RX2 (j := 2) (by decide) rfl (host := "") (.inl kw_228) dX2_copyFrom_24 (fun h7 => ?_)
  obtain ⟨s8, e9⟩ : ∃ z : sg_M, z = sg_up s6 o 2 (s6 o1 2) := ⟨_, rfl⟩
  have hf := hf s8 e9
  refine gw_put0 F to (by decide) rfl sg_lay_RX2 (j := 2) (by decide) h7 e9 tyX2_ok nmX2 rfl (tyX2_ok 2 (by decide)) rfl (host := "") (.inl kw_228) dX2_copyFrom_27 ?_
  exact gr_HV F hf (by decide) (by decide) dX2_copyFrom_30

theorem dX7_copyFrom_0 : decode cX7_copyFrom 0 = .ok (.aload_n 0, 1) := by decide +kernel
theorem dX7_copyFrom_1 : decode cX7_copyFrom 1 = .ok (.aload_n 1, 1) := by decide +kernel
theorem dX7_copyFrom_2 : decode cX7_copyFrom 2 = .ok (.getfield 24, 3) := by decide +kernel
theorem dX7_copyFrom_5 : decode cX7_copyFrom 5 = .ok (.putfield 24, 3) := by decide +kernel
theorem dX7_copyFrom_8 : decode cX7_copyFrom 8 = .ok (.aload_n 0, 1) := by decide +kernel
theorem dX7_copyFrom_9 : decode cX7_copyFrom 9 = .ok (.aload_n 1, 1) := by decide +kernel
theorem dX7_copyFrom_10 : decode cX7_copyFrom 10 = .ok (.getfield 28, 3) := by decide +kernel
theorem dX7_copyFrom_13 : decode cX7_copyFrom 13 = .ok (.putfield 28, 3) := by decide +kernel
theorem dX7_copyFrom_16 : decode cX7_copyFrom 16 = .ok (.aload_n 0, 1) := by decide +kernel
theorem dX7_copyFrom_17 : decode cX7_copyFrom 17 = .ok (.aload_n 1, 1) := by decide +kernel
theorem dX7_copyFrom_18 : decode cX7_copyFrom 18 = .ok (.getfield 32, 3) := by decide +kernel
theorem dX7_copyFrom_21 : decode cX7_copyFrom 21 = .ok (.putfield 32, 3) := by decide +kernel
theorem dX7_copyFrom_24 : decode cX7_copyFrom 24 = .ok (.aload_n 0, 1) := by decide +kernel
theorem dX7_copyFrom_25 : decode cX7_copyFrom 25 = .ok (.getfield 12, 3) := by decide +kernel
theorem dX7_copyFrom_28 : decode cX7_copyFrom 28 = .ok (.aload_n 1, 1) := by decide +kernel
theorem dX7_copyFrom_29 : decode cX7_copyFrom 29 = .ok (.getfield 12, 3) := by decide +kernel
theorem dX7_copyFrom_32 : decode cX7_copyFrom 32 = .ok (.invokevirtual 36, 3) := by decide +kernel
theorem dX7_copyFrom_35 : decode cX7_copyFrom 35 = .ok (.iconst 0, 1) := by decide +kernel
theorem dX7_copyFrom_36 : decode cX7_copyFrom 36 = .ok (.istore_n 2, 1) := by decide +kernel
theorem dX7_copyFrom_37 : decode cX7_copyFrom 37 = .ok (.iload_n 2, 1) := by decide +kernel
theorem dX7_copyFrom_38 : decode cX7_copyFrom 38 = .ok (.iconst 4, 1) := by decide +kernel
theorem dX7_copyFrom_39 : decode cX7_copyFrom 39 = .ok (.if_icmp .ge 21, 3) := by decide +kernel
theorem dX7_copyFrom_42 : decode cX7_copyFrom 42 = .ok (.aload_n 0, 1) := by decide +kernel
theorem dX7_copyFrom_43 : decode cX7_copyFrom 43 = .ok (.getfield 20, 3) := by decide +kernel
theorem dX7_copyFrom_46 : decode cX7_copyFrom 46 = .ok (.iload_n 2, 1) := by decide +kernel
theorem dX7_copyFrom_47 : decode cX7_copyFrom 47 = .ok (.aload_n 1, 1) := by decide +kernel
theorem dX7_copyFrom_48 : decode cX7_copyFrom 48 = .ok (.getfield 20, 3) := by decide +kernel
theorem dX7_copyFrom_51 : decode cX7_copyFrom 51 = .ok (.iload_n 2, 1) := by decide +kernel
theorem dX7_copyFrom_52 : decode cX7_copyFrom 52 = .ok (.aaload, 1) := by decide +kernel
theorem dX7_copyFrom_53 : decode cX7_copyFrom 53 = .ok (.aastore, 1) := by decide +kernel
theorem dX7_copyFrom_54 : decode cX7_copyFrom 54 = .ok (.iinc 2 1, 3) := by decide +kernel
theorem dX7_copyFrom_57 : decode cX7_copyFrom 57 = .ok (.goto (-20), 3) := by decide +kernel
theorem dX7_copyFrom_60 : decode cX7_copyFrom 60 = .ok (.return_, 1) := by decide +kernel
theorem hcX7_copyFrom : yX7_copyFrom.cls ≠ "java/lang/invoke/MethodHandle" ∧ yX7_copyFrom.cls ≠ "java/lang/invoke/VarHandle" ∧ (parseMethodDescriptor yX7_copyFrom.desc).map (fun d => d.parameters.length) = some 1 := ⟨by decide +kernel, by decide +kernel, by decide +kernel⟩
def fX7_copyFrom_A_L37 (o1 : Int) (Q : sg_M → Prop) : Nat → sg_M → Int → Prop
  | 0, _, _ => False
  | n_37 + 1, s_37, x2_37 => ((4 ≤ x2_37 → Q s_37) ∧ (¬ (4 ≤ x2_37) → (0 ≤ x2_37 ∧ x2_37 < 4) ∧ (0 ≤ x2_37 ∧ x2_37 < 4) ∧ ∀ s25 : sg_M, s25 = sg_up s_37 25 x2_37 (s_37 (o1 + 6) x2_37) → sg_R (x2_37 + 1) ∧ (fX7_copyFrom_A_L37 o1 Q n_37) s25 (x2_37 + 1)))
def fX7_copyFrom_A (La : sg_L) (s0 : sg_M) (o1 : Int) (Q : sg_M → Prop) : Prop := (0 ≤ (s0 o1 0)) ∧ ∀ s4 : sg_M, s4 = sg_up s0 4 0 (s0 o1 0) → (0 ≤ (s4 o1 1)) ∧ ∀ s9 : sg_M, s9 = sg_up s4 4 1 (s4 o1 1) → (0 ≤ (s9 o1 2)) ∧ ∀ s14 : sg_M, s14 = sg_up s9 4 2 (s9 o1 2) → fX2_copyFrom La s14 20 (o1 + 1) (fun s18 => (∃ n28 : Nat, fX7_copyFrom_A_L37 o1 Q n28 s18 0))
set_option maxHeartbeats 4000000 in
set_option maxRecDepth 100000 in
theorem CX7_copyFrom_A {l : Launch} {G : sg_G} {La : sg_L} {s0 : sg_M} (hst : sg_St La) {o1 : Int} (t1 : sg_O La o1 7) {Q : sg_M → Prop} (hf : fX7_copyFrom_A La s0 o1 Q) : sg_C l G yX7_copyFrom cX7_copyFrom 3 (none) 4 0 0 La s0 [sg_r 4, sg_r o1] (sg_HV La Q) := by
  refine sg_body (by decide +kernel) (Nat.le_of_ble_eq_true rfl) ?_
  intro p e s m args below meth c F hnm
  unfold fX7_copyFrom_A at hf
  show sg_W p l e (sg_rm 4 0 0) s m args below meth c (MQ below (sg_Q (none) G La s.heap.size (sg_HV La Q)) args s 0 0 (sg_A La s.heap.size)) 3 G (sg_A La s.heap.size) La s0 0 0 0 [(0, sg_r 4), (1, sg_r o1)] []
  refine gw_aload_n F 0 rfl rfl (by decide) dX7_copyFrom_0 ?_
  refine gw_aload_n F 1 rfl rfl t1.1 dX7_copyFrom_1 ?_
  refine gw_get4 F t1 (by decide) rfl sg_lay_RX7 (j := 0) (by decide) rfl (host := "") (.inl kw_233) dX7_copyFrom_2 (fun h1 => ?_)
  obtain ⟨g2, hf⟩ := hf
  have t3 := sg_nn h1 g2
  obtain ⟨s4, e5⟩ : ∃ z : sg_M, z = sg_up s0 4 0 (s0 o1 0) := ⟨_, rfl⟩
  have hf := hf s4 e5
  refine gw_put4 F (so_4 hst) (by decide) rfl sg_lay_RX7 (j := 0) (by decide) t3.1 t3 e5 tyX7_ok nmX7 rfl (tyX7_ok 0 (by decide)) rfl (host := "") (.inl kw_233) dX7_copyFrom_5 ?_
  refine gw_aload_n F 0 rfl rfl (by decide) dX7_copyFrom_8 ?_
  refine gw_aload_n F 1 rfl rfl t1.1 dX7_copyFrom_9 ?_
  refine gw_get4 F t1 (by decide) rfl sg_lay_RX7 (j := 1) (by decide) rfl (host := "") (.inl kw_235) dX7_copyFrom_10 (fun h6 => ?_)
  obtain ⟨g7, hf⟩ := hf
  have t8 := sg_nn h6 g7
  obtain ⟨s9, e10⟩ : ∃ z : sg_M, z = sg_up s4 4 1 (s4 o1 1) := ⟨_, rfl⟩
  have hf := hf s9 e10
  refine gw_put4 F (so_4 hst) (by decide) rfl sg_lay_RX7 (j := 1) (by decide) t8.1 t8 e10 tyX7_ok nmX7 rfl (tyX7_ok 1 (by decide)) rfl (host := "") (.inl kw_235) dX7_copyFrom_13 ?_
  refine gw_aload_n F 0 rfl rfl (by decide) dX7_copyFrom_16 ?_
  refine gw_aload_n F 1 rfl rfl t1.1 dX7_copyFrom_17 ?_
  refine gw_get4 F t1 (by decide) rfl sg_lay_RX7 (j := 2) (by decide) rfl (host := "") (.inl kw_237) dX7_copyFrom_18 (fun h11 => ?_)
  obtain ⟨g12, hf⟩ := hf
  have t13 := sg_nn h11 g12
  obtain ⟨s14, e15⟩ : ∃ z : sg_M, z = sg_up s9 4 2 (s9 o1 2) := ⟨_, rfl⟩
  have hf := hf s14 e15
  refine gw_put4 F (so_4 hst) (by decide) rfl sg_lay_RX7 (j := 2) (by decide) t13.1 t13 e15 tyX7_ok nmX7 rfl (tyX7_ok 2 (by decide)) rfl (host := "") (.inl kw_237) dX7_copyFrom_21 ?_
  refine gw_aload_n F 0 rfl rfl (by decide) dX7_copyFrom_24 ?_
  refine gw_get7 F (so_4 hst) (by decide) rfl sg_lay_RX7 (j := 3) (by decide) (o1 := 20) (by first | rfl | omega) rfl (host := "") (.inl kw_239) dX7_copyFrom_25 (fun h16 => ?_)
  refine gw_aload_n F 1 rfl rfl t1.1 dX7_copyFrom_28 ?_
  refine gw_get3 F t1 (by decide) rfl sg_lay_RX7 (j := 3) (by decide) (o1 := (o1 + 1)) (by first | rfl | omega) rfl (host := "") (.inl kw_239) dX7_copyFrom_29 (fun h17 => ?_)
  refine gk_HV F (gc_V F (S := []) (As := [sg_r (o1 + 1)]) (T := TX2) (N := 3) (CX2_copyFrom (so_20 hst) (sg_O_of h17 (by decide)) hf) (so_20 hst) (by decide) rfl kw_865 kw_99 kw_862 kw_863 kw_864 hcX2_copyFrom ⟨by decide, by decide⟩ rfl rfl (Nat.le_of_ble_eq_true rfl) ⟨by decide, by decide⟩ dX7_copyFrom_32) (fun s18 hf => ?_)
  refine gw_iconst F dX7_copyFrom_35 ?_
  refine gw_istore_n F rfl (by decide) rfl dX7_copyFrom_36 ?_
  have L37 : ∀ n_37 : Nat, ∀ (s_37 : sg_M) (x2_37 : Int), sg_R x2_37 → fX7_copyFrom_A_L37 o1 Q n_37 s_37 x2_37 → sg_W p l e (sg_rm 4 0 0) s m args below meth c (MQ below (sg_Q (none) G La s.heap.size (sg_HV La Q)) args s 0 0 (sg_A La s.heap.size)) 3 G (sg_A La s.heap.size) La s_37 0 0 37 [(0, sg_r 4), (1, sg_r o1), (2, sg_i x2_37)] [] := by
    intro n_37
    induction n_37 with
    | zero => intro s_37 x2_37 r2_37 hf; exact hf.elim
    | succ n_37 ih =>
      intro s_37 x2_37 r2_37 hf
      unfold fX7_copyFrom_A_L37 at hf
      refine gw_iload_n F 2 rfl rfl dX7_copyFrom_37 ?_
      refine gw_iconst F dX7_copyFrom_38 ?_
      refine gw_icmp_ge F (tgt := 60) dX7_copyFrom_39 (by decide) r2_37 (by decide) (fun c19 => ?_) (fun c19 => ?_)
      · have hf := hf.1 c19
        exact gr_HV F hf (by decide) (by decide) dX7_copyFrom_60
      · have hf := hf.2 c19
        refine gw_aload_n F 0 rfl rfl (by decide) dX7_copyFrom_42 ?_
        refine gw_get7 F (so_4 hst) (by decide) rfl sg_lay_RX7 (j := 4) (by decide) (o1 := 25) (by first | rfl | omega) rfl (host := "") (.inl kw_241) dX7_copyFrom_43 (fun h20 => ?_)
        refine gw_iload_n F 2 rfl rfl dX7_copyFrom_46 ?_
        refine gw_aload_n F 1 rfl rfl t1.1 dX7_copyFrom_47 ?_
        refine gw_get3 F t1 (by decide) rfl sg_lay_RX7 (j := 4) (by decide) (o1 := (o1 + 6)) (by first | rfl | omega) rfl (host := "") (.inl kw_241) dX7_copyFrom_48 (fun h21 => ?_)
        refine gw_iload_n F 2 rfl rfl dX7_copyFrom_51 ?_
        obtain ⟨⟨b220, b221⟩, hf⟩ := hf
        refine gw_aaldB F (n := 4) (sg_O_of h21 (by decide)) (by decide) (by decide) (by decide) b220 b221 dX7_copyFrom_52 (fun h23 => ?_)
        obtain ⟨⟨b240, b241⟩, hf⟩ := hf
        obtain ⟨s25, e26⟩ : ∃ z : sg_M, z = sg_up s_37 25 x2_37 (s_37 (o1 + 6) x2_37) := ⟨_, rfl⟩
        have hf := hf s25 e26
        refine gw_aastBN F (n := 4) (so_25 hst) (by decide) (by decide) (by decide) b240 b241 h23 e26 dX7_copyFrom_53 ?_
        refine gw_iinc F (z := (x2_37 + 1)) 2 rfl (by omega) (by decide) rfl dX7_copyFrom_54 ?_
        refine gw_goto F (tgt := 37) dX7_copyFrom_57 (by decide) ?_
        obtain ⟨g27, hf⟩ := hf
        refine gw_sub [1, 2, 0] rfl ?_
        exact ih s25 (x2_37 + 1) g27 hf
  obtain ⟨n28, hf⟩ := hf
  refine gw_sub [1, 2, 0] rfl ?_
  refine L37   n28 s18 0 (by decide) hf

def fX7_copyFrom_B_L37 (o : Int) (Q : sg_M → Prop) : Nat → sg_M → Int → Prop
  | 0, _, _ => False
  | n_37 + 1, s_37, x2_37 => ((4 ≤ x2_37 → Q s_37) ∧ (¬ (4 ≤ x2_37) → (0 ≤ x2_37 ∧ x2_37 < 4) ∧ (0 ≤ x2_37 ∧ x2_37 < 4) ∧ ∀ s25 : sg_M, s25 = sg_up s_37 (o + 6) x2_37 (s_37 25 x2_37) → sg_R (x2_37 + 1) ∧ (fX7_copyFrom_B_L37 o Q n_37) s25 (x2_37 + 1)))
def fX7_copyFrom_B (La : sg_L) (s0 : sg_M) (o : Int) (Q : sg_M → Prop) : Prop := (0 ≤ (s0 4 0)) ∧ ∀ s4 : sg_M, s4 = sg_up s0 o 0 (s0 4 0) → (0 ≤ (s4 4 1)) ∧ ∀ s9 : sg_M, s9 = sg_up s4 o 1 (s4 4 1) → (0 ≤ (s9 4 2)) ∧ ∀ s14 : sg_M, s14 = sg_up s9 o 2 (s9 4 2) → fX2_copyFrom La s14 (o + 1) 20 (fun s18 => (∃ n28 : Nat, fX7_copyFrom_B_L37 o Q n28 s18 0))
set_option maxHeartbeats 4000000 in
set_option maxRecDepth 100000 in
theorem CX7_copyFrom_B {l : Launch} {G : sg_G} {La : sg_L} {s0 : sg_M} (hst : sg_St La) {o : Int} (to : sg_O La o 7) {Q : sg_M → Prop} (hf : fX7_copyFrom_B La s0 o Q) : sg_C l G yX7_copyFrom cX7_copyFrom 3 (none) 4 0 0 La s0 [sg_r o, sg_r 4] (sg_HV La Q) := by
  refine sg_body (by decide +kernel) (Nat.le_of_ble_eq_true rfl) ?_
  intro p e s m args below meth c F hnm
  unfold fX7_copyFrom_B at hf
  show sg_W p l e (sg_rm 4 0 0) s m args below meth c (MQ below (sg_Q (none) G La s.heap.size (sg_HV La Q)) args s 0 0 (sg_A La s.heap.size)) 3 G (sg_A La s.heap.size) La s0 0 0 0 [(0, sg_r o), (1, sg_r 4)] []
  refine gw_aload_n F 0 rfl rfl to.1 dX7_copyFrom_0 ?_
  refine gw_aload_n F 1 rfl rfl (by decide) dX7_copyFrom_1 ?_
  refine gw_get4 F (so_4 hst) (by decide) rfl sg_lay_RX7 (j := 0) (by decide) rfl (host := "") (.inl kw_233) dX7_copyFrom_2 (fun h1 => ?_)
  obtain ⟨g2, hf⟩ := hf
  have t3 := sg_nn h1 g2
  obtain ⟨s4, e5⟩ : ∃ z : sg_M, z = sg_up s0 o 0 (s0 4 0) := ⟨_, rfl⟩
  have hf := hf s4 e5
  refine gw_put4 F to (by decide) rfl sg_lay_RX7 (j := 0) (by decide) t3.1 t3 e5 tyX7_ok nmX7 rfl (tyX7_ok 0 (by decide)) rfl (host := "") (.inl kw_233) dX7_copyFrom_5 ?_
  refine gw_aload_n F 0 rfl rfl to.1 dX7_copyFrom_8 ?_
  refine gw_aload_n F 1 rfl rfl (by decide) dX7_copyFrom_9 ?_
  refine gw_get4 F (so_4 hst) (by decide) rfl sg_lay_RX7 (j := 1) (by decide) rfl (host := "") (.inl kw_235) dX7_copyFrom_10 (fun h6 => ?_)
  obtain ⟨g7, hf⟩ := hf
  have t8 := sg_nn h6 g7
  obtain ⟨s9, e10⟩ : ∃ z : sg_M, z = sg_up s4 o 1 (s4 4 1) := ⟨_, rfl⟩
  have hf := hf s9 e10
  refine gw_put4 F to (by decide) rfl sg_lay_RX7 (j := 1) (by decide) t8.1 t8 e10 tyX7_ok nmX7 rfl (tyX7_ok 1 (by decide)) rfl (host := "") (.inl kw_235) dX7_copyFrom_13 ?_
  refine gw_aload_n F 0 rfl rfl to.1 dX7_copyFrom_16 ?_
  refine gw_aload_n F 1 rfl rfl (by decide) dX7_copyFrom_17 ?_
  refine gw_get4 F (so_4 hst) (by decide) rfl sg_lay_RX7 (j := 2) (by decide) rfl (host := "") (.inl kw_237) dX7_copyFrom_18 (fun h11 => ?_)
  obtain ⟨g12, hf⟩ := hf
  have t13 := sg_nn h11 g12
  obtain ⟨s14, e15⟩ : ∃ z : sg_M, z = sg_up s9 o 2 (s9 4 2) := ⟨_, rfl⟩
  have hf := hf s14 e15
  refine gw_put4 F to (by decide) rfl sg_lay_RX7 (j := 2) (by decide) t13.1 t13 e15 tyX7_ok nmX7 rfl (tyX7_ok 2 (by decide)) rfl (host := "") (.inl kw_237) dX7_copyFrom_21 ?_
  refine gw_aload_n F 0 rfl rfl to.1 dX7_copyFrom_24 ?_
  refine gw_get3 F to (by decide) rfl sg_lay_RX7 (j := 3) (by decide) (o1 := (o + 1)) (by first | rfl | omega) rfl (host := "") (.inl kw_239) dX7_copyFrom_25 (fun h16 => ?_)
  refine gw_aload_n F 1 rfl rfl (by decide) dX7_copyFrom_28 ?_
  refine gw_get7 F (so_4 hst) (by decide) rfl sg_lay_RX7 (j := 3) (by decide) (o1 := 20) (by first | rfl | omega) rfl (host := "") (.inl kw_239) dX7_copyFrom_29 (fun h17 => ?_)
  refine gk_HV F (gc_V F (S := []) (As := [sg_r 20]) (T := TX2) (N := 3) (CX2_copyFrom (sg_O_of h16 (by decide)) (so_20 hst) hf) (sg_O_of h16 (by decide)) (by decide) rfl kw_865 kw_99 kw_862 kw_863 kw_864 hcX2_copyFrom ⟨by decide, by decide⟩ rfl rfl (Nat.le_of_ble_eq_true rfl) ⟨by decide, by decide⟩ dX7_copyFrom_32) (fun s18 hf => ?_)
  refine gw_iconst F dX7_copyFrom_35 ?_
  refine gw_istore_n F rfl (by decide) rfl dX7_copyFrom_36 ?_
  have L37 : ∀ n_37 : Nat, ∀ (s_37 : sg_M) (x2_37 : Int), sg_R x2_37 → fX7_copyFrom_B_L37 o Q n_37 s_37 x2_37 → sg_W p l e (sg_rm 4 0 0) s m args below meth c (MQ below (sg_Q (none) G La s.heap.size (sg_HV La Q)) args s 0 0 (sg_A La s.heap.size)) 3 G (sg_A La s.heap.size) La s_37 0 0 37 [(0, sg_r o), (1, sg_r 4), (2, sg_i x2_37)] [] := by
    intro n_37
    induction n_37 with
    | zero => intro s_37 x2_37 r2_37 hf; exact hf.elim
    | succ n_37 ih =>
      intro s_37 x2_37 r2_37 hf
      unfold fX7_copyFrom_B_L37 at hf
      refine gw_iload_n F 2 rfl rfl dX7_copyFrom_37 ?_
      refine gw_iconst F dX7_copyFrom_38 ?_
      refine gw_icmp_ge F (tgt := 60) dX7_copyFrom_39 (by decide) r2_37 (by decide) (fun c19 => ?_) (fun c19 => ?_)
      · have hf := hf.1 c19
        exact gr_HV F hf (by decide) (by decide) dX7_copyFrom_60
      · have hf := hf.2 c19
        refine gw_aload_n F 0 rfl rfl to.1 dX7_copyFrom_42 ?_
        refine gw_get3 F to (by decide) rfl sg_lay_RX7 (j := 4) (by decide) (o1 := (o + 6)) (by first | rfl | omega) rfl (host := "") (.inl kw_241) dX7_copyFrom_43 (fun h20 => ?_)
        refine gw_iload_n F 2 rfl rfl dX7_copyFrom_46 ?_
        refine gw_aload_n F 1 rfl rfl (by decide) dX7_copyFrom_47 ?_
        refine gw_get7 F (so_4 hst) (by decide) rfl sg_lay_RX7 (j := 4) (by decide) (o1 := 25) (by first | rfl | omega) rfl (host := "") (.inl kw_241) dX7_copyFrom_48 (fun h21 => ?_)
        refine gw_iload_n F 2 rfl rfl dX7_copyFrom_51 ?_
        obtain ⟨⟨b220, b221⟩, hf⟩ := hf
        refine gw_aaldB F (n := 4) (so_25 hst) (by decide) (by decide) (by decide) b220 b221 dX7_copyFrom_52 (fun h23 => ?_)
        obtain ⟨⟨b240, b241⟩, hf⟩ := hf
        obtain ⟨s25, e26⟩ : ∃ z : sg_M, z = sg_up s_37 (o + 6) x2_37 (s_37 25 x2_37) := ⟨_, rfl⟩
        have hf := hf s25 e26
        refine gw_aastBN F (n := 4) (sg_O_of h20 (by decide)) (by decide) (by decide) (by decide) b240 b241 h23 e26 dX7_copyFrom_53 ?_
        refine gw_iinc F (z := (x2_37 + 1)) 2 rfl (by omega) (by decide) rfl dX7_copyFrom_54 ?_
        refine gw_goto F (tgt := 37) dX7_copyFrom_57 (by decide) ?_
        obtain ⟨g27, hf⟩ := hf
        refine gw_sub [1, 2, 0] rfl ?_
        exact ih s25 (x2_37 + 1) g27 hf
  obtain ⟨n28, hf⟩ := hf
  refine gw_sub [1, 2, 0] rfl ?_
  refine L37   n28 s18 0 (by decide) hf

theorem dX11_image_0 : decode cX11_image 0 = .ok (.iload_n 1, 1) := by decide +kernel
theorem dX11_image_1 : decode cX11_image 1 = .ok (.ifCond .lt 8, 3) := by decide +kernel
theorem dX11_image_4 : decode cX11_image 4 = .ok (.iload_n 1, 1) := by decide +kernel
theorem dX11_image_5 : decode cX11_image 5 = .ok (.iconst 2, 1) := by decide +kernel
theorem dX11_image_6 : decode cX11_image 6 = .ok (.if_icmp .lt 5, 3) := by decide +kernel
theorem dX11_image_9 : decode cX11_image 9 = .ok (.iconst 0, 1) := by decide +kernel
theorem dX11_image_10 : decode cX11_image 10 = .ok (.ireturn, 1) := by decide +kernel
theorem dX11_image_11 : decode cX11_image 11 = .ok (.aload_n 0, 1) := by decide +kernel
theorem dX11_image_12 : decode cX11_image 12 = .ok (.getfield 43, 3) := by decide +kernel
theorem dX11_image_15 : decode cX11_image 15 = .ok (.iload_n 1, 1) := by decide +kernel
theorem dX11_image_16 : decode cX11_image 16 = .ok (.aaload, 1) := by decide +kernel
theorem dX11_image_17 : decode cX11_image 17 = .ok (.ifnonnull 37, 3) := by decide +kernel
theorem dX11_image_20 : decode cX11_image 20 = .ok (.aload_n 0, 1) := by decide +kernel
theorem dX11_image_21 : decode cX11_image 21 = .ok (.getfield 43, 3) := by decide +kernel
theorem dX11_image_24 : decode cX11_image 24 = .ok (.iload_n 1, 1) := by decide +kernel
theorem dX11_image_25 : decode cX11_image 25 = .ok (.new 25, 3) := by decide +kernel
theorem dX11_image_28 : decode cX11_image 28 = .ok (.dup, 1) := by decide +kernel
theorem dX11_image_29 : decode cX11_image 29 = .ok (.aload_n 0, 1) := by decide +kernel
theorem dX11_image_30 : decode cX11_image 30 = .ok (.getfield 39, 3) := by decide +kernel
theorem dX11_image_33 : decode cX11_image 33 = .ok (.getfield 112, 3) := by decide +kernel
theorem dX11_image_36 : decode cX11_image 36 = .ok (.aload_n 0, 1) := by decide +kernel
theorem dX11_image_37 : decode cX11_image 37 = .ok (.getfield 39, 3) := by decide +kernel
theorem dX11_image_40 : decode cX11_image 40 = .ok (.getfield 212, 3) := by decide +kernel
theorem dX11_image_43 : decode cX11_image 43 = .ok (.aload_n 0, 1) := by decide +kernel
theorem dX11_image_44 : decode cX11_image 44 = .ok (.getfield 39, 3) := by decide +kernel
theorem dX11_image_47 : decode cX11_image 47 = .ok (.getfield 324, 3) := by decide +kernel
theorem dX11_image_50 : decode cX11_image 50 = .ok (.invokespecial 36, 3) := by decide +kernel
theorem dX11_image_53 : decode cX11_image 53 = .ok (.aastore, 1) := by decide +kernel
theorem dX11_image_54 : decode cX11_image 54 = .ok (.aload_n 0, 1) := by decide +kernel
theorem dX11_image_55 : decode cX11_image 55 = .ok (.getfield 43, 3) := by decide +kernel
theorem dX11_image_58 : decode cX11_image 58 = .ok (.iload_n 1, 1) := by decide +kernel
theorem dX11_image_59 : decode cX11_image 59 = .ok (.aaload, 1) := by decide +kernel
theorem dX11_image_60 : decode cX11_image 60 = .ok (.aload_n 0, 1) := by decide +kernel
theorem dX11_image_61 : decode cX11_image 61 = .ok (.getfield 39, 3) := by decide +kernel
theorem dX11_image_64 : decode cX11_image 64 = .ok (.invokevirtual 334, 3) := by decide +kernel
theorem dX11_image_67 : decode cX11_image 67 = .ok (.iconst 1, 1) := by decide +kernel
theorem dX11_image_68 : decode cX11_image 68 = .ok (.ireturn, 1) := by decide +kernel
theorem hcX11_image : yX11_image.cls ≠ "java/lang/invoke/MethodHandle" ∧ yX11_image.cls ≠ "java/lang/invoke/VarHandle" ∧ (parseMethodDescriptor yX11_image.desc).map (fun d => d.parameters.length) = some 1 := ⟨by decide +kernel, by decide +kernel, by decide +kernel⟩
def fX11_image (La : sg_L) (s0 : sg_M) (x1 : Int) (Q : Int → sg_L → sg_M → Prop) : Prop := ((x1 < 0 → Q 0 La s0) ∧ (¬ (x1 < 0) → ((x1 < 2 → (0 ≤ x1 ∧ x1 < 2) ∧ ((0 ≤ (s0 26 x1) → (0 ≤ x1 ∧ x1 < 2) ∧ (0 ≤ (s0 26 x1)) ∧ fX7_copyFrom_B La s0 (s0 26 x1) (fun s14 => Q 1 La s14)) ∧ ((s0 26 x1) < 0 → ∀ (q16 : Nat) (La17 : sg_L), La17 = sg_pu La 47 q16 → ∀ s18 : sg_M, s18 = sg_nw s0 La.1 47 → ∀ o19 : Int, o19 = (La.1 : Int) → (0 ≤ (s18 4 0)) ∧ (0 ≤ (s18 4 1)) ∧ (0 ≤ (s18 4 2)) ∧ fX7_init_B La17 s18 o19 (s18 4 0) (s18 4 1) (s18 4 2) (fun La40 s41 => (0 ≤ x1 ∧ x1 < 2) ∧ ∀ s47 : sg_M, s47 = sg_up s41 26 x1 o19 → (0 ≤ x1 ∧ x1 < 2) ∧ (0 ≤ (s47 26 x1)) ∧ fX7_copyFrom_B La40 s47 (s47 26 x1) (fun s55 => Q 1 La40 s55))))) ∧ (¬ (x1 < 2) → Q 0 La s0))))
set_option maxHeartbeats 4000000 in
set_option maxRecDepth 100000 in
theorem CX11_image {l : Launch} {G : sg_G} {La : sg_L} {s0 : sg_M} (hst : sg_St La) {x1 : Int} (r1 : sg_R x1) {Q : Int → sg_L → sg_M → Prop} (hf : fX11_image La s0 x1 Q) : sg_C l G yX11_image cX11_image 2 (some .boolean) 5 7 418 La s0 [sg_r 0, sg_i x1] (sg_BZ La Q) := by
  refine sg_body (by decide +kernel) (Nat.le_of_ble_eq_true rfl) ?_
  intro p e s m args below meth c F hnm
  unfold fX11_image at hf
  show sg_W p l e (sg_rm 5 7 418) s m args below meth c (MQ below (sg_Q (some .boolean) G La s.heap.size (sg_BZ La Q)) args s 7 418 (sg_A La s.heap.size)) 2 G (sg_A La s.heap.size) La s0 0 0 0 [(0, sg_r 0), (1, sg_i x1)] []
  refine gw_iload_n F 1 rfl rfl dX11_image_0 ?_
  refine gw_if_lt F (tgt := 9) dX11_image_1 (by decide) r1 (fun c1 => ?_) (fun c1 => ?_)
  · have hf := hf.1 c1
    refine gw_iconst F dX11_image_9 ?_
    exact gr_BZ F (by decide) hf (sg_X.rf) (by decide) (by decide) dX11_image_10
  · have hf := hf.2 c1
    refine gw_iload_n F 1 rfl rfl dX11_image_4 ?_
    refine gw_iconst F dX11_image_5 ?_
    refine gw_icmp_lt F (tgt := 11) dX11_image_6 (by decide) r1 (by decide) (fun c2 => ?_) (fun c2 => ?_)
    · have hf := hf.1 c2
      refine gw_aload_n F 0 rfl rfl (by decide) dX11_image_11 ?_
      refine gw_get7 F (so_0 hst) (by decide) rfl sg_lay_RX11 (j := 3) (by decide) (o1 := 26) (by first | rfl | omega) rfl (host := "") (.inl kw_329) dX11_image_12 (fun h3 => ?_)
      refine gw_iload_n F 1 rfl rfl dX11_image_15 ?_
      obtain ⟨⟨b40, b41⟩, hf⟩ := hf
      refine gw_aaldS F (n := 2) (so_26 hst) (by decide) (by decide) (by decide) b40 b41 dX11_image_16 (fun h5 => ?_)
      refine gw_ifnonnull F (tgt := 54) dX11_image_17 (by decide) (fun c6 => ?_) (fun c6 => ?_)
      · have hf := hf.1 c6
        have t7 := sg_nn h5 c6
        refine gw_aload_n F 0 rfl rfl (by decide) dX11_image_54 ?_
        refine gw_get7 F (so_0 hst) (by decide) rfl sg_lay_RX11 (j := 3) (by decide) (o1 := 26) (by first | rfl | omega) rfl (host := "") (.inl kw_329) dX11_image_55 (fun h8 => ?_)
        refine gw_iload_n F 1 rfl rfl dX11_image_58 ?_
        obtain ⟨⟨b90, b91⟩, hf⟩ := hf
        refine gw_aaldS F (n := 2) (so_26 hst) (by decide) (by decide) (by decide) b90 b91 dX11_image_59 (fun h10 => ?_)
        refine gw_aload_n F 0 rfl rfl (by decide) dX11_image_60 ?_
        refine gw_get7 F (so_0 hst) (by decide) rfl sg_lay_RX11 (j := 2) (by decide) (o1 := 4) (by first | rfl | omega) rfl (host := "") (.inl kw_328) dX11_image_61 (fun h11 => ?_)
        obtain ⟨g12, hf⟩ := hf
        have t13 := sg_nn h10 g12
        refine gk_HV F (gc_V F (S := []) (As := [sg_r 4]) (T := TX7) (N := 5) (CX7_copyFrom_B hst t13 hf) t13 (by decide) rfl kw_861 kw_93 kw_858 kw_859 kw_860 hcX7_copyFrom ⟨by decide, by decide⟩ rfl rfl (Nat.le_of_ble_eq_true rfl) ⟨by decide, by decide⟩ dX11_image_64) (fun s14 hf => ?_)
        refine gw_iconst F dX11_image_67 ?_
        exact gr_BZ F (by decide) hf (sg_X.rf) (by decide) (by decide) dX11_image_68
      · have hf := hf.2 c6
        refine gw_aload_n F 0 rfl rfl (by decide) dX11_image_20 ?_
        refine gw_get7 F (so_0 hst) (by decide) rfl sg_lay_RX11 (j := 3) (by decide) (o1 := 26) (by first | rfl | omega) rfl (host := "") (.inl kw_329) dX11_image_21 (fun h15 => ?_)
        refine gw_iload_n F 1 rfl rfl dX11_image_24 ?_
        refine gy_new F (kd := 47) (T := TX7) (by decide) rfl sg_lay_RX7 tyX7_ok kw_150 kw_151 kw_93 ns_X7 nf_X7 nr_X7 (by decide) (by decide) (List.forall_mem_cons.mpr ⟨(Or.inl (so_0 hst).2.1), (List.forall_mem_cons.mpr ⟨True.intro, (fun _ h => absurd h List.not_mem_nil)⟩)⟩) (List.forall_mem_cons.mpr ⟨True.intro, (List.forall_mem_cons.mpr ⟨(Or.inl (so_26 hst).2.1), (fun _ h => absurd h List.not_mem_nil)⟩)⟩) dX11_image_25 (fun q16 La17 s18 o19 e20 e21 e22 t23 hX24 => ?_)
        have hf := hf q16 La17 e20 s18 e21 o19 e22
        have hn25 : La.1 ≤ o19.toNat := by rw [e22, Int.toNat_natCast]; exact (sg_X.rf : sg_X La La).1
        have hst26 := hst.X hX24
        have hX27 := sg_X.tr (sg_X.rf) hX24
        refine gw_dup F rfl dX11_image_28 ?_
        refine gw_aload_n F 0 rfl rfl (by decide) dX11_image_29 ?_
        refine gw_get7 F (so_0 hst26) (by decide) rfl sg_lay_RX11 (j := 2) (by decide) (o1 := 4) (by first | rfl | omega) rfl (host := "") (.inl kw_328) dX11_image_30 (fun h28 => ?_)
        refine gw_get4 F (so_4 hst26) (by decide) rfl sg_lay_RX7 (j := 0) (by decide) rfl (.inr kw_234) dX11_image_33 (fun h29 => ?_)
        refine gw_aload_n F 0 rfl rfl (by decide) dX11_image_36 ?_
        refine gw_get7 F (so_0 hst26) (by decide) rfl sg_lay_RX11 (j := 2) (by decide) (o1 := 4) (by first | rfl | omega) rfl (host := "") (.inl kw_328) dX11_image_37 (fun h30 => ?_)
        refine gw_get4 F (so_4 hst26) (by decide) rfl sg_lay_RX7 (j := 1) (by decide) rfl (.inr kw_236) dX11_image_40 (fun h31 => ?_)
        refine gw_aload_n F 0 rfl rfl (by decide) dX11_image_43 ?_
        refine gw_get7 F (so_0 hst26) (by decide) rfl sg_lay_RX11 (j := 2) (by decide) (o1 := 4) (by first | rfl | omega) rfl (host := "") (.inl kw_328) dX11_image_44 (fun h32 => ?_)
        refine gw_get4 F (so_4 hst26) (by decide) rfl sg_lay_RX7 (j := 2) (by decide) rfl (.inr kw_238) dX11_image_47 (fun h33 => ?_)
        obtain ⟨g34, hf⟩ := hf
        have t35 := sg_nn h29 g34
        obtain ⟨g36, hf⟩ := hf
        have t37 := sg_nn h31 g36
        obtain ⟨g38, hf⟩ := hf
        have t39 := sg_nn h33 g38
        refine gk_BV F (gc_I F (S := [sg_r o19, sg_i x1, sg_r 26]) (As := [sg_r (s18 4 0), sg_r (s18 4 1), sg_r (s18 4 2)]) (CX7_init_B t23 t35 t37 t39 hf) t23.1 kw_214 kw_93 kw_212 kw_213 rfl hcX7_init ⟨by decide, by decide⟩ rfl rfl (Nat.le_of_ble_eq_true rfl) ⟨by decide, by decide⟩ dX11_image_50) (List.forall_mem_cons.mpr ⟨(Or.inl (so_0 hst26).2.1), (List.forall_mem_cons.mpr ⟨True.intro, (fun _ h => absurd h List.not_mem_nil)⟩)⟩) (List.forall_mem_cons.mpr ⟨(Or.inl t23.2.1), (List.forall_mem_cons.mpr ⟨True.intro, (List.forall_mem_cons.mpr ⟨(Or.inl (so_26 hst26).2.1), (fun _ h => absurd h List.not_mem_nil)⟩)⟩)⟩) (fun La40 s41 hX42 hf => ?_)
        have t43 := (sg_O_sealed t23).X hX42
        have hst44 := (sg_St_sx hst26 t23 ⟨by decide, by decide, by decide⟩).X hX42
        have hX45 := (sg_X_sx (hX27) hn25).tr hX42
        obtain ⟨⟨b460, b461⟩, hf⟩ := hf
        obtain ⟨s47, e48⟩ : ∃ z : sg_M, z = sg_up s41 26 x1 o19 := ⟨_, rfl⟩
        have hf := hf s47 e48
        refine gw_aastS F (n := 2) (so_26 hst44) (by decide) (by decide) (by decide) b460 b461 t43 e48 dX11_image_53 ?_
        refine gw_aload_n F 0 rfl rfl (by decide) dX11_image_54 ?_
        refine gw_get7 F (so_0 hst44) (by decide) rfl sg_lay_RX11 (j := 3) (by decide) (o1 := 26) (by first | rfl | omega) rfl (host := "") (.inl kw_329) dX11_image_55 (fun h49 => ?_)
        refine gw_iload_n F 1 rfl rfl dX11_image_58 ?_
        obtain ⟨⟨b500, b501⟩, hf⟩ := hf
        refine gw_aaldS F (n := 2) (so_26 hst44) (by decide) (by decide) (by decide) b500 b501 dX11_image_59 (fun h51 => ?_)
        refine gw_aload_n F 0 rfl rfl (by decide) dX11_image_60 ?_
        refine gw_get7 F (so_0 hst44) (by decide) rfl sg_lay_RX11 (j := 2) (by decide) (o1 := 4) (by first | rfl | omega) rfl (host := "") (.inl kw_328) dX11_image_61 (fun h52 => ?_)
        obtain ⟨g53, hf⟩ := hf
        have t54 := sg_nn h51 g53
        refine gk_HV F (gc_V F (S := []) (As := [sg_r 4]) (T := TX7) (N := 5) (CX7_copyFrom_B hst44 t54 hf) t54 (by decide) rfl kw_861 kw_93 kw_858 kw_859 kw_860 hcX7_copyFrom ⟨by decide, by decide⟩ rfl rfl (Nat.le_of_ble_eq_true rfl) ⟨by decide, by decide⟩ dX11_image_64) (fun s55 hf => ?_)
        refine gw_iconst F dX11_image_67 ?_
        exact gr_BZ F (by decide) hf (hX45) (by decide) (by decide) dX11_image_68
    · have hf := hf.2 c2
      refine gw_iconst F dX11_image_9 ?_
      exact gr_BZ F (by decide) hf (sg_X.rf) (by decide) (by decide) dX11_image_10

theorem dX11_isBend_0 : decode cX11_isBend 0 = .ok (.iload_n 0, 1) := by decide +kernel
theorem dX11_isBend_1 : decode cX11_isBend 1 = .ok (.sipush (-9999), 3) := by decide +kernel
theorem dX11_isBend_4 : decode cX11_isBend 4 = .ok (.if_icmp .lt 28, 3) := by decide +kernel
theorem dX11_isBend_7 : decode cX11_isBend 7 = .ok (.iload_n 0, 1) := by decide +kernel
theorem dX11_isBend_8 : decode cX11_isBend 8 = .ok (.sipush 9999, 3) := by decide +kernel
theorem dX11_isBend_11 : decode cX11_isBend 11 = .ok (.if_icmp .gt 21, 3) := by decide +kernel
theorem dX11_isBend_14 : decode cX11_isBend 14 = .ok (.iload_n 1, 1) := by decide +kernel
theorem dX11_isBend_15 : decode cX11_isBend 15 = .ok (.sipush (-9999), 3) := by decide +kernel
theorem dX11_isBend_18 : decode cX11_isBend 18 = .ok (.if_icmp .lt 14, 3) := by decide +kernel
theorem dX11_isBend_21 : decode cX11_isBend 21 = .ok (.iload_n 1, 1) := by decide +kernel
theorem dX11_isBend_22 : decode cX11_isBend 22 = .ok (.sipush 9999, 3) := by decide +kernel
theorem dX11_isBend_25 : decode cX11_isBend 25 = .ok (.if_icmp .gt 7, 3) := by decide +kernel
theorem dX11_isBend_28 : decode cX11_isBend 28 = .ok (.iconst 1, 1) := by decide +kernel
theorem dX11_isBend_29 : decode cX11_isBend 29 = .ok (.goto 4, 3) := by decide +kernel
theorem dX11_isBend_32 : decode cX11_isBend 32 = .ok (.iconst 0, 1) := by decide +kernel
theorem dX11_isBend_33 : decode cX11_isBend 33 = .ok (.ireturn, 1) := by decide +kernel
theorem hcX11_isBend : yX11_isBend.cls ≠ "java/lang/invoke/MethodHandle" ∧ yX11_isBend.cls ≠ "java/lang/invoke/VarHandle" ∧ (parseMethodDescriptor yX11_isBend.desc).map (fun d => d.parameters.length) = some 2 := ⟨by decide +kernel, by decide +kernel, by decide +kernel⟩
def fX11_isBend (x0 : Int) (x1 : Int) (Q : Int → Prop) : Prop := ((x0 < (-9999) → Q 0) ∧ (¬ (x0 < (-9999)) → ((9999 < x0 → Q 0) ∧ (¬ (9999 < x0) → ((x1 < (-9999) → Q 0) ∧ (¬ (x1 < (-9999)) → ((9999 < x1 → Q 0) ∧ (¬ (9999 < x1) → Q 1))))))))
set_option maxHeartbeats 4000000 in
set_option maxRecDepth 100000 in
theorem CX11_isBend {l : Launch} {G : sg_G} {La : sg_L} {s0 : sg_M} {x0 : Int} (r0 : sg_R x0) {x1 : Int} (r1 : sg_R x1) {Q : Int → Prop} (hf : fX11_isBend x0 x1 Q) : sg_C l G yX11_isBend cX11_isBend 2 (some .boolean) 1 0 0 La s0 [sg_i x0, sg_i x1] (sg_PZ La s0 Q) := by
  refine sg_body (by decide +kernel) (Nat.le_of_ble_eq_true rfl) ?_
  intro p e s m args below meth c F hnm
  unfold fX11_isBend at hf
  show sg_W p l e (sg_rm 1 0 0) s m args below meth c (MQ below (sg_Q (some .boolean) G La s.heap.size (sg_PZ La s0 Q)) args s 0 0 (sg_A La s.heap.size)) 2 G (sg_A La s.heap.size) La s0 0 0 0 [(0, sg_i x0), (1, sg_i x1)] []
  refine gw_iload_n F 0 rfl rfl dX11_isBend_0 ?_
  refine gw_sipush F rfl dX11_isBend_1 ?_
  refine gw_icmp_lt F (tgt := 32) dX11_isBend_4 (by decide) r0 (by decide) (fun c1 => ?_) (fun c1 => ?_)
  · have hf := hf.1 c1
    refine gw_iconst F dX11_isBend_32 ?_
    exact gr_PZ F (by decide) hf (by decide) (by decide) dX11_isBend_33
  · have hf := hf.2 c1
    refine gw_iload_n F 0 rfl rfl dX11_isBend_7 ?_
    refine gw_sipush F rfl dX11_isBend_8 ?_
    refine gw_icmp_gt F (tgt := 32) dX11_isBend_11 (by decide) r0 (by decide) (fun c2 => ?_) (fun c2 => ?_)
    · have hf := hf.1 c2
      refine gw_iconst F dX11_isBend_32 ?_
      exact gr_PZ F (by decide) hf (by decide) (by decide) dX11_isBend_33
    · have hf := hf.2 c2
      refine gw_iload_n F 1 rfl rfl dX11_isBend_14 ?_
      refine gw_sipush F rfl dX11_isBend_15 ?_
      refine gw_icmp_lt F (tgt := 32) dX11_isBend_18 (by decide) r1 (by decide) (fun c3 => ?_) (fun c3 => ?_)
      · have hf := hf.1 c3
        refine gw_iconst F dX11_isBend_32 ?_
        exact gr_PZ F (by decide) hf (by decide) (by decide) dX11_isBend_33
      · have hf := hf.2 c3
        refine gw_iload_n F 1 rfl rfl dX11_isBend_21 ?_
        refine gw_sipush F rfl dX11_isBend_22 ?_
        refine gw_icmp_gt F (tgt := 32) dX11_isBend_25 (by decide) r1 (by decide) (fun c4 => ?_) (fun c4 => ?_)
        · have hf := hf.1 c4
          refine gw_iconst F dX11_isBend_32 ?_
          exact gr_PZ F (by decide) hf (by decide) (by decide) dX11_isBend_33
        · have hf := hf.2 c4
          refine gw_iconst F dX11_isBend_28 ?_
          refine gw_goto F (tgt := 33) dX11_isBend_29 (by decide) ?_
          exact gr_PZ F (by decide) hf (by decide) (by decide) dX11_isBend_33

theorem dX0_sound_0 : decode cX0_sound 0 = .ok (.iload_n 1, 1) := by decide +kernel
theorem dX0_sound_1 : decode cX0_sound 1 = .ok (.ifCond .lt 31, 3) := by decide +kernel
theorem dX0_sound_4 : decode cX0_sound 4 = .ok (.iload_n 1, 1) := by decide +kernel
theorem dX0_sound_5 : decode cX0_sound 5 = .ok (.aload_n 0, 1) := by decide +kernel
theorem dX0_sound_6 : decode cX0_sound 6 = .ok (.getfield 23, 3) := by decide +kernel
theorem dX0_sound_9 : decode cX0_sound 9 = .ok (.getfield 90, 3) := by decide +kernel
theorem dX0_sound_12 : decode cX0_sound 12 = .ok (.if_icmp .ge 20, 3) := by decide +kernel
theorem dX0_sound_15 : decode cX0_sound 15 = .ok (.iload_n 2, 1) := by decide +kernel
theorem dX0_sound_16 : decode cX0_sound 16 = .ok (.ifCond .lt 16, 3) := by decide +kernel
theorem dX0_sound_19 : decode cX0_sound 19 = .ok (.iload_n 2, 1) := by decide +kernel
theorem dX0_sound_20 : decode cX0_sound 20 = .ok (.iconst 5, 1) := by decide +kernel
theorem dX0_sound_21 : decode cX0_sound 21 = .ok (.if_icmp .gt 11, 3) := by decide +kernel
theorem dX0_sound_24 : decode cX0_sound 24 = .ok (.aload_n 0, 1) := by decide +kernel
theorem dX0_sound_25 : decode cX0_sound 25 = .ok (.getfield 34, 3) := by decide +kernel
theorem dX0_sound_28 : decode cX0_sound 28 = .ok (.iconst (-1), 1) := by decide +kernel
theorem dX0_sound_29 : decode cX0_sound 29 = .ok (.if_icmp .eq 5, 3) := by decide +kernel
theorem dX0_sound_32 : decode cX0_sound 32 = .ok (.iconst 0, 1) := by decide +kernel
theorem dX0_sound_33 : decode cX0_sound 33 = .ok (.ireturn, 1) := by decide +kernel
theorem dX0_sound_34 : decode cX0_sound 34 = .ok (.aload_n 0, 1) := by decide +kernel
theorem dX0_sound_35 : decode cX0_sound 35 = .ok (.getfield 23, 3) := by decide +kernel
theorem dX0_sound_38 : decode cX0_sound 38 = .ok (.iload_n 1, 1) := by decide +kernel
theorem dX0_sound_39 : decode cX0_sound 39 = .ok (.invokevirtual 91, 3) := by decide +kernel
theorem dX0_sound_42 : decode cX0_sound 42 = .ok (.istore 4, 2) := by decide +kernel
theorem dX0_sound_44 : decode cX0_sound 44 = .ok (.aload_n 0, 1) := by decide +kernel
theorem dX0_sound_45 : decode cX0_sound 45 = .ok (.iload 4, 2) := by decide +kernel
theorem dX0_sound_47 : decode cX0_sound 47 = .ok (.iconst 2, 1) := by decide +kernel
theorem dX0_sound_48 : decode cX0_sound 48 = .ok (.iload_n 2, 1) := by decide +kernel
theorem dX0_sound_49 : decode cX0_sound 49 = .ok (.imul, 1) := by decide +kernel
theorem dX0_sound_50 : decode cX0_sound 50 = .ok (.iconst 1, 1) := by decide +kernel
theorem dX0_sound_51 : decode cX0_sound 51 = .ok (.iadd, 1) := by decide +kernel
theorem dX0_sound_52 : decode cX0_sound 52 = .ok (.aload_n 0, 1) := by decide +kernel
theorem dX0_sound_53 : decode cX0_sound 53 = .ok (.getfield 31, 3) := by decide +kernel
theorem dX0_sound_56 : decode cX0_sound 56 = .ok (.imul, 1) := by decide +kernel
theorem dX0_sound_57 : decode cX0_sound 57 = .ok (.sipush 2000, 3) := by decide +kernel
theorem dX0_sound_60 : decode cX0_sound 60 = .ok (.invokevirtual 94, 3) := by decide +kernel
theorem dX0_sound_63 : decode cX0_sound 63 = .ok (.istore 5, 2) := by decide +kernel
theorem dX0_sound_65 : decode cX0_sound 65 = .ok (.iload 5, 2) := by decide +kernel
theorem dX0_sound_67 : decode cX0_sound 67 = .ok (.ifCond .ne 5, 3) := by decide +kernel
theorem dX0_sound_70 : decode cX0_sound 70 = .ok (.iconst 0, 1) := by decide +kernel
theorem dX0_sound_71 : decode cX0_sound 71 = .ok (.ireturn, 1) := by decide +kernel
theorem dX0_sound_72 : decode cX0_sound 72 = .ok (.aload_n 3, 1) := by decide +kernel
theorem dX0_sound_73 : decode cX0_sound 73 = .ok (.iload 5, 2) := by decide +kernel
theorem dX0_sound_75 : decode cX0_sound 75 = .ok (.putfield 97, 3) := by decide +kernel
theorem dX0_sound_78 : decode cX0_sound 78 = .ok (.aload_n 3, 1) := by decide +kernel
theorem dX0_sound_79 : decode cX0_sound 79 = .ok (.aload_n 0, 1) := by decide +kernel
theorem dX0_sound_80 : decode cX0_sound 80 = .ok (.iload 4, 2) := by decide +kernel
theorem dX0_sound_82 : decode cX0_sound 82 = .ok (.iload 5, 2) := by decide +kernel
theorem dX0_sound_84 : decode cX0_sound 84 = .ok (.invokevirtual 102, 3) := by decide +kernel
theorem dX0_sound_87 : decode cX0_sound 87 = .ok (.putfield 105, 3) := by decide +kernel
theorem dX0_sound_90 : decode cX0_sound 90 = .ok (.aload_n 3, 1) := by decide +kernel
theorem dX0_sound_91 : decode cX0_sound 91 = .ok (.aload_n 0, 1) := by decide +kernel
theorem dX0_sound_92 : decode cX0_sound 92 = .ok (.iload 4, 2) := by decide +kernel
theorem dX0_sound_94 : decode cX0_sound 94 = .ok (.iload 5, 2) := by decide +kernel
theorem dX0_sound_96 : decode cX0_sound 96 = .ok (.invokevirtual 108, 3) := by decide +kernel
theorem dX0_sound_99 : decode cX0_sound 99 = .ok (.putfield 111, 3) := by decide +kernel
theorem dX0_sound_102 : decode cX0_sound 102 = .ok (.aload_n 3, 1) := by decide +kernel
theorem dX0_sound_103 : decode cX0_sound 103 = .ok (.aload_n 3, 1) := by decide +kernel
theorem dX0_sound_104 : decode cX0_sound 104 = .ok (.getfield 105, 3) := by decide +kernel
theorem dX0_sound_107 : decode cX0_sound 107 = .ok (.ifCond .le 20, 3) := by decide +kernel
theorem dX0_sound_110 : decode cX0_sound 110 = .ok (.aload_n 3, 1) := by decide +kernel
theorem dX0_sound_111 : decode cX0_sound 111 = .ok (.getfield 111, 3) := by decide +kernel
theorem dX0_sound_114 : decode cX0_sound 114 = .ok (.aload_n 0, 1) := by decide +kernel
theorem dX0_sound_115 : decode cX0_sound 115 = .ok (.getfield 27, 3) := by decide +kernel
theorem dX0_sound_118 : decode cX0_sound 118 = .ok (.iconst 1, 1) := by decide +kernel
theorem dX0_sound_119 : decode cX0_sound 119 = .ok (.isub, 1) := by decide +kernel
theorem dX0_sound_120 : decode cX0_sound 120 = .ok (.if_icmp .ge 7, 3) := by decide +kernel
theorem dX0_sound_123 : decode cX0_sound 123 = .ok (.iconst 1, 1) := by decide +kernel
theorem dX0_sound_124 : decode cX0_sound 124 = .ok (.goto 4, 3) := by decide +kernel
theorem dX0_sound_127 : decode cX0_sound 127 = .ok (.iconst 0, 1) := by decide +kernel
theorem dX0_sound_128 : decode cX0_sound 128 = .ok (.putfield 114, 3) := by decide +kernel
theorem dX0_sound_131 : decode cX0_sound 131 = .ok (.aload_n 3, 1) := by decide +kernel
theorem dX0_sound_132 : decode cX0_sound 132 = .ok (.aload_n 0, 1) := by decide +kernel
theorem dX0_sound_133 : decode cX0_sound 133 = .ok (.aload_n 3, 1) := by decide +kernel
theorem dX0_sound_134 : decode cX0_sound 134 = .ok (.getfield 105, 3) := by decide +kernel
theorem dX0_sound_137 : decode cX0_sound 137 = .ok (.aload_n 3, 1) := by decide +kernel
theorem dX0_sound_138 : decode cX0_sound 138 = .ok (.getfield 111, 3) := by decide +kernel
theorem dX0_sound_141 : decode cX0_sound 141 = .ok (.invokevirtual 117, 3) := by decide +kernel
theorem dX0_sound_144 : decode cX0_sound 144 = .ok (.putfield 121, 3) := by decide +kernel
theorem dX0_sound_147 : decode cX0_sound 147 = .ok (.aload_n 3, 1) := by decide +kernel
theorem dX0_sound_148 : decode cX0_sound 148 = .ok (.aload_n 3, 1) := by decide +kernel
theorem dX0_sound_149 : decode cX0_sound 149 = .ok (.getfield 114, 3) := by decide +kernel
theorem dX0_sound_152 : decode cX0_sound 152 = .ok (.ifCond .eq 20, 3) := by decide +kernel
theorem dX0_sound_155 : decode cX0_sound 155 = .ok (.aload_n 0, 1) := by decide +kernel
theorem dX0_sound_156 : decode cX0_sound 156 = .ok (.aload_n 3, 1) := by decide +kernel
theorem dX0_sound_157 : decode cX0_sound 157 = .ok (.getfield 105, 3) := by decide +kernel
theorem dX0_sound_160 : decode cX0_sound 160 = .ok (.aload_n 3, 1) := by decide +kernel
theorem dX0_sound_161 : decode cX0_sound 161 = .ok (.getfield 111, 3) := by decide +kernel
theorem dX0_sound_164 : decode cX0_sound 164 = .ok (.iload 5, 2) := by decide +kernel
theorem dX0_sound_166 : decode cX0_sound 166 = .ok (.invokevirtual 124, 3) := by decide +kernel
theorem dX0_sound_169 : decode cX0_sound 169 = .ok (.goto 4, 3) := by decide +kernel
theorem dX0_sound_172 : decode cX0_sound 172 = .ok (.iconst 0, 1) := by decide +kernel
theorem dX0_sound_173 : decode cX0_sound 173 = .ok (.putfield 127, 3) := by decide +kernel
theorem dX0_sound_176 : decode cX0_sound 176 = .ok (.aload_n 0, 1) := by decide +kernel
theorem dX0_sound_177 : decode cX0_sound 177 = .ok (.aload_n 3, 1) := by decide +kernel
theorem dX0_sound_178 : decode cX0_sound 178 = .ok (.invokevirtual 129, 3) := by decide +kernel
theorem dX0_sound_181 : decode cX0_sound 181 = .ok (.iconst 1, 1) := by decide +kernel
theorem dX0_sound_182 : decode cX0_sound 182 = .ok (.ireturn, 1) := by decide +kernel
theorem hcX0_sound : yX0_sound.cls ≠ "java/lang/invoke/MethodHandle" ∧ yX0_sound.cls ≠ "java/lang/invoke/VarHandle" ∧ (parseMethodDescriptor yX0_sound.desc).map (fun d => d.parameters.length) = some 3 := ⟨by decide +kernel, by decide +kernel, by decide +kernel⟩
def fX0_sound_j128 (La : sg_L) (o3 : Int) (u14 : Int) (s25 : sg_M) (Q : Int → sg_M → Prop) (y0_128 : Int) : Prop := sg_B y0_128 ∧ ∀ s29 : sg_M, s29 = sg_up s25 o3 5 y0_128 → fX0_isTwice La s29 (s29 o3 2) (s29 o3 3) (fun u33 => ∀ s35 : sg_M, s35 = sg_up s29 o3 6 u33 → (((s35 o3 5) = 0 → ∀ s39 : sg_M, s39 = sg_up s35 o3 4 0 → fX0_tellStrengths La s39 o3 (fun s41 => Q 1 s41)) ∧ (¬ ((s35 o3 5) = 0) → fX0_rings s35 (s35 o3 2) (s35 o3 3) u14 (fun u44 => ∀ s46 : sg_M, s46 = sg_up s35 o3 4 u44 → fX0_tellStrengths La s46 o3 (fun s48 => Q 1 s48)))))
def fX0_sound_j127  (k128 : Int → Prop)  : Prop := k128 0
def fX0_sound (La : sg_L) (s0 : sg_M) (x1 : Int) (x2 : Int) (o3 : Int) (Q : Int → sg_M → Prop) : Prop := ((x1 < 0 → Q 0 s0) ∧ (¬ (x1 < 0) → (((s0 35 1) ≤ x1 → Q 0 s0) ∧ (¬ ((s0 35 1) ≤ x1) → ((x2 < 0 → Q 0 s0) ∧ (¬ (x2 < 0) → ((5 < x2 → Q 0 s0) ∧ (¬ (5 < x2) → (((s0 32 5) = (-1) → fX4_at La s0 35 x1 (fun u10 => sg_R (((2 * x2) + 1) * (s0 32 4)) ∧ fX0_leastTone s0 u10 (((2 * x2) + 1) * (s0 32 4)) 2000 (fun u14 => ((u14 ≠ 0 → ∀ s17 : sg_M, s17 = sg_up s0 o3 1 u14 → fX0_firstOfRun s17 u10 u14 (fun u19 => ∀ s21 : sg_M, s21 = sg_up s17 o3 2 u19 → fX0_lastOfRun s21 u10 u14 (fun u23 => ∀ s25 : sg_M, s25 = sg_up s21 o3 3 u23 → (((s25 o3 2) ≤ 0 → (fX0_sound_j127  (fX0_sound_j128 La o3 u14 s25 Q))) ∧ (¬ ((s25 o3 2) ≤ 0) → sg_R ((s25 32 3) - 1) ∧ ((((s25 32 3) - 1) ≤ (s25 o3 3) → (fX0_sound_j127  (fX0_sound_j128 La o3 u14 s25 Q))) ∧ (¬ (((s25 32 3) - 1) ≤ (s25 o3 3)) → (fX0_sound_j128 La o3 u14 s25 Q) 1))))))) ∧ (u14 = 0 → Q 0 s0))))) ∧ (¬ ((s0 32 5) = (-1)) → Q 0 s0))))))))))
set_option maxHeartbeats 4000000 in
set_option maxRecDepth 100000 in
theorem CX0_sound {l : Launch} {G : sg_G} {La : sg_L} {s0 : sg_M} (hst : sg_St La) {x1 : Int} (r1 : sg_R x1) {x2 : Int} (r2 : sg_R x2) {o3 : Int} (t3 : sg_O La o3 10) {Q : Int → sg_M → Prop} (hf : fX0_sound La s0 x1 x2 o3 Q) : sg_C l G yX0_sound cX0_sound 6 (some .boolean) 4 0 0 La s0 [sg_r 32, sg_i x1, sg_i x2, sg_r o3] (sg_HZ La Q) := by
  refine sg_body (by decide +kernel) (Nat.le_of_ble_eq_true rfl) ?_
  intro p e s m args below meth c F hnm
  unfold fX0_sound at hf
  show sg_W p l e (sg_rm 4 0 0) s m args below meth c (MQ below (sg_Q (some .boolean) G La s.heap.size (sg_HZ La Q)) args s 0 0 (sg_A La s.heap.size)) 6 G (sg_A La s.heap.size) La s0 0 0 0 [(0, sg_r 32), (1, sg_i x1), (2, sg_i x2), (3, sg_r o3)] []
  refine gw_iload_n F 1 rfl rfl dX0_sound_0 ?_
  refine gw_if_lt F (tgt := 32) dX0_sound_1 (by decide) r1 (fun c1 => ?_) (fun c1 => ?_)
  · have hf := hf.1 c1
    refine gw_iconst F dX0_sound_32 ?_
    exact gr_HZ F (by decide) hf (by decide) (by decide) dX0_sound_33
  · have hf := hf.2 c1
    refine gw_iload_n F 1 rfl rfl dX0_sound_4 ?_
    refine gw_aload_n F 0 rfl rfl (by decide) dX0_sound_5 ?_
    refine gw_get3 F (so_32 hst) (by decide) rfl sg_lay_RX0 (j := 2) (by decide) (o1 := 35) (by first | rfl | omega) rfl (host := "") (.inl kw_254) dX0_sound_6 (fun h2 => ?_)
    refine gw_get0 F (so_35 hst) (by decide) rfl sg_lay_RX4 (j := 1) (by decide) rfl (.inr kw_202) dX0_sound_9 (fun h3 => ?_)
    refine gw_icmp_ge F (tgt := 32) dX0_sound_12 (by decide) r1 h3 (fun c4 => ?_) (fun c4 => ?_)
    · have hf := hf.1 c4
      refine gw_iconst F dX0_sound_32 ?_
      exact gr_HZ F (by decide) hf (by decide) (by decide) dX0_sound_33
    · have hf := hf.2 c4
      refine gw_iload_n F 2 rfl rfl dX0_sound_15 ?_
      refine gw_if_lt F (tgt := 32) dX0_sound_16 (by decide) r2 (fun c5 => ?_) (fun c5 => ?_)
      · have hf := hf.1 c5
        refine gw_iconst F dX0_sound_32 ?_
        exact gr_HZ F (by decide) hf (by decide) (by decide) dX0_sound_33
      · have hf := hf.2 c5
        refine gw_iload_n F 2 rfl rfl dX0_sound_19 ?_
        refine gw_iconst F dX0_sound_20 ?_
        refine gw_icmp_gt F (tgt := 32) dX0_sound_21 (by decide) r2 (by decide) (fun c6 => ?_) (fun c6 => ?_)
        · have hf := hf.1 c6
          refine gw_iconst F dX0_sound_32 ?_
          exact gr_HZ F (by decide) hf (by decide) (by decide) dX0_sound_33
        · have hf := hf.2 c6
          refine gw_aload_n F 0 rfl rfl (by decide) dX0_sound_24 ?_
          refine gw_get0 F (so_32 hst) (by decide) rfl sg_lay_RX0 (j := 5) (by decide) rfl (host := "") (.inl kw_259) dX0_sound_25 (fun h7 => ?_)
          refine gw_iconst F dX0_sound_28 ?_
          refine gw_icmp_eq F (tgt := 34) dX0_sound_29 (by decide) h7 (by decide) (fun c8 => ?_) (fun c8 => ?_)
          · have hf := hf.1 c8
            refine gw_aload_n F 0 rfl rfl (by decide) dX0_sound_34 ?_
            refine gw_get3 F (so_32 hst) (by decide) rfl sg_lay_RX0 (j := 2) (by decide) (o1 := 35) (by first | rfl | omega) rfl (host := "") (.inl kw_254) dX0_sound_35 (fun h9 => ?_)
            refine gw_iload_n F 1 rfl rfl dX0_sound_38 ?_
            refine gk_PI F (gc_V F (S := []) (As := [sg_i x1]) (T := TX4) (N := 3) (CX4_at (so_35 hst) r1 hf) (so_35 hst) (by decide) rfl kw_546 kw_97 kw_555 kw_544 kw_545 hcX4_at ⟨by decide, by decide⟩ rfl rfl (Nat.le_of_ble_eq_true rfl) ⟨by decide, by decide⟩ dX0_sound_39) (fun u10 h11 hf => ?_)
            refine gw_istore F (by decide) rfl dX0_sound_42 ?_
            refine gw_aload_n F 1 rfl rfl (by decide) dX0_sound_44 ?_
            refine gw_iload F 0 rfl dX0_sound_45 ?_
            refine gw_iconst F dX0_sound_47 ?_
            refine gw_iload_n F 3 rfl rfl dX0_sound_48 ?_
            refine gw_imul F rfl dX0_sound_49 ?_
            refine gw_iconst F dX0_sound_50 ?_
            refine gw_iadd F rfl dX0_sound_51 ?_
            refine gw_aload_n F 1 rfl rfl (by decide) dX0_sound_52 ?_
            refine gw_get0 F (so_32 hst) (by decide) rfl sg_lay_RX0 (j := 4) (by decide) rfl (host := "") (.inl kw_258) dX0_sound_53 (fun h12 => ?_)
            refine gw_imul F rfl dX0_sound_56 ?_
            refine gw_sipush F rfl dX0_sound_57 ?_
            obtain ⟨g13, hf⟩ := hf
            refine gk_PI F (gc_V F (S := []) (As := [sg_i u10, sg_i (((2 * x2) + 1) * (s0 32 4)), sg_i 2000]) (T := TX0) (N := 11) (CX0_leastTone hst h11 g13 (by decide) hf) (so_32 hst) (by decide) rfl kw_558 kw_100 kw_556 kw_557 kw_6 hcX0_leastTone ⟨by decide, by decide⟩ rfl rfl (Nat.le_of_ble_eq_true rfl) ⟨by decide, by decide⟩ dX0_sound_60) (fun u14 h15 hf => ?_)
            refine gw_istore F (by decide) rfl dX0_sound_63 ?_
            refine gw_iload F 0 rfl dX0_sound_65 ?_
            refine gw_if_ne F (tgt := 72) dX0_sound_67 (by decide) h15 (fun c16 => ?_) (fun c16 => ?_)
            · have hf := hf.1 c16
              refine gw_aload_n F 5 rfl rfl t3.1 dX0_sound_72 ?_
              refine gw_iload F 0 rfl dX0_sound_73 ?_
              obtain ⟨s17, e18⟩ : ∃ z : sg_M, z = sg_up s0 o3 1 u14 := ⟨_, rfl⟩
              have hf := hf s17 e18
              refine gw_put0 F t3 (by decide) rfl sg_lay_RX10 (j := 1) (by decide) h15 e18 tyX10_ok nmX10 rfl (tyX10_ok 1 (by decide)) rfl (.inr kw_287) dX0_sound_75 ?_
              refine gw_aload_n F 5 rfl rfl t3.1 dX0_sound_78 ?_
              refine gw_aload_n F 2 rfl rfl (by decide) dX0_sound_79 ?_
              refine gw_iload F 1 rfl dX0_sound_80 ?_
              refine gw_iload F 0 rfl dX0_sound_82 ?_
              refine gk_PI F (gc_V F (S := [sg_r o3]) (As := [sg_i u10, sg_i u14]) (T := TX0) (N := 11) (CX0_firstOfRun hst h11 h15 hf) (so_32 hst) (by decide) rfl kw_571 kw_100 kw_569 kw_570 kw_9 hcX0_firstOfRun ⟨by decide, by decide⟩ rfl rfl (Nat.le_of_ble_eq_true rfl) ⟨by decide, by decide⟩ dX0_sound_84) (fun u19 h20 hf => ?_)
              obtain ⟨s21, e22⟩ : ∃ z : sg_M, z = sg_up s17 o3 2 u19 := ⟨_, rfl⟩
              have hf := hf s21 e22
              refine gw_put0 F t3 (by decide) rfl sg_lay_RX10 (j := 2) (by decide) h20 e22 tyX10_ok nmX10 rfl (tyX10_ok 2 (by decide)) rfl (.inr kw_290) dX0_sound_87 ?_
              refine gw_aload_n F 5 rfl rfl t3.1 dX0_sound_90 ?_
              refine gw_aload_n F 2 rfl rfl (by decide) dX0_sound_91 ?_
              refine gw_iload F 1 rfl dX0_sound_92 ?_
              refine gw_iload F 0 rfl dX0_sound_94 ?_
              refine gk_PI F (gc_V F (S := [sg_r o3]) (As := [sg_i u10, sg_i u14]) (T := TX0) (N := 11) (CX0_lastOfRun hst h11 h15 hf) (so_32 hst) (by decide) rfl kw_574 kw_100 kw_572 kw_573 kw_10 hcX0_lastOfRun ⟨by decide, by decide⟩ rfl rfl (Nat.le_of_ble_eq_true rfl) ⟨by decide, by decide⟩ dX0_sound_96) (fun u23 h24 hf => ?_)
              obtain ⟨s25, e26⟩ : ∃ z : sg_M, z = sg_up s21 o3 3 u23 := ⟨_, rfl⟩
              have hf := hf s25 e26
              refine gw_put0 F t3 (by decide) rfl sg_lay_RX10 (j := 3) (by decide) h24 e26 tyX10_ok nmX10 rfl (tyX10_ok 3 (by decide)) rfl (.inr kw_293) dX0_sound_99 ?_
              refine gw_aload_n F 5 rfl rfl t3.1 dX0_sound_102 ?_
              refine gw_aload_n F 5 rfl rfl t3.1 dX0_sound_103 ?_
              refine gw_get0 F t3 (by decide) rfl sg_lay_RX10 (j := 2) (by decide) rfl (.inr kw_290) dX0_sound_104 (fun h27 => ?_)
              have J128 : ∀ (y0_128 : Int), sg_R y0_128 → (fX0_sound_j128 La o3 u14 s25 Q) y0_128 → sg_W p l e (sg_rm 4 0 0) s m args below meth c (MQ below (sg_Q (some .boolean) G La s.heap.size (sg_HZ La Q)) args s 0 0 (sg_A La s.heap.size)) 6 G (sg_A La s.heap.size) La s25 0 0 128 [(0, sg_r 32), (3, sg_r o3), (5, sg_i u14)] [sg_i y0_128, sg_r o3] := by
                intro y0_128 ry0_128 hf
                unfold fX0_sound_j128 at hf
                obtain ⟨g28, hf⟩ := hf
                obtain ⟨s29, e30⟩ : ∃ z : sg_M, z = sg_up s25 o3 5 y0_128 := ⟨_, rfl⟩
                have hf := hf s29 e30
                refine gw_put1 F t3 (by decide) rfl sg_lay_RX10 (j := 5) (by decide) g28 e30 tyX10_ok nmX10 rfl (tyX10_ok 5 (by decide)) rfl (.inr kw_299) dX0_sound_128 ?_
                refine gw_aload_n F 1 rfl rfl t3.1 dX0_sound_131 ?_
                refine gw_aload_n F 0 rfl rfl (by decide) dX0_sound_132 ?_
                refine gw_aload_n F 1 rfl rfl t3.1 dX0_sound_133 ?_
                refine gw_get0 F t3 (by decide) rfl sg_lay_RX10 (j := 2) (by decide) rfl (.inr kw_290) dX0_sound_134 (fun h31 => ?_)
                refine gw_aload_n F 1 rfl rfl t3.1 dX0_sound_137 ?_
                refine gw_get0 F t3 (by decide) rfl sg_lay_RX10 (j := 3) (by decide) rfl (.inr kw_293) dX0_sound_138 (fun h32 => ?_)
                refine gk_PZ F (gc_V F (S := [sg_r o3]) (As := [sg_i (s29 o3 2), sg_i (s29 o3 3)]) (T := TX0) (N := 11) (CX0_isTwice hst h31 h32 hf) (so_32 hst) (by decide) rfl kw_577 kw_100 kw_575 kw_576 kw_11 hcX0_isTwice ⟨by decide, by decide⟩ rfl rfl (Nat.le_of_ble_eq_true rfl) ⟨by decide, by decide⟩ dX0_sound_141) (fun u33 h34 hf => ?_)
                obtain ⟨s35, e36⟩ : ∃ z : sg_M, z = sg_up s29 o3 6 u33 := ⟨_, rfl⟩
                have hf := hf s35 e36
                refine gw_put1 F t3 (by decide) rfl sg_lay_RX10 (j := 6) (by decide) h34 e36 tyX10_ok nmX10 rfl (tyX10_ok 6 (by decide)) rfl (.inr kw_302) dX0_sound_144 ?_
                refine gw_aload_n F 1 rfl rfl t3.1 dX0_sound_147 ?_
                refine gw_aload_n F 1 rfl rfl t3.1 dX0_sound_148 ?_
                refine gw_get1 F t3 (by decide) rfl sg_lay_RX10 (j := 5) (by decide) rfl (.inr kw_299) dX0_sound_149 (fun h37 => ?_)
                refine gw_if_eq F (tgt := 172) dX0_sound_152 (by decide) (sg_B_R h37) (fun c38 => ?_) (fun c38 => ?_)
                · have hf := hf.1 c38
                  refine gw_iconst F dX0_sound_172 ?_
                  obtain ⟨s39, e40⟩ : ∃ z : sg_M, z = sg_up s35 o3 4 0 := ⟨_, rfl⟩
                  have hf := hf s39 e40
                  refine gw_put0 F t3 (by decide) rfl sg_lay_RX10 (j := 4) (by decide) (by decide) e40 tyX10_ok nmX10 rfl (tyX10_ok 4 (by decide)) rfl (.inr kw_296) dX0_sound_173 ?_
                  refine gw_aload_n F 0 rfl rfl (by decide) dX0_sound_176 ?_
                  refine gw_aload_n F 1 rfl rfl t3.1 dX0_sound_177 ?_
                  refine gk_HV F (gc_V F (S := []) (As := [sg_r o3]) (T := TX0) (N := 11) (CX0_tellStrengths hst t3 hf) (so_32 hst) (by decide) rfl kw_583 kw_100 kw_581 kw_582 kw_13 hcX0_tellStrengths ⟨by decide, by decide⟩ rfl rfl (Nat.le_of_ble_eq_true rfl) ⟨by decide, by decide⟩ dX0_sound_178) (fun s41 hf => ?_)
                  refine gw_iconst F dX0_sound_181 ?_
                  exact gr_HZ F (by decide) hf (by decide) (by decide) dX0_sound_182
                · have hf := hf.2 c38
                  refine gw_aload_n F 0 rfl rfl (by decide) dX0_sound_155 ?_
                  refine gw_aload_n F 1 rfl rfl t3.1 dX0_sound_156 ?_
                  refine gw_get0 F t3 (by decide) rfl sg_lay_RX10 (j := 2) (by decide) rfl (.inr kw_290) dX0_sound_157 (fun h42 => ?_)
                  refine gw_aload_n F 1 rfl rfl t3.1 dX0_sound_160 ?_
                  refine gw_get0 F t3 (by decide) rfl sg_lay_RX10 (j := 3) (by decide) rfl (.inr kw_293) dX0_sound_161 (fun h43 => ?_)
                  refine gw_iload F 2 rfl dX0_sound_164 ?_
                  refine gk_PI F (gc_V F (S := [sg_r o3]) (As := [sg_i (s35 o3 2), sg_i (s35 o3 3), sg_i u14]) (T := TX0) (N := 11) (CX0_rings hst h42 h43 h15 hf) (so_32 hst) (by decide) rfl kw_580 kw_100 kw_578 kw_579 kw_12 hcX0_rings ⟨by decide, by decide⟩ rfl rfl (Nat.le_of_ble_eq_true rfl) ⟨by decide, by decide⟩ dX0_sound_166) (fun u44 h45 hf => ?_)
                  refine gw_goto F (tgt := 173) dX0_sound_169 (by decide) ?_
                  obtain ⟨s46, e47⟩ : ∃ z : sg_M, z = sg_up s35 o3 4 u44 := ⟨_, rfl⟩
                  have hf := hf s46 e47
                  refine gw_put0 F t3 (by decide) rfl sg_lay_RX10 (j := 4) (by decide) h45 e47 tyX10_ok nmX10 rfl (tyX10_ok 4 (by decide)) rfl (.inr kw_296) dX0_sound_173 ?_
                  refine gw_aload_n F 0 rfl rfl (by decide) dX0_sound_176 ?_
                  refine gw_aload_n F 1 rfl rfl t3.1 dX0_sound_177 ?_
                  refine gk_HV F (gc_V F (S := []) (As := [sg_r o3]) (T := TX0) (N := 11) (CX0_tellStrengths hst t3 hf) (so_32 hst) (by decide) rfl kw_583 kw_100 kw_581 kw_582 kw_13 hcX0_tellStrengths ⟨by decide, by decide⟩ rfl rfl (Nat.le_of_ble_eq_true rfl) ⟨by decide, by decide⟩ dX0_sound_178) (fun s48 hf => ?_)
                  refine gw_iconst F dX0_sound_181 ?_
                  exact gr_HZ F (by decide) hf (by decide) (by decide) dX0_sound_182
              have J127 : (fX0_sound_j127  (fX0_sound_j128 La o3 u14 s25 Q)) → sg_W p l e (sg_rm 4 0 0) s m args below meth c (MQ below (sg_Q (some .boolean) G La s.heap.size (sg_HZ La Q)) args s 0 0 (sg_A La s.heap.size)) 6 G (sg_A La s.heap.size) La s25 0 0 127 [(0, sg_r 32), (3, sg_r o3), (5, sg_i u14)] [sg_r o3] := by
                intro hf
                unfold fX0_sound_j127 at hf
                refine gw_iconst F dX0_sound_127 ?_
                refine gw_sub [0, 1, 2] rfl ?_
                exact J128 0 (by decide) hf
              refine gw_if_le F (tgt := 127) dX0_sound_107 (by decide) h27 (fun c49 => ?_) (fun c49 => ?_)
              · have hf := hf.1 c49
                refine gw_sub [2, 5, 0] rfl ?_
                exact J127  hf
              · have hf := hf.2 c49
                refine gw_aload_n F 5 rfl rfl t3.1 dX0_sound_110 ?_
                refine gw_get0 F t3 (by decide) rfl sg_lay_RX10 (j := 3) (by decide) rfl (.inr kw_293) dX0_sound_111 (fun h50 => ?_)
                refine gw_aload_n F 2 rfl rfl (by decide) dX0_sound_114 ?_
                refine gw_get0 F (so_32 hst) (by decide) rfl sg_lay_RX0 (j := 3) (by decide) rfl (host := "") (.inl kw_257) dX0_sound_115 (fun h51 => ?_)
                refine gw_iconst F dX0_sound_118 ?_
                refine gw_isub F rfl dX0_sound_119 ?_
                obtain ⟨g52, hf⟩ := hf
                refine gw_icmp_ge F (tgt := 127) dX0_sound_120 (by decide) h50 g52 (fun c53 => ?_) (fun c53 => ?_)
                · have hf := hf.1 c53
                  refine gw_sub [2, 5, 0] rfl ?_
                  exact J127  hf
                · have hf := hf.2 c53
                  refine gw_iconst F dX0_sound_123 ?_
                  refine gw_goto F (tgt := 128) dX0_sound_124 (by decide) ?_
                  refine gw_sub [2, 5, 0] rfl ?_
                  exact J128 1 (by decide) hf
            · have hf := hf.2 c16
              refine gw_iconst F dX0_sound_70 ?_
              exact gr_HZ F (by decide) hf (by decide) (by decide) dX0_sound_71
          · have hf := hf.2 c8
            refine gw_iconst F dX0_sound_32 ?_
            exact gr_HZ F (by decide) hf (by decide) (by decide) dX0_sound_33

theorem dX11_tone_0 : decode cX11_tone 0 = .ok (.iload_n 1, 1) := by decide +kernel
theorem dX11_tone_1 : decode cX11_tone 1 = .ok (.iload_n 2, 1) := by decide +kernel
theorem dX11_tone_2 : decode cX11_tone 2 = .ok (.invokestatic 158, 3) := by decide +kernel
theorem dX11_tone_5 : decode cX11_tone 5 = .ok (.ifCond .ne 5, 3) := by decide +kernel
theorem dX11_tone_8 : decode cX11_tone 8 = .ok (.iconst (-1), 1) := by decide +kernel
theorem dX11_tone_9 : decode cX11_tone 9 = .ok (.ireturn, 1) := by decide +kernel
theorem dX11_tone_10 : decode cX11_tone 10 = .ok (.aload_n 0, 1) := by decide +kernel
theorem dX11_tone_11 : decode cX11_tone 11 = .ok (.getfield 54, 3) := by decide +kernel
theorem dX11_tone_14 : decode cX11_tone 14 = .ok (.aload_n 0, 1) := by decide +kernel
theorem dX11_tone_15 : decode cX11_tone 15 = .ok (.getfield 39, 3) := by decide +kernel
theorem dX11_tone_18 : decode cX11_tone 18 = .ok (.getfield 112, 3) := by decide +kernel
theorem dX11_tone_21 : decode cX11_tone 21 = .ok (.iload_n 1, 1) := by decide +kernel
theorem dX11_tone_22 : decode cX11_tone 22 = .ok (.iload_n 2, 1) := by decide +kernel
theorem dX11_tone_23 : decode cX11_tone 23 = .ok (.invokevirtual 171, 3) := by decide +kernel
theorem dX11_tone_26 : decode cX11_tone 26 = .ok (.aload_n 0, 1) := by decide +kernel
theorem dX11_tone_27 : decode cX11_tone 27 = .ok (.getfield 54, 3) := by decide +kernel
theorem dX11_tone_30 : decode cX11_tone 30 = .ok (.iload_n 3, 1) := by decide +kernel
theorem dX11_tone_31 : decode cX11_tone 31 = .ok (.iload 4, 2) := by decide +kernel
theorem dX11_tone_33 : decode cX11_tone 33 = .ok (.aload_n 0, 1) := by decide +kernel
theorem dX11_tone_34 : decode cX11_tone 34 = .ok (.getfield 61, 3) := by decide +kernel
theorem dX11_tone_37 : decode cX11_tone 37 = .ok (.invokevirtual 185, 3) := by decide +kernel
theorem dX11_tone_40 : decode cX11_tone 40 = .ok (.ifCond .eq 13, 3) := by decide +kernel
theorem dX11_tone_43 : decode cX11_tone 43 = .ok (.aload_n 0, 1) := by decide +kernel
theorem dX11_tone_44 : decode cX11_tone 44 = .ok (.getfield 61, 3) := by decide +kernel
theorem dX11_tone_47 : decode cX11_tone 47 = .ok (.getfield 189, 3) := by decide +kernel
theorem dX11_tone_50 : decode cX11_tone 50 = .ok (.goto 4, 3) := by decide +kernel
theorem dX11_tone_53 : decode cX11_tone 53 = .ok (.iconst (-1), 1) := by decide +kernel
theorem dX11_tone_54 : decode cX11_tone 54 = .ok (.ireturn, 1) := by decide +kernel
theorem hcX11_tone : yX11_tone.cls ≠ "java/lang/invoke/MethodHandle" ∧ yX11_tone.cls ≠ "java/lang/invoke/VarHandle" ∧ (parseMethodDescriptor yX11_tone.desc).map (fun d => d.parameters.length) = some 4 := ⟨by decide +kernel, by decide +kernel, by decide +kernel⟩
def fX11_tone (La : sg_L) (s0 : sg_M) (x1 : Int) (x2 : Int) (x3 : Int) (x4 : Int) (Q : Int → sg_M → Prop) : Prop := fX11_isBend x1 x2 (fun u1 => ((u1 ≠ 0 → (0 ≤ (s0 4 0)) ∧ fX0_bendTo La s0 (s0 4 0) x1 x2 (fun s9 => fX0_sound La s9 x3 x4 37 (fun u12 s14 => ((u12 = 0 → Q (-1) s14) ∧ (¬ (u12 = 0) → Q (s14 37 1) s14))))) ∧ (u1 = 0 → Q (-1) s0)))
set_option maxHeartbeats 4000000 in
set_option maxRecDepth 100000 in
theorem CX11_tone {l : Launch} {G : sg_G} {La : sg_L} {s0 : sg_M} (hst : sg_St La) {x1 : Int} (r1 : sg_R x1) {x2 : Int} (r2 : sg_R x2) {x3 : Int} (r3 : sg_R x3) {x4 : Int} (r4 : sg_R x4) {Q : Int → sg_M → Prop} (hf : fX11_tone La s0 x1 x2 x3 x4 Q) : sg_C l G yX11_tone cX11_tone 5 (some .int) 5 0 0 La s0 [sg_r 0, sg_i x1, sg_i x2, sg_i x3, sg_i x4] (sg_HI La Q) := by
  refine sg_body (by decide +kernel) (Nat.le_of_ble_eq_true rfl) ?_
  intro p e s m args below meth c F hnm
  unfold fX11_tone at hf
  show sg_W p l e (sg_rm 5 0 0) s m args below meth c (MQ below (sg_Q (some .int) G La s.heap.size (sg_HI La Q)) args s 0 0 (sg_A La s.heap.size)) 5 G (sg_A La s.heap.size) La s0 0 0 0 [(0, sg_r 0), (1, sg_i x1), (2, sg_i x2), (3, sg_i x3), (4, sg_i x4)] []
  refine gw_iload_n F 1 rfl rfl dX11_tone_0 ?_
  refine gw_iload_n F 2 rfl rfl dX11_tone_1 ?_
  refine gk_PZ F (gc_S F (S := []) (As := [sg_i x1, sg_i x2]) (CX11_isBend r1 r2 hf) kw_502 kw_90 kw_500 kw_501 hcX11_isBend ⟨by decide, by decide⟩ rfl rfl (Nat.le_of_ble_eq_true rfl) ⟨by decide, by decide⟩ dX11_tone_2) (fun u1 h2 hf => ?_)
  refine gw_if_ne F (tgt := 10) dX11_tone_5 (by decide) (sg_B_R h2) (fun c3 => ?_) (fun c3 => ?_)
  · have hf := hf.1 c3
    refine gw_aload_n F 0 rfl rfl (by decide) dX11_tone_10 ?_
    refine gw_get7 F (so_0 hst) (by decide) rfl sg_lay_RX11 (j := 5) (by decide) (o1 := 32) (by first | rfl | omega) rfl (host := "") (.inl kw_331) dX11_tone_11 (fun h4 => ?_)
    refine gw_aload_n F 0 rfl rfl (by decide) dX11_tone_14 ?_
    refine gw_get7 F (so_0 hst) (by decide) rfl sg_lay_RX11 (j := 2) (by decide) (o1 := 4) (by first | rfl | omega) rfl (host := "") (.inl kw_328) dX11_tone_15 (fun h5 => ?_)
    refine gw_get4 F (so_4 hst) (by decide) rfl sg_lay_RX7 (j := 0) (by decide) rfl (.inr kw_234) dX11_tone_18 (fun h6 => ?_)
    refine gw_iload_n F 1 rfl rfl dX11_tone_21 ?_
    refine gw_iload_n F 2 rfl rfl dX11_tone_22 ?_
    obtain ⟨g7, hf⟩ := hf
    have t8 := sg_nn h6 g7
    refine gk_HV F (gc_V F (S := []) (As := [sg_r (s0 4 0), sg_i x1, sg_i x2]) (T := TX0) (N := 11) (CX0_bendTo hst t8 r1 r2 hf) (so_32 hst) (by decide) rfl kw_506 kw_100 kw_503 kw_504 kw_505 hcX0_bendTo ⟨by decide, by decide⟩ rfl rfl (Nat.le_of_ble_eq_true rfl) ⟨by decide, by decide⟩ dX11_tone_23) (fun s9 hf => ?_)
    refine gw_aload_n F 0 rfl rfl (by decide) dX11_tone_26 ?_
    refine gw_get7 F (so_0 hst) (by decide) rfl sg_lay_RX11 (j := 5) (by decide) (o1 := 32) (by first | rfl | omega) rfl (host := "") (.inl kw_331) dX11_tone_27 (fun h10 => ?_)
    refine gw_iload_n F 3 rfl rfl dX11_tone_30 ?_
    refine gw_iload F 4 rfl dX11_tone_31 ?_
    refine gw_aload_n F 0 rfl rfl (by decide) dX11_tone_33 ?_
    refine gw_get7 F (so_0 hst) (by decide) rfl sg_lay_RX11 (j := 6) (by decide) (o1 := 37) (by first | rfl | omega) rfl (host := "") (.inl kw_332) dX11_tone_34 (fun h11 => ?_)
    refine gk_HZ F (gc_V F (S := []) (As := [sg_i x3, sg_i x4, sg_r 37]) (T := TX0) (N := 11) (CX0_sound hst r3 r4 (so_37 hst) hf) (so_32 hst) (by decide) rfl kw_554 kw_100 kw_551 kw_552 kw_553 hcX0_sound ⟨by decide, by decide⟩ rfl rfl (Nat.le_of_ble_eq_true rfl) ⟨by decide, by decide⟩ dX11_tone_37) (fun u12 s14 h13 hf => ?_)
    refine gw_if_eq F (tgt := 53) dX11_tone_40 (by decide) (sg_B_R h13) (fun c15 => ?_) (fun c15 => ?_)
    · have hf := hf.1 c15
      refine gw_iconst F dX11_tone_53 ?_
      exact gr_HI F (by decide) hf (by decide) (by decide) dX11_tone_54
    · have hf := hf.2 c15
      refine gw_aload_n F 0 rfl rfl (by decide) dX11_tone_43 ?_
      refine gw_get7 F (so_0 hst) (by decide) rfl sg_lay_RX11 (j := 6) (by decide) (o1 := 37) (by first | rfl | omega) rfl (host := "") (.inl kw_332) dX11_tone_44 (fun h16 => ?_)
      refine gw_get0 F (so_37 hst) (by decide) rfl sg_lay_RX10 (j := 1) (by decide) rfl (.inr kw_288) dX11_tone_47 (fun h17 => ?_)
      refine gw_goto F (tgt := 54) dX11_tone_50 (by decide) ?_
      exact gr_HI F h17 hf (by decide) (by decide) dX11_tone_54
  · have hf := hf.2 c3
    refine gw_iconst F dX11_tone_8 ?_
    exact gr_HI F (by decide) hf (by decide) (by decide) dX11_tone_9

theorem dX11_evenAt_0 : decode cX11_evenAt 0 = .ok (.aload_n 0, 1) := by decide +kernel
theorem dX11_evenAt_1 : decode cX11_evenAt 1 = .ok (.getfield 87, 3) := by decide +kernel
theorem dX11_evenAt_4 : decode cX11_evenAt 4 = .ok (.iload_n 1, 1) := by decide +kernel
theorem dX11_evenAt_5 : decode cX11_evenAt 5 = .ok (.invokevirtual 182, 3) := by decide +kernel
theorem dX11_evenAt_8 : decode cX11_evenAt 8 = .ok (.ireturn, 1) := by decide +kernel
theorem hcX11_evenAt : yX11_evenAt.cls ≠ "java/lang/invoke/MethodHandle" ∧ yX11_evenAt.cls ≠ "java/lang/invoke/VarHandle" ∧ (parseMethodDescriptor yX11_evenAt.desc).map (fun d => d.parameters.length) = some 1 := ⟨by decide +kernel, by decide +kernel, by decide +kernel⟩
def fX11_evenAt (La : sg_L) (s0 : sg_M) (x1 : Int) (Q : Int → Prop) : Prop := fX4_at La s0 54 x1 (fun u2 => Q u2)
set_option maxHeartbeats 4000000 in
set_option maxRecDepth 100000 in
theorem CX11_evenAt {l : Launch} {G : sg_G} {La : sg_L} {s0 : sg_M} (hst : sg_St La) {x1 : Int} (r1 : sg_R x1) {Q : Int → Prop} (hf : fX11_evenAt La s0 x1 Q) : sg_C l G yX11_evenAt cX11_evenAt 2 (some .int) 2 0 0 La s0 [sg_r 0, sg_i x1] (sg_PI La s0 Q) := by
  refine sg_body (by decide +kernel) (Nat.le_of_ble_eq_true rfl) ?_
  intro p e s m args below meth c F hnm
  unfold fX11_evenAt at hf
  show sg_W p l e (sg_rm 2 0 0) s m args below meth c (MQ below (sg_Q (some .int) G La s.heap.size (sg_PI La s0 Q)) args s 0 0 (sg_A La s.heap.size)) 2 G (sg_A La s.heap.size) La s0 0 0 0 [(0, sg_r 0), (1, sg_i x1)] []
  refine gw_aload_n F 0 rfl rfl (by decide) dX11_evenAt_0 ?_
  refine gw_get7 F (so_0 hst) (by decide) rfl sg_lay_RX11 (j := 11) (by decide) (o1 := 54) (by first | rfl | omega) rfl (host := "") (.inl kw_337) dX11_evenAt_1 (fun h1 => ?_)
  refine gw_iload_n F 1 rfl rfl dX11_evenAt_4 ?_
  refine gk_PI F (gc_V F (S := []) (As := [sg_i x1]) (T := TX4) (N := 3) (CX4_at (so_54 hst) r1 hf) (so_54 hst) (by decide) rfl kw_546 kw_97 kw_543 kw_544 kw_545 hcX4_at ⟨by decide, by decide⟩ rfl rfl (Nat.le_of_ble_eq_true rfl) ⟨by decide, by decide⟩ dX11_evenAt_5) (fun u2 h3 hf => ?_)
  exact gr_PI F h3 hf (by decide) (by decide) dX11_evenAt_8

theorem dX5_compares_0 : decode cX5_compares 0 = .ok (.aload_n 0, 1) := by decide +kernel
theorem dX5_compares_1 : decode cX5_compares 1 = .ok (.getfield 23, 3) := by decide +kernel
theorem dX5_compares_4 : decode cX5_compares 4 = .ok (.iload_n 2, 1) := by decide +kernel
theorem dX5_compares_5 : decode cX5_compares 5 = .ok (.invokevirtual 115, 3) := by decide +kernel
theorem dX5_compares_8 : decode cX5_compares 8 = .ok (.istore_n 3, 1) := by decide +kernel
theorem dX5_compares_9 : decode cX5_compares 9 = .ok (.aload_n 0, 1) := by decide +kernel
theorem dX5_compares_10 : decode cX5_compares 10 = .ok (.getfield 20, 3) := by decide +kernel
theorem dX5_compares_13 : decode cX5_compares 13 = .ok (.iload_n 2, 1) := by decide +kernel
theorem dX5_compares_14 : decode cX5_compares 14 = .ok (.invokevirtual 115, 3) := by decide +kernel
theorem dX5_compares_17 : decode cX5_compares 17 = .ok (.bipush 60, 2) := by decide +kernel
theorem dX5_compares_19 : decode cX5_compares 19 = .ok (.if_icmp .ne 14, 3) := by decide +kernel
theorem dX5_compares_22 : decode cX5_compares 22 = .ok (.iload_n 1, 1) := by decide +kernel
theorem dX5_compares_23 : decode cX5_compares 23 = .ok (.iload_n 3, 1) := by decide +kernel
theorem dX5_compares_24 : decode cX5_compares 24 = .ok (.if_icmp .ge 7, 3) := by decide +kernel
theorem dX5_compares_27 : decode cX5_compares 27 = .ok (.iconst 1, 1) := by decide +kernel
theorem dX5_compares_28 : decode cX5_compares 28 = .ok (.goto 4, 3) := by decide +kernel
theorem dX5_compares_31 : decode cX5_compares 31 = .ok (.iconst 0, 1) := by decide +kernel
theorem dX5_compares_32 : decode cX5_compares 32 = .ok (.ireturn, 1) := by decide +kernel
theorem dX5_compares_33 : decode cX5_compares 33 = .ok (.aload_n 0, 1) := by decide +kernel
theorem dX5_compares_34 : decode cX5_compares 34 = .ok (.getfield 20, 3) := by decide +kernel
theorem dX5_compares_37 : decode cX5_compares 37 = .ok (.iload_n 2, 1) := by decide +kernel
theorem dX5_compares_38 : decode cX5_compares 38 = .ok (.invokevirtual 115, 3) := by decide +kernel
theorem dX5_compares_41 : decode cX5_compares 41 = .ok (.bipush 62, 2) := by decide +kernel
theorem dX5_compares_43 : decode cX5_compares 43 = .ok (.if_icmp .ne 16, 3) := by decide +kernel
theorem dX5_compares_46 : decode cX5_compares 46 = .ok (.iload_n 1, 1) := by decide +kernel
theorem dX5_compares_47 : decode cX5_compares 47 = .ok (.iload_n 3, 1) := by decide +kernel
theorem dX5_compares_48 : decode cX5_compares 48 = .ok (.if_icmp .le 7, 3) := by decide +kernel
theorem dX5_compares_51 : decode cX5_compares 51 = .ok (.iconst 1, 1) := by decide +kernel
theorem dX5_compares_52 : decode cX5_compares 52 = .ok (.goto 17, 3) := by decide +kernel
theorem dX5_compares_55 : decode cX5_compares 55 = .ok (.iconst 0, 1) := by decide +kernel
theorem dX5_compares_56 : decode cX5_compares 56 = .ok (.goto 13, 3) := by decide +kernel
theorem dX5_compares_59 : decode cX5_compares 59 = .ok (.iload_n 1, 1) := by decide +kernel
theorem dX5_compares_60 : decode cX5_compares 60 = .ok (.iload_n 3, 1) := by decide +kernel
theorem dX5_compares_61 : decode cX5_compares 61 = .ok (.if_icmp .ne 7, 3) := by decide +kernel
theorem dX5_compares_64 : decode cX5_compares 64 = .ok (.iconst 1, 1) := by decide +kernel
theorem dX5_compares_65 : decode cX5_compares 65 = .ok (.goto 4, 3) := by decide +kernel
theorem dX5_compares_68 : decode cX5_compares 68 = .ok (.iconst 0, 1) := by decide +kernel
theorem dX5_compares_69 : decode cX5_compares 69 = .ok (.ireturn, 1) := by decide +kernel
theorem hcX5_compares : yX5_compares.cls ≠ "java/lang/invoke/MethodHandle" ∧ yX5_compares.cls ≠ "java/lang/invoke/VarHandle" ∧ (parseMethodDescriptor yX5_compares.desc).map (fun d => d.parameters.length) = some 2 := ⟨by decide +kernel, by decide +kernel, by decide +kernel⟩
def fX5_compares (La : sg_L) (s0 : sg_M) (o : Int) (x1 : Int) (x2 : Int) (Q : Int → Prop) : Prop := fX4_at La s0 (o + 5) x2 (fun u2 => fX4_at La s0 (o + 3) x2 (fun u5 => ((u5 ≠ 60 → fX4_at La s0 (o + 3) x2 (fun u9 => ((u9 ≠ 62 → ((x1 ≠ u2 → Q 0) ∧ (x1 = u2 → Q 1))) ∧ (u9 = 62 → ((x1 ≤ u2 → Q 0) ∧ (¬ (x1 ≤ u2) → Q 1)))))) ∧ (u5 = 60 → ((u2 ≤ x1 → Q 0) ∧ (¬ (u2 ≤ x1) → Q 1))))))
set_option maxHeartbeats 4000000 in
set_option maxRecDepth 100000 in
theorem CX5_compares {l : Launch} {G : sg_G} {La : sg_L} {s0 : sg_M} {o : Int} (to : sg_O La o 5) {x1 : Int} (r1 : sg_R x1) {x2 : Int} (r2 : sg_R x2) {Q : Int → Prop} (hf : fX5_compares La s0 o x1 x2 Q) : sg_C l G yX5_compares cX5_compares 4 (some .boolean) 2 0 0 La s0 [sg_r o, sg_i x1, sg_i x2] (sg_PZ La s0 Q) := by
  refine sg_body (by decide +kernel) (Nat.le_of_ble_eq_true rfl) ?_
  intro p e s m args below meth c F hnm
  unfold fX5_compares at hf
  show sg_W p l e (sg_rm 2 0 0) s m args below meth c (MQ below (sg_Q (some .boolean) G La s.heap.size (sg_PZ La s0 Q)) args s 0 0 (sg_A La s.heap.size)) 4 G (sg_A La s.heap.size) La s0 0 0 0 [(0, sg_r o), (1, sg_i x1), (2, sg_i x2)] []
  refine gw_aload_n F 0 rfl rfl to.1 dX5_compares_0 ?_
  refine gw_get3 F to (by decide) rfl sg_lay_RX5 (j := 2) (by decide) (o1 := (o + 5)) (by first | rfl | omega) rfl (host := "") (.inl kw_209) dX5_compares_1 (fun h1 => ?_)
  refine gw_iload_n F 2 rfl rfl dX5_compares_4 ?_
  refine gk_PI F (gc_V F (S := []) (As := [sg_i x2]) (T := TX4) (N := 3) (CX4_at (sg_O_of h1 (by decide)) r2 hf) (sg_O_of h1 (by decide)) (by decide) rfl kw_546 kw_97 kw_847 kw_544 kw_545 hcX4_at ⟨by decide, by decide⟩ rfl rfl (Nat.le_of_ble_eq_true rfl) ⟨by decide, by decide⟩ dX5_compares_5) (fun u2 h3 hf => ?_)
  refine gw_istore_n F rfl (by decide) rfl dX5_compares_8 ?_
  refine gw_aload_n F 1 rfl rfl to.1 dX5_compares_9 ?_
  refine gw_get3 F to (by decide) rfl sg_lay_RX5 (j := 1) (by decide) (o1 := (o + 3)) (by first | rfl | omega) rfl (host := "") (.inl kw_208) dX5_compares_10 (fun h4 => ?_)
  refine gw_iload_n F 3 rfl rfl dX5_compares_13 ?_
  refine gk_PI F (gc_V F (S := []) (As := [sg_i x2]) (T := TX4) (N := 3) (CX4_at (sg_O_of h4 (by decide)) r2 hf) (sg_O_of h4 (by decide)) (by decide) rfl kw_546 kw_97 kw_847 kw_544 kw_545 hcX4_at ⟨by decide, by decide⟩ rfl rfl (Nat.le_of_ble_eq_true rfl) ⟨by decide, by decide⟩ dX5_compares_14) (fun u5 h6 hf => ?_)
  refine gw_bipush F rfl dX5_compares_17 ?_
  refine gw_icmp_ne F (tgt := 33) dX5_compares_19 (by decide) h6 (by decide) (fun c7 => ?_) (fun c7 => ?_)
  · have hf := hf.1 c7
    refine gw_aload_n F 1 rfl rfl to.1 dX5_compares_33 ?_
    refine gw_get3 F to (by decide) rfl sg_lay_RX5 (j := 1) (by decide) (o1 := (o + 3)) (by first | rfl | omega) rfl (host := "") (.inl kw_208) dX5_compares_34 (fun h8 => ?_)
    refine gw_iload_n F 3 rfl rfl dX5_compares_37 ?_
    refine gk_PI F (gc_V F (S := []) (As := [sg_i x2]) (T := TX4) (N := 3) (CX4_at (sg_O_of h8 (by decide)) r2 hf) (sg_O_of h8 (by decide)) (by decide) rfl kw_546 kw_97 kw_847 kw_544 kw_545 hcX4_at ⟨by decide, by decide⟩ rfl rfl (Nat.le_of_ble_eq_true rfl) ⟨by decide, by decide⟩ dX5_compares_38) (fun u9 h10 hf => ?_)
    refine gw_bipush F rfl dX5_compares_41 ?_
    refine gw_icmp_ne F (tgt := 59) dX5_compares_43 (by decide) h10 (by decide) (fun c11 => ?_) (fun c11 => ?_)
    · have hf := hf.1 c11
      refine gw_iload_n F 2 rfl rfl dX5_compares_59 ?_
      refine gw_iload_n F 0 rfl rfl dX5_compares_60 ?_
      refine gw_icmp_ne F (tgt := 68) dX5_compares_61 (by decide) r1 h3 (fun c12 => ?_) (fun c12 => ?_)
      · have hf := hf.1 c12
        refine gw_iconst F dX5_compares_68 ?_
        exact gr_PZ F (by decide) hf (by decide) (by decide) dX5_compares_69
      · have hf := hf.2 c12
        refine gw_iconst F dX5_compares_64 ?_
        refine gw_goto F (tgt := 69) dX5_compares_65 (by decide) ?_
        exact gr_PZ F (by decide) hf (by decide) (by decide) dX5_compares_69
    · have hf := hf.2 c11
      refine gw_iload_n F 2 rfl rfl dX5_compares_46 ?_
      refine gw_iload_n F 0 rfl rfl dX5_compares_47 ?_
      refine gw_icmp_le F (tgt := 55) dX5_compares_48 (by decide) r1 h3 (fun c13 => ?_) (fun c13 => ?_)
      · have hf := hf.1 c13
        refine gw_iconst F dX5_compares_55 ?_
        refine gw_goto F (tgt := 69) dX5_compares_56 (by decide) ?_
        exact gr_PZ F (by decide) hf (by decide) (by decide) dX5_compares_69
      · have hf := hf.2 c13
        refine gw_iconst F dX5_compares_51 ?_
        refine gw_goto F (tgt := 69) dX5_compares_52 (by decide) ?_
        exact gr_PZ F (by decide) hf (by decide) (by decide) dX5_compares_69
  · have hf := hf.2 c7
    refine gw_iload_n F 2 rfl rfl dX5_compares_22 ?_
    refine gw_iload_n F 0 rfl rfl dX5_compares_23 ?_
    refine gw_icmp_ge F (tgt := 31) dX5_compares_24 (by decide) r1 h3 (fun c14 => ?_) (fun c14 => ?_)
    · have hf := hf.1 c14
      refine gw_iconst F dX5_compares_31 ?_
      exact gr_PZ F (by decide) hf (by decide) (by decide) dX5_compares_32
    · have hf := hf.2 c14
      refine gw_iconst F dX5_compares_27 ?_
      refine gw_goto F (tgt := 32) dX5_compares_28 (by decide) ?_
      exact gr_PZ F (by decide) hf (by decide) (by decide) dX5_compares_32

theorem dX5_init_0 : decode cX5_init 0 = .ok (.aload_n 0, 1) := by decide +kernel
theorem dX5_init_1 : decode cX5_init 1 = .ok (.invokespecial 3, 3) := by decide +kernel
theorem dX5_init_4 : decode cX5_init 4 = .ok (.aload_n 0, 1) := by decide +kernel
theorem dX5_init_5 : decode cX5_init 5 = .ok (.new 9, 3) := by decide +kernel
theorem dX5_init_8 : decode cX5_init 8 = .ok (.dup, 1) := by decide +kernel
theorem dX5_init_9 : decode cX5_init 9 = .ok (.bipush 40, 2) := by decide +kernel
theorem dX5_init_11 : decode cX5_init 11 = .ok (.invokespecial 13, 3) := by decide +kernel
theorem dX5_init_14 : decode cX5_init 14 = .ok (.putfield 16, 3) := by decide +kernel
theorem dX5_init_17 : decode cX5_init 17 = .ok (.aload_n 0, 1) := by decide +kernel
theorem dX5_init_18 : decode cX5_init 18 = .ok (.new 9, 3) := by decide +kernel
theorem dX5_init_21 : decode cX5_init 21 = .ok (.dup, 1) := by decide +kernel
theorem dX5_init_22 : decode cX5_init 22 = .ok (.bipush 40, 2) := by decide +kernel
theorem dX5_init_24 : decode cX5_init 24 = .ok (.invokespecial 13, 3) := by decide +kernel
theorem dX5_init_27 : decode cX5_init 27 = .ok (.putfield 20, 3) := by decide +kernel
theorem dX5_init_30 : decode cX5_init 30 = .ok (.aload_n 0, 1) := by decide +kernel
theorem dX5_init_31 : decode cX5_init 31 = .ok (.new 9, 3) := by decide +kernel
theorem dX5_init_34 : decode cX5_init 34 = .ok (.dup, 1) := by decide +kernel
theorem dX5_init_35 : decode cX5_init 35 = .ok (.bipush 40, 2) := by decide +kernel
theorem dX5_init_37 : decode cX5_init 37 = .ok (.invokespecial 13, 3) := by decide +kernel
theorem dX5_init_40 : decode cX5_init 40 = .ok (.putfield 23, 3) := by decide +kernel
theorem dX5_init_43 : decode cX5_init 43 = .ok (.aload_n 0, 1) := by decide +kernel
theorem dX5_init_44 : decode cX5_init 44 = .ok (.iconst 0, 1) := by decide +kernel
theorem dX5_init_45 : decode cX5_init 45 = .ok (.putfield 26, 3) := by decide +kernel
theorem dX5_init_48 : decode cX5_init 48 = .ok (.return_, 1) := by decide +kernel
theorem hcX5_init : yX5_init.cls ≠ "java/lang/invoke/MethodHandle" ∧ yX5_init.cls ≠ "java/lang/invoke/VarHandle" ∧ (parseMethodDescriptor yX5_init.desc).map (fun d => d.parameters.length) = some 0 := ⟨by decide +kernel, by decide +kernel, by decide +kernel⟩
def fX5_init (La : sg_L) (s0 : sg_M) (o : Int) (Q : sg_L → sg_M → Prop) : Prop := ∀ (q1 : Nat) (La2 : sg_L), La2 = sg_pu La 24 q1 → ∀ s3 : sg_M, s3 = sg_nw s0 La.1 24 → ∀ o4 : Int, o4 = (La.1 : Int) → fX4_init La2 s3 o4 40 (fun La13 s14 => ∀ s19 : sg_M, s19 = sg_up s14 o 0 o4 → ∀ (q21 : Nat) (La22 : sg_L), La22 = sg_pu La13 24 q21 → ∀ s23 : sg_M, s23 = sg_nw s19 La13.1 24 → ∀ o24 : Int, o24 = (La13.1 : Int) → fX4_init La22 s23 o24 40 (fun La33 s34 => ∀ s39 : sg_M, s39 = sg_up s34 o 1 o24 → ∀ (q41 : Nat) (La42 : sg_L), La42 = sg_pu La33 24 q41 → ∀ s43 : sg_M, s43 = sg_nw s39 La33.1 24 → ∀ o44 : Int, o44 = (La33.1 : Int) → fX4_init La42 s43 o44 40 (fun La53 s54 => ∀ s59 : sg_M, s59 = sg_up s54 o 2 o44 → ∀ s61 : sg_M, s61 = sg_up s59 o 3 0 → sg_sealed La53 s61 o 25 5 ∧ ∀ La63 : sg_L, La63 = sg_se La53 o.toNat 5 → Q La63 s61)))
set_option maxHeartbeats 4000000 in
set_option maxRecDepth 100000 in
theorem CX5_init {l : Launch} {G : sg_G} {La : sg_L} {s0 : sg_M} {o : Int} (to : sg_O La o 25) {Q : sg_L → sg_M → Prop} (hf : fX5_init La s0 o Q) : sg_C l G yX5_init cX5_init 1 (none) 2 6 609 La s0 [sg_r o] (sg_BV (sg_se La o.toNat 5) Q) := by
  refine sg_body (by decide +kernel) (Nat.le_of_ble_eq_true rfl) ?_
  intro p e s m args below meth c F hnm
  unfold fX5_init at hf
  show sg_W p l e (sg_rm 2 6 609) s m args below meth c (MQ below (sg_Q (none) G La s.heap.size (sg_BV (sg_se La o.toNat 5) Q)) args s 6 609 (sg_A La s.heap.size)) 1 G (sg_A La s.heap.size) La s0 0 0 0 [(0, sg_r o)] []
  have hin : meth.name = "<init>" := hnm
  refine gw_aload_n F 0 rfl rfl to.1 dX5_init_0 ?_
  refine gw_objInit F to.1 kw_189 kw_OI kw_OC (Nat.le_of_ble_eq_true rfl) (by decide) (by decide) dX5_init_1 ?_
  refine gw_aload_n F 0 rfl rfl to.1 dX5_init_4 ?_
  refine gy_new F (kd := 24) (T := TX4) (by decide) rfl sg_lay_RX4 tyX4_ok kw_190 kw_191 kw_97 ns_X4 nf_X4 nr_X4 (by decide) (by decide) (List.forall_mem_cons.mpr ⟨(Or.inl to.2.1), (fun _ h => absurd h List.not_mem_nil)⟩) (List.forall_mem_cons.mpr ⟨(Or.inl to.2.1), (fun _ h => absurd h List.not_mem_nil)⟩) dX5_init_5 (fun q1 La2 s3 o4 e5 e6 e7 t8 hX9 => ?_)
  have hf := hf q1 La2 e5 s3 e6 o4 e7
  have hn10 : La.1 ≤ o4.toNat := by rw [e7, Int.toNat_natCast]; exact (sg_X.rf : sg_X La La).1
  have t11 := to.X hX9
  have hX12 := sg_X.tr (sg_X.rf) hX9
  refine gw_dup F rfl dX5_init_8 ?_
  refine gw_bipush F rfl dX5_init_9 ?_
  refine gk_BV F (gc_I F (S := [sg_r o4, sg_r o]) (As := [sg_i 40]) (CX4_init t8 (by decide) hf) t8.1 kw_194 kw_97 kw_192 kw_193 rfl hcX4_init ⟨by decide, by decide⟩ rfl rfl (Nat.le_of_ble_eq_true rfl) ⟨by decide, by decide⟩ dX5_init_11) (List.forall_mem_cons.mpr ⟨(Or.inl t11.2.1), (fun _ h => absurd h List.not_mem_nil)⟩) (List.forall_mem_cons.mpr ⟨(Or.inl t8.2.1), (List.forall_mem_cons.mpr ⟨(Or.inl t11.2.1), (fun _ h => absurd h List.not_mem_nil)⟩)⟩) (fun La13 s14 hX15 hf => ?_)
  have t16 := (sg_O_sx t11 t8 (by decide)).X hX15
  have t17 := (sg_O_sealed t8).X hX15
  have hX18 := (sg_X_sx (hX12) hn10).tr hX15
  obtain ⟨s19, e20⟩ : ∃ z : sg_M, z = sg_up s14 o 0 o4 := ⟨_, rfl⟩
  have hf := hf s19 e20
  refine gw_put5F F t16 (by decide) rfl sg_lay_RX5 (j := 0) (by decide) (D0 := tyX5 0) (fun _ => ⟨rfl, rfl⟩) t17.1 t17.2.1 e20 tyX5_ok nmX5 rfl hin rfl (tyX5_ok 0 (by decide)) rfl (host := "") kw_207 dX5_init_14 ?_
  refine gw_aload_n F 0 rfl rfl t16.1 dX5_init_17 ?_
  refine gy_new F (kd := 24) (T := TX4) (by decide) rfl sg_lay_RX4 tyX4_ok kw_190 kw_191 kw_97 ns_X4 nf_X4 nr_X4 (by decide) (by decide) (List.forall_mem_cons.mpr ⟨(Or.inl t16.2.1), (fun _ h => absurd h List.not_mem_nil)⟩) (List.forall_mem_cons.mpr ⟨(Or.inl t16.2.1), (fun _ h => absurd h List.not_mem_nil)⟩) dX5_init_18 (fun q21 La22 s23 o24 e25 e26 e27 t28 hX29 => ?_)
  have hf := hf q21 La22 e25 s23 e26 o24 e27
  have hn30 : La.1 ≤ o24.toNat := by rw [e27, Int.toNat_natCast]; exact (hX18 : sg_X La La13).1
  have t31 := t16.X hX29
  have hX32 := sg_X.tr (hX18) hX29
  refine gw_dup F rfl dX5_init_21 ?_
  refine gw_bipush F rfl dX5_init_22 ?_
  refine gk_BV F (gc_I F (S := [sg_r o24, sg_r o]) (As := [sg_i 40]) (CX4_init t28 (by decide) hf) t28.1 kw_194 kw_97 kw_192 kw_193 rfl hcX4_init ⟨by decide, by decide⟩ rfl rfl (Nat.le_of_ble_eq_true rfl) ⟨by decide, by decide⟩ dX5_init_24) (List.forall_mem_cons.mpr ⟨(Or.inl t31.2.1), (fun _ h => absurd h List.not_mem_nil)⟩) (List.forall_mem_cons.mpr ⟨(Or.inl t28.2.1), (List.forall_mem_cons.mpr ⟨(Or.inl t31.2.1), (fun _ h => absurd h List.not_mem_nil)⟩)⟩) (fun La33 s34 hX35 hf => ?_)
  have t36 := (sg_O_sx t31 t28 (by decide)).X hX35
  have t37 := (sg_O_sealed t28).X hX35
  have hX38 := (sg_X_sx (hX32) hn30).tr hX35
  obtain ⟨s39, e40⟩ : ∃ z : sg_M, z = sg_up s34 o 1 o24 := ⟨_, rfl⟩
  have hf := hf s39 e40
  refine gw_put5F F t36 (by decide) rfl sg_lay_RX5 (j := 1) (by decide) (D0 := tyX5 1) (fun _ => ⟨rfl, rfl⟩) t37.1 t37.2.1 e40 tyX5_ok nmX5 rfl hin rfl (tyX5_ok 1 (by decide)) rfl (host := "") kw_208 dX5_init_27 ?_
  refine gw_aload_n F 0 rfl rfl t36.1 dX5_init_30 ?_
  refine gy_new F (kd := 24) (T := TX4) (by decide) rfl sg_lay_RX4 tyX4_ok kw_190 kw_191 kw_97 ns_X4 nf_X4 nr_X4 (by decide) (by decide) (List.forall_mem_cons.mpr ⟨(Or.inl t36.2.1), (fun _ h => absurd h List.not_mem_nil)⟩) (List.forall_mem_cons.mpr ⟨(Or.inl t36.2.1), (fun _ h => absurd h List.not_mem_nil)⟩) dX5_init_31 (fun q41 La42 s43 o44 e45 e46 e47 t48 hX49 => ?_)
  have hf := hf q41 La42 e45 s43 e46 o44 e47
  have hn50 : La.1 ≤ o44.toNat := by rw [e47, Int.toNat_natCast]; exact (hX38 : sg_X La La33).1
  have t51 := t36.X hX49
  have hX52 := sg_X.tr (hX38) hX49
  refine gw_dup F rfl dX5_init_34 ?_
  refine gw_bipush F rfl dX5_init_35 ?_
  refine gk_BV F (gc_I F (S := [sg_r o44, sg_r o]) (As := [sg_i 40]) (CX4_init t48 (by decide) hf) t48.1 kw_194 kw_97 kw_192 kw_193 rfl hcX4_init ⟨by decide, by decide⟩ rfl rfl (Nat.le_of_ble_eq_true rfl) ⟨by decide, by decide⟩ dX5_init_37) (List.forall_mem_cons.mpr ⟨(Or.inl t51.2.1), (fun _ h => absurd h List.not_mem_nil)⟩) (List.forall_mem_cons.mpr ⟨(Or.inl t48.2.1), (List.forall_mem_cons.mpr ⟨(Or.inl t51.2.1), (fun _ h => absurd h List.not_mem_nil)⟩)⟩) (fun La53 s54 hX55 hf => ?_)
  have t56 := (sg_O_sx t51 t48 (by decide)).X hX55
  have t57 := (sg_O_sealed t48).X hX55
  have hX58 := (sg_X_sx (hX52) hn50).tr hX55
  obtain ⟨s59, e60⟩ : ∃ z : sg_M, z = sg_up s54 o 2 o44 := ⟨_, rfl⟩
  have hf := hf s59 e60
  refine gw_put5F F t56 (by decide) rfl sg_lay_RX5 (j := 2) (by decide) (D0 := tyX5 2) (fun _ => ⟨rfl, rfl⟩) t57.1 t57.2.1 e60 tyX5_ok nmX5 rfl hin rfl (tyX5_ok 2 (by decide)) rfl (host := "") kw_209 dX5_init_40 ?_
  refine gw_aload_n F 0 rfl rfl t56.1 dX5_init_43 ?_
  refine gw_iconst F dX5_init_44 ?_
  obtain ⟨s61, e62⟩ : ∃ z : sg_M, z = sg_up s59 o 3 0 := ⟨_, rfl⟩
  have hf := hf s61 e62
  refine gw_put0 F t56 (by decide) rfl sg_lay_RX5 (j := 3) (by decide) (by decide) e62 tyX5_ok nmX5 rfl (tyX5_ok 3 (by decide)) rfl (host := "") (.inl kw_210) dX5_init_45 ?_
  obtain ⟨g64, hf⟩ := hf
  obtain ⟨La63, e65⟩ : ∃ z : sg_L, z = sg_se La53 o.toNat 5 := ⟨_, rfl⟩
  have hf := hf La63 e65
  refine gw_seal t56 ⟨by decide, by decide, by decide⟩ (by decide) (by decide) g64.1 g64.2 ?_
  rw [← e65]
  exact gr_BC F (o := o.toNat) (kd := 5) hf (by rw [e65]; exact sg_X.both hX58) (by decide) (by decide) dX5_init_48

theorem dX3_tip_0 : decode cX3_tip 0 = .ok (.iload_n 1, 1) := by decide +kernel
theorem dX3_tip_1 : decode cX3_tip 1 = .ok (.iconst 1, 1) := by decide +kernel
theorem dX3_tip_2 : decode cX3_tip 2 = .ok (.if_icmp .lt 18, 3) := by decide +kernel
theorem dX3_tip_5 : decode cX3_tip 5 = .ok (.iload_n 1, 1) := by decide +kernel
theorem dX3_tip_6 : decode cX3_tip 6 = .ok (.aload_n 0, 1) := by decide +kernel
theorem dX3_tip_7 : decode cX3_tip 7 = .ok (.getfield 18, 3) := by decide +kernel
theorem dX3_tip_10 : decode cX3_tip 10 = .ok (.if_icmp .gt 10, 3) := by decide +kernel
theorem dX3_tip_13 : decode cX3_tip 13 = .ok (.iload_n 1, 1) := by decide +kernel
theorem dX3_tip_14 : decode cX3_tip 14 = .ok (.sipush 200, 3) := by decide +kernel
theorem dX3_tip_17 : decode cX3_tip 17 = .ok (.if_icmp .le 7, 3) := by decide +kernel
theorem dX3_tip_20 : decode cX3_tip 20 = .ok (.iconst 0, 1) := by decide +kernel
theorem dX3_tip_21 : decode cX3_tip 21 = .ok (.goto 11, 3) := by decide +kernel
theorem dX3_tip_24 : decode cX3_tip 24 = .ok (.aload_n 0, 1) := by decide +kernel
theorem dX3_tip_25 : decode cX3_tip 25 = .ok (.getfield 15, 3) := by decide +kernel
theorem dX3_tip_28 : decode cX3_tip 28 = .ok (.iload_n 1, 1) := by decide +kernel
theorem dX3_tip_29 : decode cX3_tip 29 = .ok (.iconst 1, 1) := by decide +kernel
theorem dX3_tip_30 : decode cX3_tip 30 = .ok (.isub, 1) := by decide +kernel
theorem dX3_tip_31 : decode cX3_tip 31 = .ok (.iaload, 1) := by decide +kernel
theorem dX3_tip_32 : decode cX3_tip 32 = .ok (.ireturn, 1) := by decide +kernel
theorem hcX3_tip : yX3_tip.cls ≠ "java/lang/invoke/MethodHandle" ∧ yX3_tip.cls ≠ "java/lang/invoke/VarHandle" ∧ (parseMethodDescriptor yX3_tip.desc).map (fun d => d.parameters.length) = some 1 := ⟨by decide +kernel, by decide +kernel, by decide +kernel⟩
def fX3_tip (s0 : sg_M) (o : Int) (x1 : Int) (Q : Int → Prop) : Prop := ((x1 < 1 → Q 0) ∧ (¬ (x1 < 1) → (((s0 o 2) < x1 → Q 0) ∧ (¬ ((s0 o 2) < x1) → ((x1 ≤ 200 → (0 ≤ (x1 - 1) ∧ (x1 - 1) < 200) ∧ Q (s0 (o + 2) (x1 - 1))) ∧ (¬ (x1 ≤ 200) → Q 0))))))
set_option maxHeartbeats 4000000 in
set_option maxRecDepth 100000 in
theorem CX3_tip {l : Launch} {G : sg_G} {La : sg_L} {s0 : sg_M} {o : Int} (to : sg_O La o 3) {x1 : Int} (r1 : sg_R x1) {Q : Int → Prop} (hf : fX3_tip s0 o x1 Q) : sg_C l G yX3_tip cX3_tip 2 (some .int) 1 0 0 La s0 [sg_r o, sg_i x1] (sg_PI La s0 Q) := by
  refine sg_body (by decide +kernel) (Nat.le_of_ble_eq_true rfl) ?_
  intro p e s m args below meth c F hnm
  unfold fX3_tip at hf
  show sg_W p l e (sg_rm 1 0 0) s m args below meth c (MQ below (sg_Q (some .int) G La s.heap.size (sg_PI La s0 Q)) args s 0 0 (sg_A La s.heap.size)) 2 G (sg_A La s.heap.size) La s0 0 0 0 [(0, sg_r o), (1, sg_i x1)] []
  refine gw_iload_n F 1 rfl rfl dX3_tip_0 ?_
  refine gw_iconst F dX3_tip_1 ?_
  refine gw_icmp_lt F (tgt := 20) dX3_tip_2 (by decide) r1 (by decide) (fun c1 => ?_) (fun c1 => ?_)
  · have hf := hf.1 c1
    refine gw_iconst F dX3_tip_20 ?_
    refine gw_goto F (tgt := 32) dX3_tip_21 (by decide) ?_
    exact gr_PI F (by decide) hf (by decide) (by decide) dX3_tip_32
  · have hf := hf.2 c1
    refine gw_iload_n F 1 rfl rfl dX3_tip_5 ?_
    refine gw_aload_n F 0 rfl rfl to.1 dX3_tip_6 ?_
    refine gw_get0 F to (by decide) rfl sg_lay_RX3 (j := 2) (by decide) rfl (host := "") (.inl kw_180) dX3_tip_7 (fun h2 => ?_)
    refine gw_icmp_gt F (tgt := 20) dX3_tip_10 (by decide) r1 h2 (fun c3 => ?_) (fun c3 => ?_)
    · have hf := hf.1 c3
      refine gw_iconst F dX3_tip_20 ?_
      refine gw_goto F (tgt := 32) dX3_tip_21 (by decide) ?_
      exact gr_PI F (by decide) hf (by decide) (by decide) dX3_tip_32
    · have hf := hf.2 c3
      refine gw_iload_n F 1 rfl rfl dX3_tip_13 ?_
      refine gw_sipush F rfl dX3_tip_14 ?_
      refine gw_icmp_le F (tgt := 24) dX3_tip_17 (by decide) r1 (by decide) (fun c4 => ?_) (fun c4 => ?_)
      · have hf := hf.1 c4
        refine gw_aload_n F 0 rfl rfl to.1 dX3_tip_24 ?_
        refine gw_get3 F to (by decide) rfl sg_lay_RX3 (j := 1) (by decide) (o1 := (o + 2)) (by first | rfl | omega) rfl (host := "") (.inl kw_179) dX3_tip_25 (fun h5 => ?_)
        refine gw_iload_n F 1 rfl rfl dX3_tip_28 ?_
        refine gw_iconst F dX3_tip_29 ?_
        refine gw_isub F rfl dX3_tip_30 ?_
        obtain ⟨⟨b60, b61⟩, hf⟩ := hf
        refine gw_iald F (sg_AN_of (sg_O_of h5 (by decide)) (by decide) (by decide) (by decide)) b60 b61 dX3_tip_31 (fun h7 => ?_)
        exact gr_PI F h7 hf (by decide) (by decide) dX3_tip_32
      · have hf := hf.2 c4
        refine gw_iconst F dX3_tip_20 ?_
        refine gw_goto F (tgt := 32) dX3_tip_21 (by decide) ?_
        exact gr_PI F (by decide) hf (by decide) (by decide) dX3_tip_32

theorem dX11_voice_0 : decode cX11_voice 0 = .ok (.iload_n 2, 1) := by decide +kernel
theorem dX11_voice_1 : decode cX11_voice 1 = .ok (.ifCond .lt 8, 3) := by decide +kernel
theorem dX11_voice_4 : decode cX11_voice 4 = .ok (.iload_n 2, 1) := by decide +kernel
theorem dX11_voice_5 : decode cX11_voice 5 = .ok (.iconst 1, 1) := by decide +kernel
theorem dX11_voice_6 : decode cX11_voice 6 = .ok (.if_icmp .le 5, 3) := by decide +kernel
theorem dX11_voice_9 : decode cX11_voice 9 = .ok (.iconst (-1), 1) := by decide +kernel
theorem dX11_voice_10 : decode cX11_voice 10 = .ok (.ireturn, 1) := by decide +kernel
theorem dX11_voice_11 : decode cX11_voice 11 = .ok (.aload_n 0, 1) := by decide +kernel
theorem dX11_voice_12 : decode cX11_voice 12 = .ok (.invokevirtual 251, 3) := by decide +kernel
theorem dX11_voice_15 : decode cX11_voice 15 = .ok (.iload_n 2, 1) := by decide +kernel
theorem dX11_voice_16 : decode cX11_voice 16 = .ok (.ifCond .ne 14, 3) := by decide +kernel
theorem dX11_voice_19 : decode cX11_voice 19 = .ok (.aload_n 0, 1) := by decide +kernel
theorem dX11_voice_20 : decode cX11_voice 20 = .ok (.getfield 93, 3) := by decide +kernel
theorem dX11_voice_23 : decode cX11_voice 23 = .ok (.iload_n 1, 1) := by decide +kernel
theorem dX11_voice_24 : decode cX11_voice 24 = .ok (.invokevirtual 182, 3) := by decide +kernel
theorem dX11_voice_27 : decode cX11_voice 27 = .ok (.goto 11, 3) := by decide +kernel
theorem dX11_voice_30 : decode cX11_voice 30 = .ok (.aload_n 0, 1) := by decide +kernel
theorem dX11_voice_31 : decode cX11_voice 31 = .ok (.getfield 96, 3) := by decide +kernel
theorem dX11_voice_34 : decode cX11_voice 34 = .ok (.iload_n 1, 1) := by decide +kernel
theorem dX11_voice_35 : decode cX11_voice 35 = .ok (.invokevirtual 182, 3) := by decide +kernel
theorem dX11_voice_38 : decode cX11_voice 38 = .ok (.ireturn, 1) := by decide +kernel
theorem hcX11_voice : yX11_voice.cls ≠ "java/lang/invoke/MethodHandle" ∧ yX11_voice.cls ≠ "java/lang/invoke/VarHandle" ∧ (parseMethodDescriptor yX11_voice.desc).map (fun d => d.parameters.length) = some 2 := ⟨by decide +kernel, by decide +kernel, by decide +kernel⟩
def fX11_voice (La : sg_L) (s0 : sg_M) (x1 : Int) (x2 : Int) (Q : Int → sg_M → Prop) : Prop := ((x2 < 0 → Q (-1) s0) ∧ (¬ (x2 < 0) → ((x2 ≤ 1 → fX11_hearBook La s0 (fun s3 => ((x2 ≠ 0 → fX4_at La s3 60 x1 (fun u6 => Q u6 s3)) ∧ (x2 = 0 → fX4_at La s3 58 x1 (fun u9 => Q u9 s3))))) ∧ (¬ (x2 ≤ 1) → Q (-1) s0))))
set_option maxHeartbeats 4000000 in
set_option maxRecDepth 100000 in
theorem CX11_voice {l : Launch} {G : sg_G} {La : sg_L} {s0 : sg_M} (hst : sg_St La) {x1 : Int} (r1 : sg_R x1) {x2 : Int} (r2 : sg_R x2) {Q : Int → sg_M → Prop} (hf : fX11_voice La s0 x1 x2 Q) : sg_C l G yX11_voice cX11_voice 3 (some .int) 7 0 0 La s0 [sg_r 0, sg_i x1, sg_i x2] (sg_HI La Q) := by
  refine sg_body (by decide +kernel) (Nat.le_of_ble_eq_true rfl) ?_
  intro p e s m args below meth c F hnm
  unfold fX11_voice at hf
  show sg_W p l e (sg_rm 7 0 0) s m args below meth c (MQ below (sg_Q (some .int) G La s.heap.size (sg_HI La Q)) args s 0 0 (sg_A La s.heap.size)) 3 G (sg_A La s.heap.size) La s0 0 0 0 [(0, sg_r 0), (1, sg_i x1), (2, sg_i x2)] []
  refine gw_iload_n F 2 rfl rfl dX11_voice_0 ?_
  refine gw_if_lt F (tgt := 9) dX11_voice_1 (by decide) r2 (fun c1 => ?_) (fun c1 => ?_)
  · have hf := hf.1 c1
    refine gw_iconst F dX11_voice_9 ?_
    exact gr_HI F (by decide) hf (by decide) (by decide) dX11_voice_10
  · have hf := hf.2 c1
    refine gw_iload_n F 2 rfl rfl dX11_voice_4 ?_
    refine gw_iconst F dX11_voice_5 ?_
    refine gw_icmp_le F (tgt := 11) dX11_voice_6 (by decide) r2 (by decide) (fun c2 => ?_) (fun c2 => ?_)
    · have hf := hf.1 c2
      refine gw_aload_n F 0 rfl rfl (by decide) dX11_voice_11 ?_
      refine gk_HV F (gc_V F (S := []) (As := []) (T := TX11) (N := 19) (CX11_hearBook hst hf) (so_0 hst) (by decide) rfl kw_651 kw_90 kw_649 kw_650 kw_19 hcX11_hearBook ⟨by decide, by decide⟩ rfl rfl (Nat.le_of_ble_eq_true rfl) ⟨by decide, by decide⟩ dX11_voice_12) (fun s3 hf => ?_)
      refine gw_iload_n F 2 rfl rfl dX11_voice_15 ?_
      refine gw_if_ne F (tgt := 30) dX11_voice_16 (by decide) r2 (fun c4 => ?_) (fun c4 => ?_)
      · have hf := hf.1 c4
        refine gw_aload_n F 0 rfl rfl (by decide) dX11_voice_30 ?_
        refine gw_get7 F (so_0 hst) (by decide) rfl sg_lay_RX11 (j := 14) (by decide) (o1 := 60) (by first | rfl | omega) rfl (host := "") (.inl kw_340) dX11_voice_31 (fun h5 => ?_)
        refine gw_iload_n F 1 rfl rfl dX11_voice_34 ?_
        refine gk_PI F (gc_V F (S := []) (As := [sg_i x1]) (T := TX4) (N := 3) (CX4_at (so_60 hst) r1 hf) (so_60 hst) (by decide) rfl kw_546 kw_97 kw_543 kw_544 kw_545 hcX4_at ⟨by decide, by decide⟩ rfl rfl (Nat.le_of_ble_eq_true rfl) ⟨by decide, by decide⟩ dX11_voice_35) (fun u6 h7 hf => ?_)
        exact gr_HI F h7 hf (by decide) (by decide) dX11_voice_38
      · have hf := hf.2 c4
        refine gw_aload_n F 0 rfl rfl (by decide) dX11_voice_19 ?_
        refine gw_get7 F (so_0 hst) (by decide) rfl sg_lay_RX11 (j := 13) (by decide) (o1 := 58) (by first | rfl | omega) rfl (host := "") (.inl kw_339) dX11_voice_20 (fun h8 => ?_)
        refine gw_iload_n F 1 rfl rfl dX11_voice_23 ?_
        refine gk_PI F (gc_V F (S := []) (As := [sg_i x1]) (T := TX4) (N := 3) (CX4_at (so_58 hst) r1 hf) (so_58 hst) (by decide) rfl kw_546 kw_97 kw_543 kw_544 kw_545 hcX4_at ⟨by decide, by decide⟩ rfl rfl (Nat.le_of_ble_eq_true rfl) ⟨by decide, by decide⟩ dX11_voice_24) (fun u9 h10 hf => ?_)
        refine gw_goto F (tgt := 38) dX11_voice_27 (by decide) ?_
        exact gr_HI F h10 hf (by decide) (by decide) dX11_voice_38
    · have hf := hf.2 c2
      refine gw_iconst F dX11_voice_9 ?_
      exact gr_HI F (by decide) hf (by decide) (by decide) dX11_voice_10

theorem dX11_formBy_0 : decode cX11_formBy 0 = .ok (.aload_n 0, 1) := by decide +kernel
theorem dX11_formBy_1 : decode cX11_formBy 1 = .ok (.getfield 109, 3) := by decide +kernel
theorem dX11_formBy_4 : decode cX11_formBy 4 = .ok (.ireturn, 1) := by decide +kernel
theorem hcX11_formBy : yX11_formBy.cls ≠ "java/lang/invoke/MethodHandle" ∧ yX11_formBy.cls ≠ "java/lang/invoke/VarHandle" ∧ (parseMethodDescriptor yX11_formBy.desc).map (fun d => d.parameters.length) = some 0 := ⟨by decide +kernel, by decide +kernel, by decide +kernel⟩
def fX11_formBy (s0 : sg_M) (Q : Int → Prop) : Prop := Q (s0 0 18)
set_option maxHeartbeats 4000000 in
set_option maxRecDepth 100000 in
theorem CX11_formBy {l : Launch} {G : sg_G} {La : sg_L} {s0 : sg_M} (hst : sg_St La) {Q : Int → Prop} (hf : fX11_formBy s0 Q) : sg_C l G yX11_formBy cX11_formBy 1 (some .int) 1 0 0 La s0 [sg_r 0] (sg_PI La s0 Q) := by
  refine sg_body (by decide +kernel) (Nat.le_of_ble_eq_true rfl) ?_
  intro p e s m args below meth c F hnm
  unfold fX11_formBy at hf
  show sg_W p l e (sg_rm 1 0 0) s m args below meth c (MQ below (sg_Q (some .int) G La s.heap.size (sg_PI La s0 Q)) args s 0 0 (sg_A La s.heap.size)) 1 G (sg_A La s.heap.size) La s0 0 0 0 [(0, sg_r 0)] []
  refine gw_aload_n F 0 rfl rfl (by decide) dX11_formBy_0 ?_
  refine gw_get0 F (so_0 hst) (by decide) rfl sg_lay_RX11 (j := 18) (by decide) rfl (host := "") (.inl kw_344) dX11_formBy_1 (fun h1 => ?_)
  exact gr_PI F h1 hf (by decide) (by decide) dX11_formBy_4

theorem dX11_songAt_0 : decode cX11_songAt 0 = .ok (.aload_n 0, 1) := by decide +kernel
theorem dX11_songAt_1 : decode cX11_songAt 1 = .ok (.getfield 74, 3) := by decide +kernel
theorem dX11_songAt_4 : decode cX11_songAt 4 = .ok (.getfield 265, 3) := by decide +kernel
theorem dX11_songAt_7 : decode cX11_songAt 7 = .ok (.iload_n 1, 1) := by decide +kernel
theorem dX11_songAt_8 : decode cX11_songAt 8 = .ok (.invokevirtual 182, 3) := by decide +kernel
theorem dX11_songAt_11 : decode cX11_songAt 11 = .ok (.ireturn, 1) := by decide +kernel
theorem hcX11_songAt : yX11_songAt.cls ≠ "java/lang/invoke/MethodHandle" ∧ yX11_songAt.cls ≠ "java/lang/invoke/VarHandle" ∧ (parseMethodDescriptor yX11_songAt.desc).map (fun d => d.parameters.length) = some 1 := ⟨by decide +kernel, by decide +kernel, by decide +kernel⟩
def fX11_songAt (La : sg_L) (s0 : sg_M) (x1 : Int) (Q : Int → Prop) : Prop := fX4_at La s0 50 x1 (fun u3 => Q u3)
set_option maxHeartbeats 4000000 in
set_option maxRecDepth 100000 in
theorem CX11_songAt {l : Launch} {G : sg_G} {La : sg_L} {s0 : sg_M} (hst : sg_St La) {x1 : Int} (r1 : sg_R x1) {Q : Int → Prop} (hf : fX11_songAt La s0 x1 Q) : sg_C l G yX11_songAt cX11_songAt 2 (some .int) 2 0 0 La s0 [sg_r 0, sg_i x1] (sg_PI La s0 Q) := by
  refine sg_body (by decide +kernel) (Nat.le_of_ble_eq_true rfl) ?_
  intro p e s m args below meth c F hnm
  unfold fX11_songAt at hf
  show sg_W p l e (sg_rm 2 0 0) s m args below meth c (MQ below (sg_Q (some .int) G La s.heap.size (sg_PI La s0 Q)) args s 0 0 (sg_A La s.heap.size)) 2 G (sg_A La s.heap.size) La s0 0 0 0 [(0, sg_r 0), (1, sg_i x1)] []
  refine gw_aload_n F 0 rfl rfl (by decide) dX11_songAt_0 ?_
  refine gw_get7 F (so_0 hst) (by decide) rfl sg_lay_RX11 (j := 9) (by decide) (o1 := 46) (by first | rfl | omega) rfl (host := "") (.inl kw_335) dX11_songAt_1 (fun h1 => ?_)
  refine gw_get3 F (so_46 hst) (by decide) rfl sg_lay_RX6 (j := 2) (by decide) (o1 := 50) (by first | rfl | omega) rfl (.inr kw_315) dX11_songAt_4 (fun h2 => ?_)
  refine gw_iload_n F 1 rfl rfl dX11_songAt_7 ?_
  refine gk_PI F (gc_V F (S := []) (As := [sg_i x1]) (T := TX4) (N := 3) (CX4_at (so_50 hst) r1 hf) (so_50 hst) (by decide) rfl kw_546 kw_97 kw_543 kw_544 kw_545 hcX4_at ⟨by decide, by decide⟩ rfl rfl (Nat.le_of_ble_eq_true rfl) ⟨by decide, by decide⟩ dX11_songAt_8) (fun u3 h4 hf => ?_)
  exact gr_PI F h4 hf (by decide) (by decide) dX11_songAt_11

theorem dX11_place_0 : decode cX11_place 0 = .ok (.iload_n 1, 1) := by decide +kernel
theorem dX11_place_1 : decode cX11_place 1 = .ok (.iload_n 2, 1) := by decide +kernel
theorem dX11_place_2 : decode cX11_place 2 = .ok (.invokestatic 158, 3) := by decide +kernel
theorem dX11_place_5 : decode cX11_place 5 = .ok (.ifCond .ne 5, 3) := by decide +kernel
theorem dX11_place_8 : decode cX11_place 8 = .ok (.iconst (-1), 1) := by decide +kernel
theorem dX11_place_9 : decode cX11_place 9 = .ok (.ireturn, 1) := by decide +kernel
theorem dX11_place_10 : decode cX11_place 10 = .ok (.aload_n 0, 1) := by decide +kernel
theorem dX11_place_11 : decode cX11_place 11 = .ok (.getfield 54, 3) := by decide +kernel
theorem dX11_place_14 : decode cX11_place 14 = .ok (.aload_n 0, 1) := by decide +kernel
theorem dX11_place_15 : decode cX11_place 15 = .ok (.getfield 39, 3) := by decide +kernel
theorem dX11_place_18 : decode cX11_place 18 = .ok (.getfield 112, 3) := by decide +kernel
theorem dX11_place_21 : decode cX11_place 21 = .ok (.iload_n 1, 1) := by decide +kernel
theorem dX11_place_22 : decode cX11_place 22 = .ok (.iload_n 2, 1) := by decide +kernel
theorem dX11_place_23 : decode cX11_place 23 = .ok (.invokevirtual 171, 3) := by decide +kernel
theorem dX11_place_26 : decode cX11_place 26 = .ok (.iload_n 3, 1) := by decide +kernel
theorem dX11_place_27 : decode cX11_place 27 = .ok (.iconst (-1), 1) := by decide +kernel
theorem dX11_place_28 : decode cX11_place 28 = .ok (.if_icmp .ne 16, 3) := by decide +kernel
theorem dX11_place_31 : decode cX11_place 31 = .ok (.aload_n 0, 1) := by decide +kernel
theorem dX11_place_32 : decode cX11_place 32 = .ok (.getfield 54, 3) := by decide +kernel
theorem dX11_place_35 : decode cX11_place 35 = .ok (.getfield 178, 3) := by decide +kernel
theorem dX11_place_38 : decode cX11_place 38 = .ok (.getfield 181, 3) := by decide +kernel
theorem dX11_place_41 : decode cX11_place 41 = .ok (.goto 14, 3) := by decide +kernel
theorem dX11_place_44 : decode cX11_place 44 = .ok (.aload_n 0, 1) := by decide +kernel
theorem dX11_place_45 : decode cX11_place 45 = .ok (.getfield 54, 3) := by decide +kernel
theorem dX11_place_48 : decode cX11_place 48 = .ok (.getfield 178, 3) := by decide +kernel
theorem dX11_place_51 : decode cX11_place 51 = .ok (.iload_n 3, 1) := by decide +kernel
theorem dX11_place_52 : decode cX11_place 52 = .ok (.invokevirtual 182, 3) := by decide +kernel
theorem dX11_place_55 : decode cX11_place 55 = .ok (.ireturn, 1) := by decide +kernel
theorem hcX11_place : yX11_place.cls ≠ "java/lang/invoke/MethodHandle" ∧ yX11_place.cls ≠ "java/lang/invoke/VarHandle" ∧ (parseMethodDescriptor yX11_place.desc).map (fun d => d.parameters.length) = some 3 := ⟨by decide +kernel, by decide +kernel, by decide +kernel⟩
def fX11_place (La : sg_L) (s0 : sg_M) (x1 : Int) (x2 : Int) (x3 : Int) (Q : Int → sg_M → Prop) : Prop := fX11_isBend x1 x2 (fun u1 => ((u1 ≠ 0 → (0 ≤ (s0 4 0)) ∧ fX0_bendTo La s0 (s0 4 0) x1 x2 (fun s9 => ((x3 ≠ (-1) → fX4_at La s9 35 x3 (fun u13 => Q u13 s9)) ∧ (x3 = (-1) → Q (s9 35 1) s9)))) ∧ (u1 = 0 → Q (-1) s0)))
set_option maxHeartbeats 4000000 in
set_option maxRecDepth 100000 in
theorem CX11_place {l : Launch} {G : sg_G} {La : sg_L} {s0 : sg_M} (hst : sg_St La) {x1 : Int} (r1 : sg_R x1) {x2 : Int} (r2 : sg_R x2) {x3 : Int} (r3 : sg_R x3) {Q : Int → sg_M → Prop} (hf : fX11_place La s0 x1 x2 x3 Q) : sg_C l G yX11_place cX11_place 4 (some .int) 5 0 0 La s0 [sg_r 0, sg_i x1, sg_i x2, sg_i x3] (sg_HI La Q) := by
  refine sg_body (by decide +kernel) (Nat.le_of_ble_eq_true rfl) ?_
  intro p e s m args below meth c F hnm
  unfold fX11_place at hf
  show sg_W p l e (sg_rm 5 0 0) s m args below meth c (MQ below (sg_Q (some .int) G La s.heap.size (sg_HI La Q)) args s 0 0 (sg_A La s.heap.size)) 4 G (sg_A La s.heap.size) La s0 0 0 0 [(0, sg_r 0), (1, sg_i x1), (2, sg_i x2), (3, sg_i x3)] []
  refine gw_iload_n F 1 rfl rfl dX11_place_0 ?_
  refine gw_iload_n F 2 rfl rfl dX11_place_1 ?_
  refine gk_PZ F (gc_S F (S := []) (As := [sg_i x1, sg_i x2]) (CX11_isBend r1 r2 hf) kw_502 kw_90 kw_500 kw_501 hcX11_isBend ⟨by decide, by decide⟩ rfl rfl (Nat.le_of_ble_eq_true rfl) ⟨by decide, by decide⟩ dX11_place_2) (fun u1 h2 hf => ?_)
  refine gw_if_ne F (tgt := 10) dX11_place_5 (by decide) (sg_B_R h2) (fun c3 => ?_) (fun c3 => ?_)
  · have hf := hf.1 c3
    refine gw_aload_n F 0 rfl rfl (by decide) dX11_place_10 ?_
    refine gw_get7 F (so_0 hst) (by decide) rfl sg_lay_RX11 (j := 5) (by decide) (o1 := 32) (by first | rfl | omega) rfl (host := "") (.inl kw_331) dX11_place_11 (fun h4 => ?_)
    refine gw_aload_n F 0 rfl rfl (by decide) dX11_place_14 ?_
    refine gw_get7 F (so_0 hst) (by decide) rfl sg_lay_RX11 (j := 2) (by decide) (o1 := 4) (by first | rfl | omega) rfl (host := "") (.inl kw_328) dX11_place_15 (fun h5 => ?_)
    refine gw_get4 F (so_4 hst) (by decide) rfl sg_lay_RX7 (j := 0) (by decide) rfl (.inr kw_234) dX11_place_18 (fun h6 => ?_)
    refine gw_iload_n F 1 rfl rfl dX11_place_21 ?_
    refine gw_iload_n F 2 rfl rfl dX11_place_22 ?_
    obtain ⟨g7, hf⟩ := hf
    have t8 := sg_nn h6 g7
    refine gk_HV F (gc_V F (S := []) (As := [sg_r (s0 4 0), sg_i x1, sg_i x2]) (T := TX0) (N := 11) (CX0_bendTo hst t8 r1 r2 hf) (so_32 hst) (by decide) rfl kw_506 kw_100 kw_503 kw_504 kw_505 hcX0_bendTo ⟨by decide, by decide⟩ rfl rfl (Nat.le_of_ble_eq_true rfl) ⟨by decide, by decide⟩ dX11_place_23) (fun s9 hf => ?_)
    refine gw_iload_n F 3 rfl rfl dX11_place_26 ?_
    refine gw_iconst F dX11_place_27 ?_
    refine gw_icmp_ne F (tgt := 44) dX11_place_28 (by decide) r3 (by decide) (fun c10 => ?_) (fun c10 => ?_)
    · have hf := hf.1 c10
      refine gw_aload_n F 0 rfl rfl (by decide) dX11_place_44 ?_
      refine gw_get7 F (so_0 hst) (by decide) rfl sg_lay_RX11 (j := 5) (by decide) (o1 := 32) (by first | rfl | omega) rfl (host := "") (.inl kw_331) dX11_place_45 (fun h11 => ?_)
      refine gw_get3 F (so_32 hst) (by decide) rfl sg_lay_RX0 (j := 2) (by decide) (o1 := 35) (by first | rfl | omega) rfl (.inr kw_255) dX11_place_48 (fun h12 => ?_)
      refine gw_iload_n F 3 rfl rfl dX11_place_51 ?_
      refine gk_PI F (gc_V F (S := []) (As := [sg_i x3]) (T := TX4) (N := 3) (CX4_at (so_35 hst) r3 hf) (so_35 hst) (by decide) rfl kw_546 kw_97 kw_543 kw_544 kw_545 hcX4_at ⟨by decide, by decide⟩ rfl rfl (Nat.le_of_ble_eq_true rfl) ⟨by decide, by decide⟩ dX11_place_52) (fun u13 h14 hf => ?_)
      exact gr_HI F h14 hf (by decide) (by decide) dX11_place_55
    · have hf := hf.2 c10
      refine gw_aload_n F 0 rfl rfl (by decide) dX11_place_31 ?_
      refine gw_get7 F (so_0 hst) (by decide) rfl sg_lay_RX11 (j := 5) (by decide) (o1 := 32) (by first | rfl | omega) rfl (host := "") (.inl kw_331) dX11_place_32 (fun h15 => ?_)
      refine gw_get3 F (so_32 hst) (by decide) rfl sg_lay_RX0 (j := 2) (by decide) (o1 := 35) (by first | rfl | omega) rfl (.inr kw_255) dX11_place_35 (fun h16 => ?_)
      refine gw_get0 F (so_35 hst) (by decide) rfl sg_lay_RX4 (j := 1) (by decide) rfl (.inr kw_204) dX11_place_38 (fun h17 => ?_)
      refine gw_goto F (tgt := 55) dX11_place_41 (by decide) ?_
      exact gr_HI F h17 hf (by decide) (by decide) dX11_place_55
  · have hf := hf.2 c3
    refine gw_iconst F dX11_place_8 ?_
    exact gr_HI F (by decide) hf (by decide) (by decide) dX11_place_9

theorem dX5_isSo_0 : decode cX5_isSo 0 = .ok (.aload_n 0, 1) := by decide +kernel
theorem dX5_isSo_1 : decode cX5_isSo 1 = .ok (.getfield 16, 3) := by decide +kernel
theorem dX5_isSo_4 : decode cX5_isSo 4 = .ok (.iload_n 1, 1) := by decide +kernel
theorem dX5_isSo_5 : decode cX5_isSo 5 = .ok (.invokevirtual 115, 3) := by decide +kernel
theorem dX5_isSo_8 : decode cX5_isSo 8 = .ok (.tableswitch 135 0 7 #[48, 58, 68, 78, 88, 101, 108, 121], 48) := by decide +kernel
theorem dX5_isSo_56 : decode cX5_isSo 56 = .ok (.aload_n 0, 1) := by decide +kernel
theorem dX5_isSo_57 : decode cX5_isSo 57 = .ok (.aload_n 2, 1) := by decide +kernel
theorem dX5_isSo_58 : decode cX5_isSo 58 = .ok (.getfield 123, 3) := by decide +kernel
theorem dX5_isSo_61 : decode cX5_isSo 61 = .ok (.iload_n 1, 1) := by decide +kernel
theorem dX5_isSo_62 : decode cX5_isSo 62 = .ok (.invokevirtual 128, 3) := by decide +kernel
theorem dX5_isSo_65 : decode cX5_isSo 65 = .ok (.ireturn, 1) := by decide +kernel
theorem dX5_isSo_66 : decode cX5_isSo 66 = .ok (.aload_n 0, 1) := by decide +kernel
theorem dX5_isSo_67 : decode cX5_isSo 67 = .ok (.aload_n 2, 1) := by decide +kernel
theorem dX5_isSo_68 : decode cX5_isSo 68 = .ok (.getfield 132, 3) := by decide +kernel
theorem dX5_isSo_71 : decode cX5_isSo 71 = .ok (.iload_n 1, 1) := by decide +kernel
theorem dX5_isSo_72 : decode cX5_isSo 72 = .ok (.invokevirtual 128, 3) := by decide +kernel
theorem dX5_isSo_75 : decode cX5_isSo 75 = .ok (.ireturn, 1) := by decide +kernel
theorem dX5_isSo_76 : decode cX5_isSo 76 = .ok (.aload_n 0, 1) := by decide +kernel
theorem dX5_isSo_77 : decode cX5_isSo 77 = .ok (.aload_n 2, 1) := by decide +kernel
theorem dX5_isSo_78 : decode cX5_isSo 78 = .ok (.getfield 135, 3) := by decide +kernel
theorem dX5_isSo_81 : decode cX5_isSo 81 = .ok (.iload_n 1, 1) := by decide +kernel
theorem dX5_isSo_82 : decode cX5_isSo 82 = .ok (.invokevirtual 128, 3) := by decide +kernel
theorem dX5_isSo_85 : decode cX5_isSo 85 = .ok (.ireturn, 1) := by decide +kernel
theorem dX5_isSo_86 : decode cX5_isSo 86 = .ok (.aload_n 0, 1) := by decide +kernel
theorem dX5_isSo_87 : decode cX5_isSo 87 = .ok (.aload_n 2, 1) := by decide +kernel
theorem dX5_isSo_88 : decode cX5_isSo 88 = .ok (.getfield 138, 3) := by decide +kernel
theorem dX5_isSo_91 : decode cX5_isSo 91 = .ok (.iload_n 1, 1) := by decide +kernel
theorem dX5_isSo_92 : decode cX5_isSo 92 = .ok (.invokevirtual 128, 3) := by decide +kernel
theorem dX5_isSo_95 : decode cX5_isSo 95 = .ok (.ireturn, 1) := by decide +kernel
theorem dX5_isSo_96 : decode cX5_isSo 96 = .ok (.aload_n 0, 1) := by decide +kernel
theorem dX5_isSo_97 : decode cX5_isSo 97 = .ok (.aload_n 2, 1) := by decide +kernel
theorem dX5_isSo_98 : decode cX5_isSo 98 = .ok (.getfield 141, 3) := by decide +kernel
theorem dX5_isSo_101 : decode cX5_isSo 101 = .ok (.getfield 112, 3) := by decide +kernel
theorem dX5_isSo_104 : decode cX5_isSo 104 = .ok (.iload_n 1, 1) := by decide +kernel
theorem dX5_isSo_105 : decode cX5_isSo 105 = .ok (.invokevirtual 128, 3) := by decide +kernel
theorem dX5_isSo_108 : decode cX5_isSo 108 = .ok (.ireturn, 1) := by decide +kernel
theorem dX5_isSo_109 : decode cX5_isSo 109 = .ok (.aload_n 0, 1) := by decide +kernel
theorem dX5_isSo_110 : decode cX5_isSo 110 = .ok (.iload_n 3, 1) := by decide +kernel
theorem dX5_isSo_111 : decode cX5_isSo 111 = .ok (.iload_n 1, 1) := by decide +kernel
theorem dX5_isSo_112 : decode cX5_isSo 112 = .ok (.invokevirtual 128, 3) := by decide +kernel
theorem dX5_isSo_115 : decode cX5_isSo 115 = .ok (.ireturn, 1) := by decide +kernel
theorem dX5_isSo_116 : decode cX5_isSo 116 = .ok (.aload_n 2, 1) := by decide +kernel
theorem dX5_isSo_117 : decode cX5_isSo 117 = .ok (.getfield 123, 3) := by decide +kernel
theorem dX5_isSo_120 : decode cX5_isSo 120 = .ok (.ifCond .le 7, 3) := by decide +kernel
theorem dX5_isSo_123 : decode cX5_isSo 123 = .ok (.iconst 1, 1) := by decide +kernel
theorem dX5_isSo_124 : decode cX5_isSo 124 = .ok (.goto 4, 3) := by decide +kernel
theorem dX5_isSo_127 : decode cX5_isSo 127 = .ok (.iconst 0, 1) := by decide +kernel
theorem dX5_isSo_128 : decode cX5_isSo 128 = .ok (.ireturn, 1) := by decide +kernel
theorem dX5_isSo_129 : decode cX5_isSo 129 = .ok (.aload_n 2, 1) := by decide +kernel
theorem dX5_isSo_130 : decode cX5_isSo 130 = .ok (.getfield 143, 3) := by decide +kernel
theorem dX5_isSo_133 : decode cX5_isSo 133 = .ok (.iconst (-1), 1) := by decide +kernel
theorem dX5_isSo_134 : decode cX5_isSo 134 = .ok (.if_icmp .eq 7, 3) := by decide +kernel
theorem dX5_isSo_137 : decode cX5_isSo 137 = .ok (.iconst 1, 1) := by decide +kernel
theorem dX5_isSo_138 : decode cX5_isSo 138 = .ok (.goto 4, 3) := by decide +kernel
theorem dX5_isSo_141 : decode cX5_isSo 141 = .ok (.iconst 0, 1) := by decide +kernel
theorem dX5_isSo_142 : decode cX5_isSo 142 = .ok (.ireturn, 1) := by decide +kernel
theorem dX5_isSo_143 : decode cX5_isSo 143 = .ok (.aload_n 2, 1) := by decide +kernel
theorem dX5_isSo_144 : decode cX5_isSo 144 = .ok (.getfield 146, 3) := by decide +kernel
theorem dX5_isSo_147 : decode cX5_isSo 147 = .ok (.ireturn, 1) := by decide +kernel
theorem hcX5_isSo : yX5_isSo.cls ≠ "java/lang/invoke/MethodHandle" ∧ yX5_isSo.cls ≠ "java/lang/invoke/VarHandle" ∧ (parseMethodDescriptor yX5_isSo.desc).map (fun d => d.parameters.length) = some 3 := ⟨by decide +kernel, by decide +kernel, by decide +kernel⟩
def fX5_isSo (La : sg_L) (s0 : sg_M) (o : Int) (x1 : Int) (x3 : Int) (Q : Int → Prop) : Prop := fX4_at La s0 (o + 1) x1 (fun u2 => ((u2 < 0 ∨ 7 < u2 → Q (s0 32 10)) ∧ (u2 = 0 → fX5_compares La s0 o (s0 32 7) x1 (fun u7 => Q u7)) ∧ (u2 = 1 → fX5_compares La s0 o (s0 32 8) x1 (fun u10 => Q u10)) ∧ (u2 = 2 → fX5_compares La s0 o (s0 32 9) x1 (fun u13 => Q u13)) ∧ (u2 = 3 → fX5_compares La s0 o (s0 32 6) x1 (fun u16 => Q u16)) ∧ (u2 = 4 → fX5_compares La s0 o (s0 35 1) x1 (fun u20 => Q u20)) ∧ (u2 = 5 → fX5_compares La s0 o x3 x1 (fun u22 => Q u22)) ∧ (u2 = 6 → (((s0 32 7) ≤ 0 → Q 0) ∧ (¬ ((s0 32 7) ≤ 0) → Q 1))) ∧ (u2 = 7 → (((s0 32 5) = (-1) → Q 0) ∧ (¬ ((s0 32 5) = (-1)) → Q 1)))))
set_option maxHeartbeats 4000000 in
set_option maxRecDepth 100000 in
theorem CX5_isSo {l : Launch} {G : sg_G} {La : sg_L} {s0 : sg_M} (hst : sg_St La) {o : Int} (to : sg_O La o 5) {x1 : Int} (r1 : sg_R x1) {x3 : Int} (r3 : sg_R x3) {Q : Int → Prop} (hf : fX5_isSo La s0 o x1 x3 Q) : sg_C l G yX5_isSo cX5_isSo 4 (some .boolean) 3 0 0 La s0 [sg_r o, sg_i x1, sg_r 32, sg_i x3] (sg_PZ La s0 Q) := by
  refine sg_body (by decide +kernel) (Nat.le_of_ble_eq_true rfl) ?_
  intro p e s m args below meth c F hnm
  unfold fX5_isSo at hf
  show sg_W p l e (sg_rm 3 0 0) s m args below meth c (MQ below (sg_Q (some .boolean) G La s.heap.size (sg_PZ La s0 Q)) args s 0 0 (sg_A La s.heap.size)) 4 G (sg_A La s.heap.size) La s0 0 0 0 [(0, sg_r o), (1, sg_i x1), (2, sg_r 32), (3, sg_i x3)] []
  refine gw_aload_n F 0 rfl rfl to.1 dX5_isSo_0 ?_
  refine gw_get3 F to (by decide) rfl sg_lay_RX5 (j := 0) (by decide) (o1 := (o + 1)) (by first | rfl | omega) rfl (host := "") (.inl kw_207) dX5_isSo_1 (fun h1 => ?_)
  refine gw_iload_n F 1 rfl rfl dX5_isSo_4 ?_
  refine gk_PI F (gc_V F (S := []) (As := [sg_i x1]) (T := TX4) (N := 3) (CX4_at (sg_O_of h1 (by decide)) r1 hf) (sg_O_of h1 (by decide)) (by decide) rfl kw_546 kw_97 kw_847 kw_544 kw_545 hcX4_at ⟨by decide, by decide⟩ rfl rfl (Nat.le_of_ble_eq_true rfl) ⟨by decide, by decide⟩ dX5_isSo_5) (fun u2 h3 hf => ?_)
  refine gw_switch F dX5_isSo_8 h3 (td := 143) (by decide) (fun c4 => ?_) (fun i hi1 hi2 => ?_)
  · have hf := hf.1 c4
    refine gw_aload_n F 2 rfl rfl (by decide) dX5_isSo_143 ?_
    refine gw_get1 F (so_32 hst) (by decide) rfl sg_lay_RX0 (j := 10) (by decide) rfl (.inr kw_274) dX5_isSo_144 (fun h5 => ?_)
    exact gr_PZ F h5 hf (by decide) (by decide) dX5_isSo_147
  · rcases (show i = 0 ∨ i = 1 ∨ i = 2 ∨ i = 3 ∨ i = 4 ∨ i = 5 ∨ i = 6 ∨ i = 7 by omega) with rfl | rfl | rfl | rfl | rfl | rfl | rfl | rfl
    · have hf := hf.2.1 (by omega)
      refine ⟨48, 56, rfl, by decide, ?_⟩
      refine gw_aload_n F 0 rfl rfl to.1 dX5_isSo_56 ?_
      refine gw_aload_n F 2 rfl rfl (by decide) dX5_isSo_57 ?_
      refine gw_get0 F (so_32 hst) (by decide) rfl sg_lay_RX0 (j := 7) (by decide) rfl (.inr kw_265) dX5_isSo_58 (fun h6 => ?_)
      refine gw_iload_n F 1 rfl rfl dX5_isSo_61 ?_
      refine gk_PZ F (gc_V F (S := []) (As := [sg_i (s0 32 7), sg_i x1]) (T := TX5) (N := 4) (CX5_compares to h6 r1 hf) to (by decide) rfl kw_853 kw_96 kw_851 kw_852 kw_37 hcX5_compares ⟨by decide, by decide⟩ rfl rfl (Nat.le_of_ble_eq_true rfl) ⟨by decide, by decide⟩ dX5_isSo_62) (fun u7 h8 hf => ?_)
      exact gr_PZ F h8 hf (by decide) (by decide) dX5_isSo_65
    · have hf := hf.2.2.1 (by omega)
      refine ⟨58, 66, rfl, by decide, ?_⟩
      refine gw_aload_n F 0 rfl rfl to.1 dX5_isSo_66 ?_
      refine gw_aload_n F 2 rfl rfl (by decide) dX5_isSo_67 ?_
      refine gw_get0 F (so_32 hst) (by decide) rfl sg_lay_RX0 (j := 8) (by decide) rfl (.inr kw_268) dX5_isSo_68 (fun h9 => ?_)
      refine gw_iload_n F 1 rfl rfl dX5_isSo_71 ?_
      refine gk_PZ F (gc_V F (S := []) (As := [sg_i (s0 32 8), sg_i x1]) (T := TX5) (N := 4) (CX5_compares to h9 r1 hf) to (by decide) rfl kw_853 kw_96 kw_851 kw_852 kw_37 hcX5_compares ⟨by decide, by decide⟩ rfl rfl (Nat.le_of_ble_eq_true rfl) ⟨by decide, by decide⟩ dX5_isSo_72) (fun u10 h11 hf => ?_)
      exact gr_PZ F h11 hf (by decide) (by decide) dX5_isSo_75
    · have hf := hf.2.2.2.1 (by omega)
      refine ⟨68, 76, rfl, by decide, ?_⟩
      refine gw_aload_n F 0 rfl rfl to.1 dX5_isSo_76 ?_
      refine gw_aload_n F 2 rfl rfl (by decide) dX5_isSo_77 ?_
      refine gw_get0 F (so_32 hst) (by decide) rfl sg_lay_RX0 (j := 9) (by decide) rfl (.inr kw_271) dX5_isSo_78 (fun h12 => ?_)
      refine gw_iload_n F 1 rfl rfl dX5_isSo_81 ?_
      refine gk_PZ F (gc_V F (S := []) (As := [sg_i (s0 32 9), sg_i x1]) (T := TX5) (N := 4) (CX5_compares to h12 r1 hf) to (by decide) rfl kw_853 kw_96 kw_851 kw_852 kw_37 hcX5_compares ⟨by decide, by decide⟩ rfl rfl (Nat.le_of_ble_eq_true rfl) ⟨by decide, by decide⟩ dX5_isSo_82) (fun u13 h14 hf => ?_)
      exact gr_PZ F h14 hf (by decide) (by decide) dX5_isSo_85
    · have hf := hf.2.2.2.2.1 (by omega)
      refine ⟨78, 86, rfl, by decide, ?_⟩
      refine gw_aload_n F 0 rfl rfl to.1 dX5_isSo_86 ?_
      refine gw_aload_n F 2 rfl rfl (by decide) dX5_isSo_87 ?_
      refine gw_get0 F (so_32 hst) (by decide) rfl sg_lay_RX0 (j := 6) (by decide) rfl (.inr kw_263) dX5_isSo_88 (fun h15 => ?_)
      refine gw_iload_n F 1 rfl rfl dX5_isSo_91 ?_
      refine gk_PZ F (gc_V F (S := []) (As := [sg_i (s0 32 6), sg_i x1]) (T := TX5) (N := 4) (CX5_compares to h15 r1 hf) to (by decide) rfl kw_853 kw_96 kw_851 kw_852 kw_37 hcX5_compares ⟨by decide, by decide⟩ rfl rfl (Nat.le_of_ble_eq_true rfl) ⟨by decide, by decide⟩ dX5_isSo_92) (fun u16 h17 hf => ?_)
      exact gr_PZ F h17 hf (by decide) (by decide) dX5_isSo_95
    · have hf := hf.2.2.2.2.2.1 (by omega)
      refine ⟨88, 96, rfl, by decide, ?_⟩
      refine gw_aload_n F 0 rfl rfl to.1 dX5_isSo_96 ?_
      refine gw_aload_n F 2 rfl rfl (by decide) dX5_isSo_97 ?_
      refine gw_get3 F (so_32 hst) (by decide) rfl sg_lay_RX0 (j := 2) (by decide) (o1 := 35) (by first | rfl | omega) rfl (.inr kw_256) dX5_isSo_98 (fun h18 => ?_)
      refine gw_get0 F (so_35 hst) (by decide) rfl sg_lay_RX4 (j := 1) (by decide) rfl (.inr kw_203) dX5_isSo_101 (fun h19 => ?_)
      refine gw_iload_n F 1 rfl rfl dX5_isSo_104 ?_
      refine gk_PZ F (gc_V F (S := []) (As := [sg_i (s0 35 1), sg_i x1]) (T := TX5) (N := 4) (CX5_compares to h19 r1 hf) to (by decide) rfl kw_853 kw_96 kw_851 kw_852 kw_37 hcX5_compares ⟨by decide, by decide⟩ rfl rfl (Nat.le_of_ble_eq_true rfl) ⟨by decide, by decide⟩ dX5_isSo_105) (fun u20 h21 hf => ?_)
      exact gr_PZ F h21 hf (by decide) (by decide) dX5_isSo_108
    · have hf := hf.2.2.2.2.2.2.1 (by omega)
      refine ⟨101, 109, rfl, by decide, ?_⟩
      refine gw_aload_n F 0 rfl rfl to.1 dX5_isSo_109 ?_
      refine gw_iload_n F 3 rfl rfl dX5_isSo_110 ?_
      refine gw_iload_n F 1 rfl rfl dX5_isSo_111 ?_
      refine gk_PZ F (gc_V F (S := []) (As := [sg_i x3, sg_i x1]) (T := TX5) (N := 4) (CX5_compares to r3 r1 hf) to (by decide) rfl kw_853 kw_96 kw_851 kw_852 kw_37 hcX5_compares ⟨by decide, by decide⟩ rfl rfl (Nat.le_of_ble_eq_true rfl) ⟨by decide, by decide⟩ dX5_isSo_112) (fun u22 h23 hf => ?_)
      exact gr_PZ F h23 hf (by decide) (by decide) dX5_isSo_115
    · have hf := hf.2.2.2.2.2.2.2.1 (by omega)
      refine ⟨108, 116, rfl, by decide, ?_⟩
      refine gw_aload_n F 2 rfl rfl (by decide) dX5_isSo_116 ?_
      refine gw_get0 F (so_32 hst) (by decide) rfl sg_lay_RX0 (j := 7) (by decide) rfl (.inr kw_265) dX5_isSo_117 (fun h24 => ?_)
      refine gw_if_le F (tgt := 127) dX5_isSo_120 (by decide) h24 (fun c25 => ?_) (fun c25 => ?_)
      · have hf := hf.1 c25
        refine gw_iconst F dX5_isSo_127 ?_
        exact gr_PZ F (by decide) hf (by decide) (by decide) dX5_isSo_128
      · have hf := hf.2 c25
        refine gw_iconst F dX5_isSo_123 ?_
        refine gw_goto F (tgt := 128) dX5_isSo_124 (by decide) ?_
        exact gr_PZ F (by decide) hf (by decide) (by decide) dX5_isSo_128
    · have hf := hf.2.2.2.2.2.2.2.2 (by omega)
      refine ⟨121, 129, rfl, by decide, ?_⟩
      refine gw_aload_n F 2 rfl rfl (by decide) dX5_isSo_129 ?_
      refine gw_get0 F (so_32 hst) (by decide) rfl sg_lay_RX0 (j := 5) (by decide) rfl (.inr kw_261) dX5_isSo_130 (fun h26 => ?_)
      refine gw_iconst F dX5_isSo_133 ?_
      refine gw_icmp_eq F (tgt := 141) dX5_isSo_134 (by decide) h26 (by decide) (fun c27 => ?_) (fun c27 => ?_)
      · have hf := hf.1 c27
        refine gw_iconst F dX5_isSo_141 ?_
        exact gr_PZ F (by decide) hf (by decide) (by decide) dX5_isSo_142
      · have hf := hf.2 c27
        refine gw_iconst F dX5_isSo_137 ?_
        refine gw_goto F (tgt := 142) dX5_isSo_138 (by decide) ?_
        exact gr_PZ F (by decide) hf (by decide) (by decide) dX5_isSo_142

theorem dX10_init_0 : decode cX10_init 0 = .ok (.aload_n 0, 1) := by decide +kernel
theorem dX10_init_1 : decode cX10_init 1 = .ok (.invokespecial 3, 3) := by decide +kernel
theorem dX10_init_4 : decode cX10_init 4 = .ok (.aload_n 0, 1) := by decide +kernel
theorem dX10_init_5 : decode cX10_init 5 = .ok (.new 9, 3) := by decide +kernel
theorem dX10_init_8 : decode cX10_init 8 = .ok (.dup, 1) := by decide +kernel
theorem dX10_init_9 : decode cX10_init 9 = .ok (.bipush 60, 2) := by decide +kernel
theorem dX10_init_11 : decode cX10_init 11 = .ok (.invokespecial 11, 3) := by decide +kernel
theorem dX10_init_14 : decode cX10_init 14 = .ok (.putfield 14, 3) := by decide +kernel
theorem dX10_init_17 : decode cX10_init 17 = .ok (.aload_n 0, 1) := by decide +kernel
theorem dX10_init_18 : decode cX10_init 18 = .ok (.iconst 0, 1) := by decide +kernel
theorem dX10_init_19 : decode cX10_init 19 = .ok (.putfield 20, 3) := by decide +kernel
theorem dX10_init_22 : decode cX10_init 22 = .ok (.aload_n 0, 1) := by decide +kernel
theorem dX10_init_23 : decode cX10_init 23 = .ok (.iconst 0, 1) := by decide +kernel
theorem dX10_init_24 : decode cX10_init 24 = .ok (.putfield 24, 3) := by decide +kernel
theorem dX10_init_27 : decode cX10_init 27 = .ok (.aload_n 0, 1) := by decide +kernel
theorem dX10_init_28 : decode cX10_init 28 = .ok (.iconst 0, 1) := by decide +kernel
theorem dX10_init_29 : decode cX10_init 29 = .ok (.putfield 27, 3) := by decide +kernel
theorem dX10_init_32 : decode cX10_init 32 = .ok (.aload_n 0, 1) := by decide +kernel
theorem dX10_init_33 : decode cX10_init 33 = .ok (.iconst 0, 1) := by decide +kernel
theorem dX10_init_34 : decode cX10_init 34 = .ok (.putfield 30, 3) := by decide +kernel
theorem dX10_init_37 : decode cX10_init 37 = .ok (.aload_n 0, 1) := by decide +kernel
theorem dX10_init_38 : decode cX10_init 38 = .ok (.iconst 0, 1) := by decide +kernel
theorem dX10_init_39 : decode cX10_init 39 = .ok (.putfield 33, 3) := by decide +kernel
theorem dX10_init_42 : decode cX10_init 42 = .ok (.aload_n 0, 1) := by decide +kernel
theorem dX10_init_43 : decode cX10_init 43 = .ok (.iconst 0, 1) := by decide +kernel
theorem dX10_init_44 : decode cX10_init 44 = .ok (.putfield 37, 3) := by decide +kernel
theorem dX10_init_47 : decode cX10_init 47 = .ok (.return_, 1) := by decide +kernel
theorem hcX10_init : yX10_init.cls ≠ "java/lang/invoke/MethodHandle" ∧ yX10_init.cls ≠ "java/lang/invoke/VarHandle" ∧ (parseMethodDescriptor yX10_init.desc).map (fun d => d.parameters.length) = some 0 := ⟨by decide +kernel, by decide +kernel, by decide +kernel⟩
def fX10_init (La : sg_L) (s0 : sg_M) (o : Int) (Q : sg_L → sg_M → Prop) : Prop := ∀ (q1 : Nat) (La2 : sg_L), La2 = sg_pu La 24 q1 → ∀ s3 : sg_M, s3 = sg_nw s0 La.1 24 → ∀ o4 : Int, o4 = (La.1 : Int) → fX4_init La2 s3 o4 60 (fun La13 s14 => ∀ s19 : sg_M, s19 = sg_up s14 o 0 o4 → ∀ s21 : sg_M, s21 = sg_up s19 o 1 0 → ∀ s23 : sg_M, s23 = sg_up s21 o 2 0 → ∀ s25 : sg_M, s25 = sg_up s23 o 3 0 → ∀ s27 : sg_M, s27 = sg_up s25 o 4 0 → ∀ s29 : sg_M, s29 = sg_up s27 o 5 0 → ∀ s31 : sg_M, s31 = sg_up s29 o 6 0 → sg_sealed La13 s31 o 30 10 ∧ ∀ La33 : sg_L, La33 = sg_se La13 o.toNat 10 → Q La33 s31)
set_option maxHeartbeats 4000000 in
set_option maxRecDepth 100000 in
theorem CX10_init {l : Launch} {G : sg_G} {La : sg_L} {s0 : sg_M} {o : Int} (to : sg_O La o 30) {Q : sg_L → sg_M → Prop} (hf : fX10_init La s0 o Q) : sg_C l G yX10_init cX10_init 1 (none) 2 2 203 La s0 [sg_r o] (sg_BV (sg_se La o.toNat 10) Q) := by
  refine sg_body (by decide +kernel) (Nat.le_of_ble_eq_true rfl) ?_
  intro p e s m args below meth c F hnm
  unfold fX10_init at hf
  show sg_W p l e (sg_rm 2 2 203) s m args below meth c (MQ below (sg_Q (none) G La s.heap.size (sg_BV (sg_se La o.toNat 10) Q)) args s 2 203 (sg_A La s.heap.size)) 1 G (sg_A La s.heap.size) La s0 0 0 0 [(0, sg_r o)] []
  have hin : meth.name = "<init>" := hnm
  refine gw_aload_n F 0 rfl rfl to.1 dX10_init_0 ?_
  refine gw_objInit F to.1 kw_280 kw_OI kw_OC (Nat.le_of_ble_eq_true rfl) (by decide) (by decide) dX10_init_1 ?_
  refine gw_aload_n F 0 rfl rfl to.1 dX10_init_4 ?_
  refine gy_new F (kd := 24) (T := TX4) (by decide) rfl sg_lay_RX4 tyX4_ok kw_281 kw_191 kw_97 ns_X4 nf_X4 nr_X4 (by decide) (by decide) (List.forall_mem_cons.mpr ⟨(Or.inl to.2.1), (fun _ h => absurd h List.not_mem_nil)⟩) (List.forall_mem_cons.mpr ⟨(Or.inl to.2.1), (fun _ h => absurd h List.not_mem_nil)⟩) dX10_init_5 (fun q1 La2 s3 o4 e5 e6 e7 t8 hX9 => ?_)
  have hf := hf q1 La2 e5 s3 e6 o4 e7
  have hn10 : La.1 ≤ o4.toNat := by rw [e7, Int.toNat_natCast]; exact (sg_X.rf : sg_X La La).1
  have t11 := to.X hX9
  have hX12 := sg_X.tr (sg_X.rf) hX9
  refine gw_dup F rfl dX10_init_8 ?_
  refine gw_bipush F rfl dX10_init_9 ?_
  refine gk_BV F (gc_I F (S := [sg_r o4, sg_r o]) (As := [sg_i 60]) (CX4_init t8 (by decide) hf) t8.1 kw_194 kw_97 kw_282 kw_193 rfl hcX4_init ⟨by decide, by decide⟩ rfl rfl (Nat.le_of_ble_eq_true rfl) ⟨by decide, by decide⟩ dX10_init_11) (List.forall_mem_cons.mpr ⟨(Or.inl t11.2.1), (fun _ h => absurd h List.not_mem_nil)⟩) (List.forall_mem_cons.mpr ⟨(Or.inl t8.2.1), (List.forall_mem_cons.mpr ⟨(Or.inl t11.2.1), (fun _ h => absurd h List.not_mem_nil)⟩)⟩) (fun La13 s14 hX15 hf => ?_)
  have t16 := (sg_O_sx t11 t8 (by decide)).X hX15
  have t17 := (sg_O_sealed t8).X hX15
  have hX18 := (sg_X_sx (hX12) hn10).tr hX15
  obtain ⟨s19, e20⟩ : ∃ z : sg_M, z = sg_up s14 o 0 o4 := ⟨_, rfl⟩
  have hf := hf s19 e20
  refine gw_put5F F t16 (by decide) rfl sg_lay_RX10 (j := 0) (by decide) (D0 := tyX10 0) (fun _ => ⟨rfl, rfl⟩) t17.1 t17.2.1 e20 tyX10_ok nmX10 rfl hin rfl (tyX10_ok 0 (by decide)) rfl (host := "") kw_283 dX10_init_14 ?_
  refine gw_aload_n F 0 rfl rfl t16.1 dX10_init_17 ?_
  refine gw_iconst F dX10_init_18 ?_
  obtain ⟨s21, e22⟩ : ∃ z : sg_M, z = sg_up s19 o 1 0 := ⟨_, rfl⟩
  have hf := hf s21 e22
  refine gw_put0 F t16 (by decide) rfl sg_lay_RX10 (j := 1) (by decide) (by decide) e22 tyX10_ok nmX10 rfl (tyX10_ok 1 (by decide)) rfl (host := "") (.inl kw_286) dX10_init_19 ?_
  refine gw_aload_n F 0 rfl rfl t16.1 dX10_init_22 ?_
  refine gw_iconst F dX10_init_23 ?_
  obtain ⟨s23, e24⟩ : ∃ z : sg_M, z = sg_up s21 o 2 0 := ⟨_, rfl⟩
  have hf := hf s23 e24
  refine gw_put0 F t16 (by decide) rfl sg_lay_RX10 (j := 2) (by decide) (by decide) e24 tyX10_ok nmX10 rfl (tyX10_ok 2 (by decide)) rfl (host := "") (.inl kw_289) dX10_init_24 ?_
  refine gw_aload_n F 0 rfl rfl t16.1 dX10_init_27 ?_
  refine gw_iconst F dX10_init_28 ?_
  obtain ⟨s25, e26⟩ : ∃ z : sg_M, z = sg_up s23 o 3 0 := ⟨_, rfl⟩
  have hf := hf s25 e26
  refine gw_put0 F t16 (by decide) rfl sg_lay_RX10 (j := 3) (by decide) (by decide) e26 tyX10_ok nmX10 rfl (tyX10_ok 3 (by decide)) rfl (host := "") (.inl kw_292) dX10_init_29 ?_
  refine gw_aload_n F 0 rfl rfl t16.1 dX10_init_32 ?_
  refine gw_iconst F dX10_init_33 ?_
  obtain ⟨s27, e28⟩ : ∃ z : sg_M, z = sg_up s25 o 4 0 := ⟨_, rfl⟩
  have hf := hf s27 e28
  refine gw_put0 F t16 (by decide) rfl sg_lay_RX10 (j := 4) (by decide) (by decide) e28 tyX10_ok nmX10 rfl (tyX10_ok 4 (by decide)) rfl (host := "") (.inl kw_295) dX10_init_34 ?_
  refine gw_aload_n F 0 rfl rfl t16.1 dX10_init_37 ?_
  refine gw_iconst F dX10_init_38 ?_
  obtain ⟨s29, e30⟩ : ∃ z : sg_M, z = sg_up s27 o 5 0 := ⟨_, rfl⟩
  have hf := hf s29 e30
  refine gw_put1 F t16 (by decide) rfl sg_lay_RX10 (j := 5) (by decide) (by decide) e30 tyX10_ok nmX10 rfl (tyX10_ok 5 (by decide)) rfl (host := "") (.inl kw_298) dX10_init_39 ?_
  refine gw_aload_n F 0 rfl rfl t16.1 dX10_init_42 ?_
  refine gw_iconst F dX10_init_43 ?_
  obtain ⟨s31, e32⟩ : ∃ z : sg_M, z = sg_up s29 o 6 0 := ⟨_, rfl⟩
  have hf := hf s31 e32
  refine gw_put1 F t16 (by decide) rfl sg_lay_RX10 (j := 6) (by decide) (by decide) e32 tyX10_ok nmX10 rfl (tyX10_ok 6 (by decide)) rfl (host := "") (.inl kw_301) dX10_init_44 ?_
  obtain ⟨g34, hf⟩ := hf
  obtain ⟨La33, e35⟩ : ∃ z : sg_L, z = sg_se La13 o.toNat 10 := ⟨_, rfl⟩
  have hf := hf La33 e35
  refine gw_seal t16 ⟨by decide, by decide, by decide⟩ (by decide) (by decide) g34.1 g34.2 ?_
  rw [← e35]
  exact gr_BC F (o := o.toNat) (kd := 10) hf (by rw [e35]; exact sg_X.both hX18) (by decide) (by decide) dX10_init_47

theorem dX11_count_0 : decode cX11_count 0 = .ok (.iload_n 1, 1) := by decide +kernel
theorem dX11_count_1 : decode cX11_count 1 = .ok (.tableswitch 102 0 5 #[39, 50, 61, 72, 83, 94], 39) := by decide +kernel
theorem dX11_count_40 : decode cX11_count 40 = .ok (.aload_n 0, 1) := by decide +kernel
theorem dX11_count_41 : decode cX11_count 41 = .ok (.getfield 39, 3) := by decide +kernel
theorem dX11_count_44 : decode cX11_count 44 = .ok (.getfield 112, 3) := by decide +kernel
theorem dX11_count_47 : decode cX11_count 47 = .ok (.getfield 138, 3) := by decide +kernel
theorem dX11_count_50 : decode cX11_count 50 = .ok (.ireturn, 1) := by decide +kernel
theorem dX11_count_51 : decode cX11_count 51 = .ok (.aload_n 0, 1) := by decide +kernel
theorem dX11_count_52 : decode cX11_count 52 = .ok (.getfield 39, 3) := by decide +kernel
theorem dX11_count_55 : decode cX11_count 55 = .ok (.getfield 112, 3) := by decide +kernel
theorem dX11_count_58 : decode cX11_count 58 = .ok (.getfield 337, 3) := by decide +kernel
theorem dX11_count_61 : decode cX11_count 61 = .ok (.ireturn, 1) := by decide +kernel
theorem dX11_count_62 : decode cX11_count 62 = .ok (.aload_n 0, 1) := by decide +kernel
theorem dX11_count_63 : decode cX11_count 63 = .ok (.getfield 39, 3) := by decide +kernel
theorem dX11_count_66 : decode cX11_count 66 = .ok (.getfield 112, 3) := by decide +kernel
theorem dX11_count_69 : decode cX11_count 69 = .ok (.getfield 340, 3) := by decide +kernel
theorem dX11_count_72 : decode cX11_count 72 = .ok (.ireturn, 1) := by decide +kernel
theorem dX11_count_73 : decode cX11_count 73 = .ok (.aload_n 0, 1) := by decide +kernel
theorem dX11_count_74 : decode cX11_count 74 = .ok (.getfield 39, 3) := by decide +kernel
theorem dX11_count_77 : decode cX11_count 77 = .ok (.getfield 212, 3) := by decide +kernel
theorem dX11_count_80 : decode cX11_count 80 = .ok (.getfield 216, 3) := by decide +kernel
theorem dX11_count_83 : decode cX11_count 83 = .ok (.ireturn, 1) := by decide +kernel
theorem dX11_count_84 : decode cX11_count 84 = .ok (.aload_n 0, 1) := by decide +kernel
theorem dX11_count_85 : decode cX11_count 85 = .ok (.getfield 39, 3) := by decide +kernel
theorem dX11_count_88 : decode cX11_count 88 = .ok (.getfield 237, 3) := by decide +kernel
theorem dX11_count_91 : decode cX11_count 91 = .ok (.getfield 241, 3) := by decide +kernel
theorem dX11_count_94 : decode cX11_count 94 = .ok (.ireturn, 1) := by decide +kernel
theorem dX11_count_95 : decode cX11_count 95 = .ok (.aload_n 0, 1) := by decide +kernel
theorem dX11_count_96 : decode cX11_count 96 = .ok (.getfield 10, 3) := by decide +kernel
theorem dX11_count_99 : decode cX11_count 99 = .ok (.getfield 122, 3) := by decide +kernel
theorem dX11_count_102 : decode cX11_count 102 = .ok (.ireturn, 1) := by decide +kernel
theorem dX11_count_103 : decode cX11_count 103 = .ok (.iconst (-1), 1) := by decide +kernel
theorem dX11_count_104 : decode cX11_count 104 = .ok (.ireturn, 1) := by decide +kernel
theorem hcX11_count : yX11_count.cls ≠ "java/lang/invoke/MethodHandle" ∧ yX11_count.cls ≠ "java/lang/invoke/VarHandle" ∧ (parseMethodDescriptor yX11_count.desc).map (fun d => d.parameters.length) = some 1 := ⟨by decide +kernel, by decide +kernel, by decide +kernel⟩
def fX11_count (s0 : sg_M) (x1 : Int) (Q : Int → Prop) : Prop := ((x1 < 0 ∨ 5 < x1 → Q (-1)) ∧ (x1 = 0 → (0 ≤ (s0 4 0)) ∧ Q (s0 (s0 4 0) 4)) ∧ (x1 = 1 → (0 ≤ (s0 4 0)) ∧ Q (s0 (s0 4 0) 5)) ∧ (x1 = 2 → (0 ≤ (s0 4 0)) ∧ Q (s0 (s0 4 0) 6)) ∧ (x1 = 3 → (0 ≤ (s0 4 1)) ∧ Q (s0 (s0 4 1) 2)) ∧ (x1 = 4 → Q (s0 20 2)) ∧ (x1 = 5 → Q (s0 1 1)))
set_option maxHeartbeats 4000000 in
set_option maxRecDepth 100000 in
theorem CX11_count {l : Launch} {G : sg_G} {La : sg_L} {s0 : sg_M} (hst : sg_St La) {x1 : Int} (r1 : sg_R x1) {Q : Int → Prop} (hf : fX11_count s0 x1 Q) : sg_C l G yX11_count cX11_count 2 (some .int) 1 0 0 La s0 [sg_r 0, sg_i x1] (sg_PI La s0 Q) := by
  refine sg_body (by decide +kernel) (Nat.le_of_ble_eq_true rfl) ?_
  intro p e s m args below meth c F hnm
  unfold fX11_count at hf
  show sg_W p l e (sg_rm 1 0 0) s m args below meth c (MQ below (sg_Q (some .int) G La s.heap.size (sg_PI La s0 Q)) args s 0 0 (sg_A La s.heap.size)) 2 G (sg_A La s.heap.size) La s0 0 0 0 [(0, sg_r 0), (1, sg_i x1)] []
  refine gw_iload_n F 1 rfl rfl dX11_count_0 ?_
  refine gw_switch F dX11_count_1 r1 (td := 103) (by decide) (fun c1 => ?_) (fun i hi1 hi2 => ?_)
  · have hf := hf.1 c1
    refine gw_iconst F dX11_count_103 ?_
    exact gr_PI F (by decide) hf (by decide) (by decide) dX11_count_104
  · rcases (show i = 0 ∨ i = 1 ∨ i = 2 ∨ i = 3 ∨ i = 4 ∨ i = 5 by omega) with rfl | rfl | rfl | rfl | rfl | rfl
    · have hf := hf.2.1 (by omega)
      refine ⟨39, 40, rfl, by decide, ?_⟩
      refine gw_aload_n F 0 rfl rfl (by decide) dX11_count_40 ?_
      refine gw_get7 F (so_0 hst) (by decide) rfl sg_lay_RX11 (j := 2) (by decide) (o1 := 4) (by first | rfl | omega) rfl (host := "") (.inl kw_328) dX11_count_41 (fun h2 => ?_)
      refine gw_get4 F (so_4 hst) (by decide) rfl sg_lay_RX7 (j := 0) (by decide) rfl (.inr kw_234) dX11_count_44 (fun h3 => ?_)
      obtain ⟨g4, hf⟩ := hf
      have t5 := sg_nn h3 g4
      refine gw_get0 F t5 (by decide) rfl sg_lay_RX1 (j := 4) (by decide) rfl (.inr kw_165) dX11_count_47 (fun h6 => ?_)
      exact gr_PI F h6 hf (by decide) (by decide) dX11_count_50
    · have hf := hf.2.2.1 (by omega)
      refine ⟨50, 51, rfl, by decide, ?_⟩
      refine gw_aload_n F 0 rfl rfl (by decide) dX11_count_51 ?_
      refine gw_get7 F (so_0 hst) (by decide) rfl sg_lay_RX11 (j := 2) (by decide) (o1 := 4) (by first | rfl | omega) rfl (host := "") (.inl kw_328) dX11_count_52 (fun h7 => ?_)
      refine gw_get4 F (so_4 hst) (by decide) rfl sg_lay_RX7 (j := 0) (by decide) rfl (.inr kw_234) dX11_count_55 (fun h8 => ?_)
      obtain ⟨g9, hf⟩ := hf
      have t10 := sg_nn h8 g9
      refine gw_get0 F t10 (by decide) rfl sg_lay_RX1 (j := 5) (by decide) rfl (.inr kw_168) dX11_count_58 (fun h11 => ?_)
      exact gr_PI F h11 hf (by decide) (by decide) dX11_count_61
    · have hf := hf.2.2.2.1 (by omega)
      refine ⟨61, 62, rfl, by decide, ?_⟩
      refine gw_aload_n F 0 rfl rfl (by decide) dX11_count_62 ?_
      refine gw_get7 F (so_0 hst) (by decide) rfl sg_lay_RX11 (j := 2) (by decide) (o1 := 4) (by first | rfl | omega) rfl (host := "") (.inl kw_328) dX11_count_63 (fun h12 => ?_)
      refine gw_get4 F (so_4 hst) (by decide) rfl sg_lay_RX7 (j := 0) (by decide) rfl (.inr kw_234) dX11_count_66 (fun h13 => ?_)
      obtain ⟨g14, hf⟩ := hf
      have t15 := sg_nn h13 g14
      refine gw_get0 F t15 (by decide) rfl sg_lay_RX1 (j := 6) (by decide) rfl (.inr kw_171) dX11_count_69 (fun h16 => ?_)
      exact gr_PI F h16 hf (by decide) (by decide) dX11_count_72
    · have hf := hf.2.2.2.2.1 (by omega)
      refine ⟨72, 73, rfl, by decide, ?_⟩
      refine gw_aload_n F 0 rfl rfl (by decide) dX11_count_73 ?_
      refine gw_get7 F (so_0 hst) (by decide) rfl sg_lay_RX11 (j := 2) (by decide) (o1 := 4) (by first | rfl | omega) rfl (host := "") (.inl kw_328) dX11_count_74 (fun h17 => ?_)
      refine gw_get4 F (so_4 hst) (by decide) rfl sg_lay_RX7 (j := 1) (by decide) rfl (.inr kw_236) dX11_count_77 (fun h18 => ?_)
      obtain ⟨g19, hf⟩ := hf
      have t20 := sg_nn h18 g19
      refine gw_get0 F t20 (by decide) rfl sg_lay_RX3 (j := 2) (by decide) rfl (.inr kw_181) dX11_count_80 (fun h21 => ?_)
      exact gr_PI F h21 hf (by decide) (by decide) dX11_count_83
    · have hf := hf.2.2.2.2.2.1 (by omega)
      refine ⟨83, 84, rfl, by decide, ?_⟩
      refine gw_aload_n F 0 rfl rfl (by decide) dX11_count_84 ?_
      refine gw_get7 F (so_0 hst) (by decide) rfl sg_lay_RX11 (j := 2) (by decide) (o1 := 4) (by first | rfl | omega) rfl (host := "") (.inl kw_328) dX11_count_85 (fun h22 => ?_)
      refine gw_get7 F (so_4 hst) (by decide) rfl sg_lay_RX7 (j := 3) (by decide) (o1 := 20) (by first | rfl | omega) rfl (.inr kw_240) dX11_count_88 (fun h23 => ?_)
      refine gw_get0 F (so_20 hst) (by decide) rfl sg_lay_RX2 (j := 2) (by decide) rfl (.inr kw_230) dX11_count_91 (fun h24 => ?_)
      exact gr_PI F h24 hf (by decide) (by decide) dX11_count_94
    · have hf := hf.2.2.2.2.2.2 (by omega)
      refine ⟨94, 95, rfl, by decide, ?_⟩
      refine gw_aload_n F 0 rfl rfl (by decide) dX11_count_95 ?_
      refine gw_get7 F (so_0 hst) (by decide) rfl sg_lay_RX11 (j := 0) (by decide) (o1 := 1) (by first | rfl | omega) rfl (host := "") (.inl kw_326) dX11_count_96 (fun h25 => ?_)
      refine gw_get0 F (so_1 hst) (by decide) rfl sg_lay_RX8 (j := 1) (by decide) rfl (.inr kw_128) dX11_count_99 (fun h26 => ?_)
      exact gr_PI F h26 hf (by decide) (by decide) dX11_count_102

theorem dX11_read_0 : decode cX11_read 0 = .ok (.iload_n 1, 1) := by decide +kernel
theorem dX11_read_1 : decode cX11_read 1 = .ok (.invokestatic 268, 3) := by decide +kernel
theorem dX11_read_4 : decode cX11_read 4 = .ok (.ifCond .eq 10, 3) := by decide +kernel
theorem dX11_read_7 : decode cX11_read 7 = .ok (.iload_n 2, 1) := by decide +kernel
theorem dX11_read_8 : decode cX11_read 8 = .ok (.invokestatic 258, 3) := by decide +kernel
theorem dX11_read_11 : decode cX11_read 11 = .ok (.ifCond .ne 5, 3) := by decide +kernel
theorem dX11_read_14 : decode cX11_read 14 = .ok (.iconst (-1), 1) := by decide +kernel
theorem dX11_read_15 : decode cX11_read 15 = .ok (.ireturn, 1) := by decide +kernel
theorem dX11_read_16 : decode cX11_read 16 = .ok (.aload_n 0, 1) := by decide +kernel
theorem dX11_read_17 : decode cX11_read 17 = .ok (.invokevirtual 251, 3) := by decide +kernel
theorem dX11_read_20 : decode cX11_read 20 = .ok (.aload_n 0, 1) := by decide +kernel
theorem dX11_read_21 : decode cX11_read 21 = .ok (.getfield 83, 3) := by decide +kernel
theorem dX11_read_24 : decode cX11_read 24 = .ok (.invokevirtual 271, 3) := by decide +kernel
theorem dX11_read_27 : decode cX11_read 27 = .ok (.iconst 0, 1) := by decide +kernel
theorem dX11_read_28 : decode cX11_read 28 = .ok (.istore_n 3, 1) := by decide +kernel
theorem dX11_read_29 : decode cX11_read 29 = .ok (.iload_n 3, 1) := by decide +kernel
theorem dX11_read_30 : decode cX11_read 30 = .ok (.aload_n 0, 1) := by decide +kernel
theorem dX11_read_31 : decode cX11_read 31 = .ok (.getfield 93, 3) := by decide +kernel
theorem dX11_read_34 : decode cX11_read 34 = .ok (.getfield 181, 3) := by decide +kernel
theorem dX11_read_37 : decode cX11_read 37 = .ok (.if_icmp .ge 33, 3) := by decide +kernel
theorem dX11_read_40 : decode cX11_read 40 = .ok (.aload_n 0, 1) := by decide +kernel
theorem dX11_read_41 : decode cX11_read 41 = .ok (.getfield 93, 3) := by decide +kernel
theorem dX11_read_44 : decode cX11_read 44 = .ok (.iload_n 3, 1) := by decide +kernel
theorem dX11_read_45 : decode cX11_read 45 = .ok (.invokevirtual 182, 3) := by decide +kernel
theorem dX11_read_48 : decode cX11_read 48 = .ok (.iload_n 1, 1) := by decide +kernel
theorem dX11_read_49 : decode cX11_read 49 = .ok (.iload_n 2, 1) := by decide +kernel
theorem dX11_read_50 : decode cX11_read 50 = .ok (.invokestatic 274, 3) := by decide +kernel
theorem dX11_read_53 : decode cX11_read 53 = .ok (.ifCond .eq 11, 3) := by decide +kernel
theorem dX11_read_56 : decode cX11_read 56 = .ok (.aload_n 0, 1) := by decide +kernel
theorem dX11_read_57 : decode cX11_read 57 = .ok (.getfield 83, 3) := by decide +kernel
theorem dX11_read_60 : decode cX11_read 60 = .ok (.iload_n 3, 1) := by decide +kernel
theorem dX11_read_61 : decode cX11_read 61 = .ok (.invokevirtual 278, 3) := by decide +kernel
theorem dX11_read_64 : decode cX11_read 64 = .ok (.iinc 3 1, 3) := by decide +kernel
theorem dX11_read_67 : decode cX11_read 67 = .ok (.goto (-38), 3) := by decide +kernel
theorem dX11_read_70 : decode cX11_read 70 = .ok (.aload_n 0, 1) := by decide +kernel
theorem dX11_read_71 : decode cX11_read 71 = .ok (.getfield 83, 3) := by decide +kernel
theorem dX11_read_74 : decode cX11_read 74 = .ok (.getfield 181, 3) := by decide +kernel
theorem dX11_read_77 : decode cX11_read 77 = .ok (.ireturn, 1) := by decide +kernel
theorem hcX11_read : yX11_read.cls ≠ "java/lang/invoke/MethodHandle" ∧ yX11_read.cls ≠ "java/lang/invoke/VarHandle" ∧ (parseMethodDescriptor yX11_read.desc).map (fun d => d.parameters.length) = some 2 := ⟨by decide +kernel, by decide +kernel, by decide +kernel⟩
def fX11_read_j64 (x3_29 : Int) (k29 : sg_M → Int → Prop) (s_64 : sg_M) : Prop := sg_R (x3_29 + 1) ∧ k29 s_64 (x3_29 + 1)
def fX11_read_L29 (La : sg_L) (x1 : Int) (x2 : Int) (Q : Int → sg_M → Prop) : Nat → sg_M → Int → Prop
  | 0, _, _ => False
  | n_29 + 1, s_29, x3_29 => (((s_29 58 1) ≤ x3_29 → Q (s_29 52 1) s_29) ∧ (¬ ((s_29 58 1) ≤ x3_29) → fX4_at La s_29 58 x3_29 (fun u16 => fX11_isNear u16 x1 x2 (fun u18 => ((u18 = 0 → (fX11_read_j64 x3_29 (fX11_read_L29 La x1 x2 Q n_29)) s_29) ∧ (¬ (u18 = 0) → fX4_add La s_29 52 x3_29 (fun s23 => (fX11_read_j64 x3_29 (fX11_read_L29 La x1 x2 Q n_29)) s23)))))))
def fX11_read (La : sg_L) (s0 : sg_M) (x1 : Int) (x2 : Int) (Q : Int → sg_M → Prop) : Prop := fX11_isTone x1 (fun u1 => ((u1 = 0 → Q (-1) s0) ∧ (¬ (u1 = 0) → fX11_isSlip x2 (fun u4 => ((u4 ≠ 0 → fX11_hearBook La s0 (fun s7 => fX4_clear s7 52 (fun s9 => (∃ n24 : Nat, fX11_read_L29 La x1 x2 Q n24 s9 0)))) ∧ (u4 = 0 → Q (-1) s0))))))
set_option maxHeartbeats 4000000 in
set_option maxRecDepth 100000 in
theorem CX11_read {l : Launch} {G : sg_G} {La : sg_L} {s0 : sg_M} (hst : sg_St La) {x1 : Int} (r1 : sg_R x1) {x2 : Int} (r2 : sg_R x2) {Q : Int → sg_M → Prop} (hf : fX11_read La s0 x1 x2 Q) : sg_C l G yX11_read cX11_read 4 (some .int) 7 0 0 La s0 [sg_r 0, sg_i x1, sg_i x2] (sg_HI La Q) := by
  refine sg_body (by decide +kernel) (Nat.le_of_ble_eq_true rfl) ?_
  intro p e s m args below meth c F hnm
  unfold fX11_read at hf
  show sg_W p l e (sg_rm 7 0 0) s m args below meth c (MQ below (sg_Q (some .int) G La s.heap.size (sg_HI La Q)) args s 0 0 (sg_A La s.heap.size)) 4 G (sg_A La s.heap.size) La s0 0 0 0 [(0, sg_r 0), (1, sg_i x1), (2, sg_i x2)] []
  refine gw_iload_n F 1 rfl rfl dX11_read_0 ?_
  refine gk_PZ F (gc_S F (S := []) (As := [sg_i x1]) (CX11_isTone r1 hf) kw_684 kw_90 kw_724 kw_683 hcX11_isTone ⟨by decide, by decide⟩ rfl rfl (Nat.le_of_ble_eq_true rfl) ⟨by decide, by decide⟩ dX11_read_1) (fun u1 h2 hf => ?_)
  refine gw_if_eq F (tgt := 14) dX11_read_4 (by decide) (sg_B_R h2) (fun c3 => ?_) (fun c3 => ?_)
  · have hf := hf.1 c3
    refine gw_iconst F dX11_read_14 ?_
    exact gr_HI F (by decide) hf (by decide) (by decide) dX11_read_15
  · have hf := hf.2 c3
    refine gw_iload_n F 2 rfl rfl dX11_read_7 ?_
    refine gk_PZ F (gc_S F (S := []) (As := [sg_i x2]) (CX11_isSlip r2 hf) kw_688 kw_90 kw_686 kw_687 hcX11_isSlip ⟨by decide, by decide⟩ rfl rfl (Nat.le_of_ble_eq_true rfl) ⟨by decide, by decide⟩ dX11_read_8) (fun u4 h5 hf => ?_)
    refine gw_if_ne F (tgt := 16) dX11_read_11 (by decide) (sg_B_R h5) (fun c6 => ?_) (fun c6 => ?_)
    · have hf := hf.1 c6
      refine gw_aload_n F 0 rfl rfl (by decide) dX11_read_16 ?_
      refine gk_HV F (gc_V F (S := []) (As := []) (T := TX11) (N := 19) (CX11_hearBook hst hf) (so_0 hst) (by decide) rfl kw_651 kw_90 kw_649 kw_650 kw_19 hcX11_hearBook ⟨by decide, by decide⟩ rfl rfl (Nat.le_of_ble_eq_true rfl) ⟨by decide, by decide⟩ dX11_read_17) (fun s7 hf => ?_)
      refine gw_aload_n F 0 rfl rfl (by decide) dX11_read_20 ?_
      refine gw_get7 F (so_0 hst) (by decide) rfl sg_lay_RX11 (j := 10) (by decide) (o1 := 52) (by first | rfl | omega) rfl (host := "") (.inl kw_336) dX11_read_21 (fun h8 => ?_)
      refine gk_HV F (gc_V F (S := []) (As := []) (T := TX4) (N := 3) (CX4_clear (so_52 hst) hf) (so_52 hst) (by decide) rfl kw_531 kw_97 kw_652 kw_529 kw_530 hcX4_clear ⟨by decide, by decide⟩ rfl rfl (Nat.le_of_ble_eq_true rfl) ⟨by decide, by decide⟩ dX11_read_24) (fun s9 hf => ?_)
      refine gw_iconst F dX11_read_27 ?_
      refine gw_istore_n F rfl (by decide) rfl dX11_read_28 ?_
      have L29 : ∀ n_29 : Nat, ∀ (s_29 : sg_M) (x3_29 : Int), sg_R x3_29 → fX11_read_L29 La x1 x2 Q n_29 s_29 x3_29 → sg_W p l e (sg_rm 7 0 0) s m args below meth c (MQ below (sg_Q (some .int) G La s.heap.size (sg_HI La Q)) args s 0 0 (sg_A La s.heap.size)) 4 G (sg_A La s.heap.size) La s_29 0 0 29 [(0, sg_r 0), (1, sg_i x1), (2, sg_i x2), (3, sg_i x3_29)] [] := by
        intro n_29
        induction n_29 with
        | zero => intro s_29 x3_29 r3_29 hf; exact hf.elim
        | succ n_29 ih =>
          intro s_29 x3_29 r3_29 hf
          unfold fX11_read_L29 at hf
          refine gw_iload_n F 3 rfl rfl dX11_read_29 ?_
          refine gw_aload_n F 0 rfl rfl (by decide) dX11_read_30 ?_
          refine gw_get7 F (so_0 hst) (by decide) rfl sg_lay_RX11 (j := 13) (by decide) (o1 := 58) (by first | rfl | omega) rfl (host := "") (.inl kw_339) dX11_read_31 (fun h10 => ?_)
          refine gw_get0 F (so_58 hst) (by decide) rfl sg_lay_RX4 (j := 1) (by decide) rfl (.inr kw_204) dX11_read_34 (fun h11 => ?_)
          refine gw_icmp_ge F (tgt := 70) dX11_read_37 (by decide) r3_29 h11 (fun c12 => ?_) (fun c12 => ?_)
          · have hf := hf.1 c12
            refine gw_aload_n F 0 rfl rfl (by decide) dX11_read_70 ?_
            refine gw_get7 F (so_0 hst) (by decide) rfl sg_lay_RX11 (j := 10) (by decide) (o1 := 52) (by first | rfl | omega) rfl (host := "") (.inl kw_336) dX11_read_71 (fun h13 => ?_)
            refine gw_get0 F (so_52 hst) (by decide) rfl sg_lay_RX4 (j := 1) (by decide) rfl (.inr kw_204) dX11_read_74 (fun h14 => ?_)
            exact gr_HI F h14 hf (by decide) (by decide) dX11_read_77
          · have hf := hf.2 c12
            refine gw_aload_n F 0 rfl rfl (by decide) dX11_read_40 ?_
            refine gw_get7 F (so_0 hst) (by decide) rfl sg_lay_RX11 (j := 13) (by decide) (o1 := 58) (by first | rfl | omega) rfl (host := "") (.inl kw_339) dX11_read_41 (fun h15 => ?_)
            refine gw_iload_n F 3 rfl rfl dX11_read_44 ?_
            refine gk_PI F (gc_V F (S := []) (As := [sg_i x3_29]) (T := TX4) (N := 3) (CX4_at (so_58 hst) r3_29 hf) (so_58 hst) (by decide) rfl kw_546 kw_97 kw_543 kw_544 kw_545 hcX4_at ⟨by decide, by decide⟩ rfl rfl (Nat.le_of_ble_eq_true rfl) ⟨by decide, by decide⟩ dX11_read_45) (fun u16 h17 hf => ?_)
            refine gw_iload_n F 1 rfl rfl dX11_read_48 ?_
            refine gw_iload_n F 2 rfl rfl dX11_read_49 ?_
            refine gk_PZ F (gc_S F (S := []) (As := [sg_i u16, sg_i x1, sg_i x2]) (CX11_isNear h17 r1 r2 hf) kw_696 kw_90 kw_725 kw_695 hcX11_isNear ⟨by decide, by decide⟩ rfl rfl (Nat.le_of_ble_eq_true rfl) ⟨by decide, by decide⟩ dX11_read_50) (fun u18 h19 hf => ?_)
            have J64 : ∀ (s_64 : sg_M), (fX11_read_j64 x3_29 (fX11_read_L29 La x1 x2 Q n_29)) s_64 → sg_W p l e (sg_rm 7 0 0) s m args below meth c (MQ below (sg_Q (some .int) G La s.heap.size (sg_HI La Q)) args s 0 0 (sg_A La s.heap.size)) 4 G (sg_A La s.heap.size) La s_64 0 0 64 [(0, sg_r 0), (1, sg_i x1), (2, sg_i x2), (3, sg_i x3_29)] [] := by
              intro s_64 hf
              unfold fX11_read_j64 at hf
              refine gw_iinc F (z := (x3_29 + 1)) 3 rfl (by omega) (by decide) rfl dX11_read_64 ?_
              refine gw_goto F (tgt := 29) dX11_read_67 (by decide) ?_
              obtain ⟨g20, hf⟩ := hf
              refine gw_sub [1, 2, 3, 0] rfl ?_
              exact ih s_64 (x3_29 + 1) g20 hf
            refine gw_if_eq F (tgt := 64) dX11_read_53 (by decide) (sg_B_R h19) (fun c21 => ?_) (fun c21 => ?_)
            · have hf := hf.1 c21
              refine gw_sub [0, 1, 2, 3] rfl ?_
              exact J64 s_29 hf
            · have hf := hf.2 c21
              refine gw_aload_n F 0 rfl rfl (by decide) dX11_read_56 ?_
              refine gw_get7 F (so_0 hst) (by decide) rfl sg_lay_RX11 (j := 10) (by decide) (o1 := 52) (by first | rfl | omega) rfl (host := "") (.inl kw_336) dX11_read_57 (fun h22 => ?_)
              refine gw_iload_n F 3 rfl rfl dX11_read_60 ?_
              refine gk_HV F (gc_V F (S := []) (As := [sg_i x3_29]) (T := TX4) (N := 3) (CX4_add (so_52 hst) r3_29 hf) (so_52 hst) (by decide) rfl kw_538 kw_97 kw_663 kw_536 kw_537 hcX4_add ⟨by decide, by decide⟩ rfl rfl (Nat.le_of_ble_eq_true rfl) ⟨by decide, by decide⟩ dX11_read_61) (fun s23 hf => ?_)
              refine gw_sub [0, 1, 2, 3] rfl ?_
              exact J64 s23 hf
      obtain ⟨n24, hf⟩ := hf
      refine gw_sub [1, 2, 3, 0] rfl ?_
      refine L29   n24 s9 0 (by decide) hf
    · have hf := hf.2 c6
      refine gw_iconst F dX11_read_14 ?_
      exact gr_HI F (by decide) hf (by decide) (by decide) dX11_read_15

theorem dX11_keep_0 : decode cX11_keep 0 = .ok (.iload_n 1, 1) := by decide +kernel
theorem dX11_keep_1 : decode cX11_keep 1 = .ok (.ifCond .lt 8, 3) := by decide +kernel
theorem dX11_keep_4 : decode cX11_keep 4 = .ok (.iload_n 1, 1) := by decide +kernel
theorem dX11_keep_5 : decode cX11_keep 5 = .ok (.iconst 4, 1) := by decide +kernel
theorem dX11_keep_6 : decode cX11_keep 6 = .ok (.if_icmp .lt 5, 3) := by decide +kernel
theorem dX11_keep_9 : decode cX11_keep 9 = .ok (.iconst 0, 1) := by decide +kernel
theorem dX11_keep_10 : decode cX11_keep 10 = .ok (.ireturn, 1) := by decide +kernel
theorem dX11_keep_11 : decode cX11_keep 11 = .ok (.aload_n 0, 1) := by decide +kernel
theorem dX11_keep_12 : decode cX11_keep 12 = .ok (.getfield 39, 3) := by decide +kernel
theorem dX11_keep_15 : decode cX11_keep 15 = .ok (.getfield 300, 3) := by decide +kernel
theorem dX11_keep_18 : decode cX11_keep 18 = .ok (.iload_n 1, 1) := by decide +kernel
theorem dX11_keep_19 : decode cX11_keep 19 = .ok (.aload_n 0, 1) := by decide +kernel
theorem dX11_keep_20 : decode cX11_keep 20 = .ok (.getfield 39, 3) := by decide +kernel
theorem dX11_keep_23 : decode cX11_keep 23 = .ok (.getfield 112, 3) := by decide +kernel
theorem dX11_keep_26 : decode cX11_keep 26 = .ok (.aastore, 1) := by decide +kernel
theorem dX11_keep_27 : decode cX11_keep 27 = .ok (.iconst 1, 1) := by decide +kernel
theorem dX11_keep_28 : decode cX11_keep 28 = .ok (.ireturn, 1) := by decide +kernel
theorem hcX11_keep : yX11_keep.cls ≠ "java/lang/invoke/MethodHandle" ∧ yX11_keep.cls ≠ "java/lang/invoke/VarHandle" ∧ (parseMethodDescriptor yX11_keep.desc).map (fun d => d.parameters.length) = some 1 := ⟨by decide +kernel, by decide +kernel, by decide +kernel⟩
def fX11_keep (s0 : sg_M) (x1 : Int) (Q : Int → sg_M → Prop) : Prop := ((x1 < 0 → Q 0 s0) ∧ (¬ (x1 < 0) → ((x1 < 4 → (0 ≤ x1 ∧ x1 < 4) ∧ ∀ s8 : sg_M, s8 = sg_up s0 25 x1 (s0 4 0) → Q 1 s8) ∧ (¬ (x1 < 4) → Q 0 s0))))
set_option maxHeartbeats 4000000 in
set_option maxRecDepth 100000 in
theorem CX11_keep {l : Launch} {G : sg_G} {La : sg_L} {s0 : sg_M} (hst : sg_St La) {x1 : Int} (r1 : sg_R x1) {Q : Int → sg_M → Prop} (hf : fX11_keep s0 x1 Q) : sg_C l G yX11_keep cX11_keep 2 (some .boolean) 1 0 0 La s0 [sg_r 0, sg_i x1] (sg_HZ La Q) := by
  refine sg_body (by decide +kernel) (Nat.le_of_ble_eq_true rfl) ?_
  intro p e s m args below meth c F hnm
  unfold fX11_keep at hf
  show sg_W p l e (sg_rm 1 0 0) s m args below meth c (MQ below (sg_Q (some .boolean) G La s.heap.size (sg_HZ La Q)) args s 0 0 (sg_A La s.heap.size)) 2 G (sg_A La s.heap.size) La s0 0 0 0 [(0, sg_r 0), (1, sg_i x1)] []
  refine gw_iload_n F 1 rfl rfl dX11_keep_0 ?_
  refine gw_if_lt F (tgt := 9) dX11_keep_1 (by decide) r1 (fun c1 => ?_) (fun c1 => ?_)
  · have hf := hf.1 c1
    refine gw_iconst F dX11_keep_9 ?_
    exact gr_HZ F (by decide) hf (by decide) (by decide) dX11_keep_10
  · have hf := hf.2 c1
    refine gw_iload_n F 1 rfl rfl dX11_keep_4 ?_
    refine gw_iconst F dX11_keep_5 ?_
    refine gw_icmp_lt F (tgt := 11) dX11_keep_6 (by decide) r1 (by decide) (fun c2 => ?_) (fun c2 => ?_)
    · have hf := hf.1 c2
      refine gw_aload_n F 0 rfl rfl (by decide) dX11_keep_11 ?_
      refine gw_get7 F (so_0 hst) (by decide) rfl sg_lay_RX11 (j := 2) (by decide) (o1 := 4) (by first | rfl | omega) rfl (host := "") (.inl kw_328) dX11_keep_12 (fun h3 => ?_)
      refine gw_get7 F (so_4 hst) (by decide) rfl sg_lay_RX7 (j := 4) (by decide) (o1 := 25) (by first | rfl | omega) rfl (.inr kw_242) dX11_keep_15 (fun h4 => ?_)
      refine gw_iload_n F 1 rfl rfl dX11_keep_18 ?_
      refine gw_aload_n F 0 rfl rfl (by decide) dX11_keep_19 ?_
      refine gw_get7 F (so_0 hst) (by decide) rfl sg_lay_RX11 (j := 2) (by decide) (o1 := 4) (by first | rfl | omega) rfl (host := "") (.inl kw_328) dX11_keep_20 (fun h5 => ?_)
      refine gw_get4 F (so_4 hst) (by decide) rfl sg_lay_RX7 (j := 0) (by decide) rfl (.inr kw_234) dX11_keep_23 (fun h6 => ?_)
      obtain ⟨⟨b70, b71⟩, hf⟩ := hf
      obtain ⟨s8, e9⟩ : ∃ z : sg_M, z = sg_up s0 25 x1 (s0 4 0) := ⟨_, rfl⟩
      have hf := hf s8 e9
      refine gw_aastBN F (n := 4) (so_25 hst) (by decide) (by decide) (by decide) b70 b71 h6 e9 dX11_keep_26 ?_
      refine gw_iconst F dX11_keep_27 ?_
      exact gr_HZ F (by decide) hf (by decide) (by decide) dX11_keep_28
    · have hf := hf.2 c2
      refine gw_iconst F dX11_keep_9 ?_
      exact gr_HZ F (by decide) hf (by decide) (by decide) dX11_keep_10

theorem dX9_init_0 : decode cX9_init 0 = .ok (.aload_n 0, 1) := by decide +kernel
theorem dX9_init_1 : decode cX9_init 1 = .ok (.invokespecial 1, 3) := by decide +kernel
theorem dX9_init_4 : decode cX9_init 4 = .ok (.aload_n 0, 1) := by decide +kernel
theorem dX9_init_5 : decode cX9_init 5 = .ok (.iconst 0, 1) := by decide +kernel
theorem dX9_init_6 : decode cX9_init 6 = .ok (.putfield 7, 3) := by decide +kernel
theorem dX9_init_9 : decode cX9_init 9 = .ok (.aload_n 0, 1) := by decide +kernel
theorem dX9_init_10 : decode cX9_init 10 = .ok (.iconst 0, 1) := by decide +kernel
theorem dX9_init_11 : decode cX9_init 11 = .ok (.putfield 13, 3) := by decide +kernel
theorem dX9_init_14 : decode cX9_init 14 = .ok (.aload_n 0, 1) := by decide +kernel
theorem dX9_init_15 : decode cX9_init 15 = .ok (.iconst 0, 1) := by decide +kernel
theorem dX9_init_16 : decode cX9_init 16 = .ok (.putfield 16, 3) := by decide +kernel
theorem dX9_init_19 : decode cX9_init 19 = .ok (.aload_n 0, 1) := by decide +kernel
theorem dX9_init_20 : decode cX9_init 20 = .ok (.iconst 0, 1) := by decide +kernel
theorem dX9_init_21 : decode cX9_init 21 = .ok (.putfield 19, 3) := by decide +kernel
theorem dX9_init_24 : decode cX9_init 24 = .ok (.aload_n 0, 1) := by decide +kernel
theorem dX9_init_25 : decode cX9_init 25 = .ok (.iconst 0, 1) := by decide +kernel
theorem dX9_init_26 : decode cX9_init 26 = .ok (.putfield 22, 3) := by decide +kernel
theorem dX9_init_29 : decode cX9_init 29 = .ok (.aload_n 0, 1) := by decide +kernel
theorem dX9_init_30 : decode cX9_init 30 = .ok (.iconst 0, 1) := by decide +kernel
theorem dX9_init_31 : decode cX9_init 31 = .ok (.putfield 25, 3) := by decide +kernel
theorem dX9_init_34 : decode cX9_init 34 = .ok (.aload_n 0, 1) := by decide +kernel
theorem dX9_init_35 : decode cX9_init 35 = .ok (.iconst 0, 1) := by decide +kernel
theorem dX9_init_36 : decode cX9_init 36 = .ok (.putfield 28, 3) := by decide +kernel
theorem dX9_init_39 : decode cX9_init 39 = .ok (.aload_n 0, 1) := by decide +kernel
theorem dX9_init_40 : decode cX9_init 40 = .ok (.aload_n 1, 1) := by decide +kernel
theorem dX9_init_41 : decode cX9_init 41 = .ok (.putfield 31, 3) := by decide +kernel
theorem dX9_init_44 : decode cX9_init 44 = .ok (.return_, 1) := by decide +kernel
theorem hcX9_init : yX9_init.cls ≠ "java/lang/invoke/MethodHandle" ∧ yX9_init.cls ≠ "java/lang/invoke/VarHandle" ∧ (parseMethodDescriptor yX9_init.desc).map (fun d => d.parameters.length) = some 1 := ⟨by decide +kernel, by decide +kernel, by decide +kernel⟩
def fX9_init (La : sg_L) (s0 : sg_M) (o : Int) (o1 : Int) (Q : sg_L → sg_M → Prop) : Prop := ∀ s1 : sg_M, s1 = sg_up s0 o 1 0 → ∀ s3 : sg_M, s3 = sg_up s1 o 2 0 → ∀ s5 : sg_M, s5 = sg_up s3 o 3 0 → ∀ s7 : sg_M, s7 = sg_up s5 o 4 0 → ∀ s9 : sg_M, s9 = sg_up s7 o 5 0 → ∀ s11 : sg_M, s11 = sg_up s9 o 6 0 → ∀ s13 : sg_M, s13 = sg_up s11 o 7 0 → ∀ s15 : sg_M, s15 = sg_up s13 o 0 o1 → sg_sealed La s15 o 29 9 ∧ ∀ La17 : sg_L, La17 = sg_se La o.toNat 9 → Q La17 s15
set_option maxHeartbeats 4000000 in
set_option maxRecDepth 100000 in
theorem CX9_init {l : Launch} {G : sg_G} {La : sg_L} {s0 : sg_M} (hst : sg_St La) {o : Int} (to : sg_O La o 29) {o1 : Int} (t1 : sg_O La o1 8) {Q : sg_L → sg_M → Prop} (hf : fX9_init La s0 o o1 Q) : sg_C l G yX9_init cX9_init 2 (none) 1 0 0 La s0 [sg_r o, sg_r o1] (sg_BV (sg_se La o.toNat 9) Q) := by
  refine sg_body (by decide +kernel) (Nat.le_of_ble_eq_true rfl) ?_
  intro p e s m args below meth c F hnm
  unfold fX9_init at hf
  show sg_W p l e (sg_rm 1 0 0) s m args below meth c (MQ below (sg_Q (none) G La s.heap.size (sg_BV (sg_se La o.toNat 9) Q)) args s 0 0 (sg_A La s.heap.size)) 2 G (sg_A La s.heap.size) La s0 0 0 0 [(0, sg_r o), (1, sg_r o1)] []
  have hin : meth.name = "<init>" := hnm
  refine gw_aload_n F 0 rfl rfl to.1 dX9_init_0 ?_
  refine gw_objInit F to.1 kw_137 kw_OI kw_OC (Nat.le_of_ble_eq_true rfl) (by decide) (by decide) dX9_init_1 ?_
  refine gw_aload_n F 0 rfl rfl to.1 dX9_init_4 ?_
  refine gw_iconst F dX9_init_5 ?_
  obtain ⟨s1, e2⟩ : ∃ z : sg_M, z = sg_up s0 o 1 0 := ⟨_, rfl⟩
  have hf := hf s1 e2
  refine gw_put0 F to (by decide) rfl sg_lay_RX9 (j := 1) (by decide) (by decide) e2 tyX9_ok nmX9 rfl (tyX9_ok 1 (by decide)) rfl (host := "") (.inl kw_139) dX9_init_6 ?_
  refine gw_aload_n F 0 rfl rfl to.1 dX9_init_9 ?_
  refine gw_iconst F dX9_init_10 ?_
  obtain ⟨s3, e4⟩ : ∃ z : sg_M, z = sg_up s1 o 2 0 := ⟨_, rfl⟩
  have hf := hf s3 e4
  refine gw_put0 F to (by decide) rfl sg_lay_RX9 (j := 2) (by decide) (by decide) e4 tyX9_ok nmX9 rfl (tyX9_ok 2 (by decide)) rfl (host := "") (.inl kw_140) dX9_init_11 ?_
  refine gw_aload_n F 0 rfl rfl to.1 dX9_init_14 ?_
  refine gw_iconst F dX9_init_15 ?_
  obtain ⟨s5, e6⟩ : ∃ z : sg_M, z = sg_up s3 o 3 0 := ⟨_, rfl⟩
  have hf := hf s5 e6
  refine gw_put0 F to (by decide) rfl sg_lay_RX9 (j := 3) (by decide) (by decide) e6 tyX9_ok nmX9 rfl (tyX9_ok 3 (by decide)) rfl (host := "") (.inl kw_141) dX9_init_16 ?_
  refine gw_aload_n F 0 rfl rfl to.1 dX9_init_19 ?_
  refine gw_iconst F dX9_init_20 ?_
  obtain ⟨s7, e8⟩ : ∃ z : sg_M, z = sg_up s5 o 4 0 := ⟨_, rfl⟩
  have hf := hf s7 e8
  refine gw_put0 F to (by decide) rfl sg_lay_RX9 (j := 4) (by decide) (by decide) e8 tyX9_ok nmX9 rfl (tyX9_ok 4 (by decide)) rfl (host := "") (.inl kw_142) dX9_init_21 ?_
  refine gw_aload_n F 0 rfl rfl to.1 dX9_init_24 ?_
  refine gw_iconst F dX9_init_25 ?_
  obtain ⟨s9, e10⟩ : ∃ z : sg_M, z = sg_up s7 o 5 0 := ⟨_, rfl⟩
  have hf := hf s9 e10
  refine gw_put0 F to (by decide) rfl sg_lay_RX9 (j := 5) (by decide) (by decide) e10 tyX9_ok nmX9 rfl (tyX9_ok 5 (by decide)) rfl (host := "") (.inl kw_143) dX9_init_26 ?_
  refine gw_aload_n F 0 rfl rfl to.1 dX9_init_29 ?_
  refine gw_iconst F dX9_init_30 ?_
  obtain ⟨s11, e12⟩ : ∃ z : sg_M, z = sg_up s9 o 6 0 := ⟨_, rfl⟩
  have hf := hf s11 e12
  refine gw_put0 F to (by decide) rfl sg_lay_RX9 (j := 6) (by decide) (by decide) e12 tyX9_ok nmX9 rfl (tyX9_ok 6 (by decide)) rfl (host := "") (.inl kw_144) dX9_init_31 ?_
  refine gw_aload_n F 0 rfl rfl to.1 dX9_init_34 ?_
  refine gw_iconst F dX9_init_35 ?_
  obtain ⟨s13, e14⟩ : ∃ z : sg_M, z = sg_up s11 o 7 0 := ⟨_, rfl⟩
  have hf := hf s13 e14
  refine gw_put0 F to (by decide) rfl sg_lay_RX9 (j := 7) (by decide) (by decide) e14 tyX9_ok nmX9 rfl (tyX9_ok 7 (by decide)) rfl (host := "") (.inl kw_148) dX9_init_36 ?_
  refine gw_aload_n F 0 rfl rfl to.1 dX9_init_39 ?_
  refine gw_aload_n F 1 rfl rfl t1.1 dX9_init_40 ?_
  obtain ⟨s15, e16⟩ : ∃ z : sg_M, z = sg_up s13 o 0 o1 := ⟨_, rfl⟩
  have hf := hf s15 e16
  refine gw_put5F F to (by decide) rfl sg_lay_RX9 (j := 0) (by decide) (D0 := tyX9 0) (fun _ => ⟨rfl, rfl⟩) t1.1 t1.2.1 e16 tyX9_ok nmX9 rfl hin rfl (tyX9_ok 0 (by decide)) rfl (host := "") kw_138 dX9_init_41 ?_
  obtain ⟨g18, hf⟩ := hf
  obtain ⟨La17, e19⟩ : ∃ z : sg_L, z = sg_se La o.toNat 9 := ⟨_, rfl⟩
  have hf := hf La17 e19
  refine gw_seal to ⟨by decide, by decide, by decide⟩ (by decide) (by decide) g18.1 g18.2 ?_
  rw [← e19]
  exact gr_BC F (o := o.toNat) (kd := 9) hf (by rw [e19]; exact sg_X.both sg_X.rf) (by decide) (by decide) dX9_init_44

theorem dX6_play_0 : decode cX6_play 0 = .ok (.aload_n 0, 1) := by decide +kernel
theorem dX6_play_1 : decode cX6_play 1 = .ok (.getfield 20, 3) := by decide +kernel
theorem dX6_play_4 : decode cX6_play 4 = .ok (.getfield 47, 3) := by decide +kernel
theorem dX6_play_7 : decode cX6_play 7 = .ok (.iconst 1, 1) := by decide +kernel
theorem dX6_play_8 : decode cX6_play 8 = .ok (.isub, 1) := by decide +kernel
theorem dX6_play_9 : decode cX6_play 9 = .ok (.istore 4, 2) := by decide +kernel
theorem dX6_play_11 : decode cX6_play 11 = .ok (.iload 4, 2) := by decide +kernel
theorem dX6_play_13 : decode cX6_play 13 = .ok (.ifCond .lt 74, 3) := by decide +kernel
theorem dX6_play_16 : decode cX6_play 16 = .ok (.iconst 0, 1) := by decide +kernel
theorem dX6_play_17 : decode cX6_play 17 = .ok (.istore 5, 2) := by decide +kernel
theorem dX6_play_19 : decode cX6_play 19 = .ok (.iload 5, 2) := by decide +kernel
theorem dX6_play_21 : decode cX6_play 21 = .ok (.aload_n 1, 1) := by decide +kernel
theorem dX6_play_22 : decode cX6_play 22 = .ok (.getfield 48, 3) := by decide +kernel
theorem dX6_play_25 : decode cX6_play 25 = .ok (.if_icmp .ge 56, 3) := by decide +kernel
theorem dX6_play_28 : decode cX6_play 28 = .ok (.aload_n 2, 1) := by decide +kernel
theorem dX6_play_29 : decode cX6_play 29 = .ok (.iload 5, 2) := by decide +kernel
theorem dX6_play_31 : decode cX6_play 31 = .ok (.invokevirtual 51, 3) := by decide +kernel
theorem dX6_play_34 : decode cX6_play 34 = .ok (.aload_n 0, 1) := by decide +kernel
theorem dX6_play_35 : decode cX6_play 35 = .ok (.getfield 20, 3) := by decide +kernel
theorem dX6_play_38 : decode cX6_play 38 = .ok (.iload 4, 2) := by decide +kernel
theorem dX6_play_40 : decode cX6_play 40 = .ok (.invokevirtual 51, 3) := by decide +kernel
theorem dX6_play_43 : decode cX6_play 43 = .ok (.iload_n 3, 1) := by decide +kernel
theorem dX6_play_44 : decode cX6_play 44 = .ok (.invokestatic 54, 3) := by decide +kernel
theorem dX6_play_47 : decode cX6_play 47 = .ok (.istore 6, 2) := by decide +kernel
theorem dX6_play_49 : decode cX6_play 49 = .ok (.aload_n 0, 1) := by decide +kernel
theorem dX6_play_50 : decode cX6_play 50 = .ok (.iload 4, 2) := by decide +kernel
theorem dX6_play_52 : decode cX6_play 52 = .ok (.iload 5, 2) := by decide +kernel
theorem dX6_play_54 : decode cX6_play 54 = .ok (.iload 6, 2) := by decide +kernel
theorem dX6_play_56 : decode cX6_play 56 = .ok (.ifCond .eq 15, 3) := by decide +kernel
theorem dX6_play_59 : decode cX6_play 59 = .ok (.aload_n 0, 1) := by decide +kernel
theorem dX6_play_60 : decode cX6_play 60 = .ok (.aload_n 1, 1) := by decide +kernel
theorem dX6_play_61 : decode cX6_play 61 = .ok (.iload 4, 2) := by decide +kernel
theorem dX6_play_63 : decode cX6_play 63 = .ok (.iload 5, 2) := by decide +kernel
theorem dX6_play_65 : decode cX6_play 65 = .ok (.invokevirtual 58, 3) := by decide +kernel
theorem dX6_play_68 : decode cX6_play 68 = .ok (.goto 4, 3) := by decide +kernel
theorem dX6_play_71 : decode cX6_play 71 = .ok (.iconst (-1), 1) := by decide +kernel
theorem dX6_play_72 : decode cX6_play 72 = .ok (.invokevirtual 62, 3) := by decide +kernel
theorem dX6_play_75 : decode cX6_play 75 = .ok (.iinc 5 1, 3) := by decide +kernel
theorem dX6_play_78 : decode cX6_play 78 = .ok (.goto (-59), 3) := by decide +kernel
theorem dX6_play_81 : decode cX6_play 81 = .ok (.iinc 4 (-1), 3) := by decide +kernel
theorem dX6_play_84 : decode cX6_play 84 = .ok (.goto (-73), 3) := by decide +kernel
theorem dX6_play_87 : decode cX6_play 87 = .ok (.aload_n 0, 1) := by decide +kernel
theorem dX6_play_88 : decode cX6_play 88 = .ok (.aload_n 1, 1) := by decide +kernel
theorem dX6_play_89 : decode cX6_play 89 = .ok (.iconst (-1), 1) := by decide +kernel
theorem dX6_play_90 : decode cX6_play 90 = .ok (.iconst (-1), 1) := by decide +kernel
theorem dX6_play_91 : decode cX6_play 91 = .ok (.invokevirtual 66, 3) := by decide +kernel
theorem dX6_play_94 : decode cX6_play 94 = .ok (.istore 4, 2) := by decide +kernel
theorem dX6_play_96 : decode cX6_play 96 = .ok (.iload 4, 2) := by decide +kernel
theorem dX6_play_98 : decode cX6_play 98 = .ok (.iconst (-1), 1) := by decide +kernel
theorem dX6_play_99 : decode cX6_play 99 = .ok (.if_icmp .ne 5, 3) := by decide +kernel
theorem dX6_play_102 : decode cX6_play 102 = .ok (.iconst (-1), 1) := by decide +kernel
theorem dX6_play_103 : decode cX6_play 103 = .ok (.ireturn, 1) := by decide +kernel
theorem dX6_play_104 : decode cX6_play 104 = .ok (.aload_n 0, 1) := by decide +kernel
theorem dX6_play_105 : decode cX6_play 105 = .ok (.getfield 24, 3) := by decide +kernel
theorem dX6_play_108 : decode cX6_play 108 = .ok (.invokevirtual 27, 3) := by decide +kernel
theorem dX6_play_111 : decode cX6_play 111 = .ok (.aload_n 0, 1) := by decide +kernel
theorem dX6_play_112 : decode cX6_play 112 = .ok (.getfield 24, 3) := by decide +kernel
theorem dX6_play_115 : decode cX6_play 115 = .ok (.iload 4, 2) := by decide +kernel
theorem dX6_play_117 : decode cX6_play 117 = .ok (.invokevirtual 44, 3) := by decide +kernel
theorem dX6_play_120 : decode cX6_play 120 = .ok (.iconst 0, 1) := by decide +kernel
theorem dX6_play_121 : decode cX6_play 121 = .ok (.istore 5, 2) := by decide +kernel
theorem dX6_play_123 : decode cX6_play 123 = .ok (.iload 5, 2) := by decide +kernel
theorem dX6_play_125 : decode cX6_play 125 = .ok (.aload_n 0, 1) := by decide +kernel
theorem dX6_play_126 : decode cX6_play 126 = .ok (.getfield 20, 3) := by decide +kernel
theorem dX6_play_129 : decode cX6_play 129 = .ok (.getfield 47, 3) := by decide +kernel
theorem dX6_play_132 : decode cX6_play 132 = .ok (.iconst 1, 1) := by decide +kernel
theorem dX6_play_133 : decode cX6_play 133 = .ok (.isub, 1) := by decide +kernel
theorem dX6_play_134 : decode cX6_play 134 = .ok (.if_icmp .ge 32, 3) := by decide +kernel
theorem dX6_play_137 : decode cX6_play 137 = .ok (.aload_n 0, 1) := by decide +kernel
theorem dX6_play_138 : decode cX6_play 138 = .ok (.getfield 24, 3) := by decide +kernel
theorem dX6_play_141 : decode cX6_play 141 = .ok (.aload_n 0, 1) := by decide +kernel
theorem dX6_play_142 : decode cX6_play 142 = .ok (.aload_n 1, 1) := by decide +kernel
theorem dX6_play_143 : decode cX6_play 143 = .ok (.iload 5, 2) := by decide +kernel
theorem dX6_play_145 : decode cX6_play 145 = .ok (.aload_n 0, 1) := by decide +kernel
theorem dX6_play_146 : decode cX6_play 146 = .ok (.getfield 24, 3) := by decide +kernel
theorem dX6_play_149 : decode cX6_play 149 = .ok (.iload 5, 2) := by decide +kernel
theorem dX6_play_151 : decode cX6_play 151 = .ok (.invokevirtual 51, 3) := by decide +kernel
theorem dX6_play_154 : decode cX6_play 154 = .ok (.invokevirtual 66, 3) := by decide +kernel
theorem dX6_play_157 : decode cX6_play 157 = .ok (.invokevirtual 44, 3) := by decide +kernel
theorem dX6_play_160 : decode cX6_play 160 = .ok (.iinc 5 1, 3) := by decide +kernel
theorem dX6_play_163 : decode cX6_play 163 = .ok (.goto (-40), 3) := by decide +kernel
theorem dX6_play_166 : decode cX6_play 166 = .ok (.aload_n 0, 1) := by decide +kernel
theorem dX6_play_167 : decode cX6_play 167 = .ok (.iconst 0, 1) := by decide +kernel
theorem dX6_play_168 : decode cX6_play 168 = .ok (.iload 4, 2) := by decide +kernel
theorem dX6_play_170 : decode cX6_play 170 = .ok (.invokevirtual 69, 3) := by decide +kernel
theorem dX6_play_173 : decode cX6_play 173 = .ok (.ireturn, 1) := by decide +kernel
theorem hcX6_play : yX6_play.cls ≠ "java/lang/invoke/MethodHandle" ∧ yX6_play.cls ≠ "java/lang/invoke/VarHandle" ∧ (parseMethodDescriptor yX6_play.desc).map (fun d => d.parameters.length) = some 3 := ⟨by decide +kernel, by decide +kernel, by decide +kernel⟩
def fX6_play_j72 (x4_11 : Int) (s_19 : sg_M) (x5_19 : Int) (k19 : sg_M → Int → Prop) (y0_72 : Int) : Prop := fX6_setCost s_19 x4_11 x5_19 y0_72 (fun s13 => sg_R (x5_19 + 1) ∧ k19 s13 (x5_19 + 1))
def fX6_play_L19 (La : sg_L) (o1 : Int) (o2 : Int) (x3 : Int) (x4_11 : Int) (k81 : sg_M → Prop) : Nat → sg_M → Int → Prop
  | 0, _, _ => False
  | n_19 + 1, s_19, x5_19 => (((s_19 o1 2) ≤ x5_19 → k81 s_19) ∧ (¬ ((s_19 o1 2) ≤ x5_19) → fX4_at La s_19 o2 x5_19 (fun u6 => fX4_at La s_19 48 x4_11 (fun u9 => fX11_isNear u6 u9 x3 (fun u11 => ((u11 = 0 → (fX6_play_j72 x4_11 s_19 x5_19 (fX6_play_L19 La o1 o2 x3 x4_11 k81 n_19)) (-1)) ∧ (¬ (u11 = 0) → fX6_costFrom La s_19 o1 x4_11 x5_19 (fun u16 => (fX6_play_j72 x4_11 s_19 x5_19 (fX6_play_L19 La o1 o2 x3 x4_11 k81 n_19)) u16))))))))
def fX6_play_L11 (La : sg_L) (o1 : Int) (o2 : Int) (x3 : Int) (k87 : sg_M → Prop) : Nat → sg_M → Int → Prop
  | 0, _, _ => False
  | n_11 + 1, s_11, x4_11 => ((x4_11 < 0 → k87 s_11) ∧ (¬ (x4_11 < 0) → (∃ n18 : Nat, fX6_play_L19 La o1 o2 x3 x4_11 (fun s_81e19 => sg_R (x4_11 - 1) ∧ (fX6_play_L11 La o1 o2 x3 k87 n_11) s_81e19 (x4_11 - 1)) n18 s_11 0)))
def fX6_play_L123 (La : sg_L) (o1 : Int) (u22 : Int) (Q : Int → sg_M → Prop) : Nat → sg_M → Int → Prop
  | 0, _, _ => False
  | n_123 + 1, s_123, x5_123 => sg_R ((s_123 48 1) - 1) ∧ ((((s_123 48 1) - 1) ≤ x5_123 → fX6_costAt s_123 0 u22 (fun u33 => Q u33 s_123)) ∧ (¬ (((s_123 48 1) - 1) ≤ x5_123) → fX4_at La s_123 50 x5_123 (fun u37 => fX6_cheapestNext La s_123 o1 x5_123 u37 (fun u39 => fX4_add La s_123 50 u39 (fun s41 => sg_R (x5_123 + 1) ∧ (fX6_play_L123 La o1 u22 Q n_123) s41 (x5_123 + 1))))))
def fX6_play (La : sg_L) (s0 : sg_M) (o1 : Int) (o2 : Int) (x3 : Int) (Q : Int → sg_M → Prop) : Prop := sg_R ((s0 48 1) - 1) ∧ (∃ n21 : Nat, fX6_play_L11 La o1 o2 x3 (fun s_87e11 => fX6_cheapestNext La s_87e11 o1 (-1) (-1) (fun u22 => ((u22 ≠ (-1) → fX4_clear s_87e11 50 (fun s26 => fX4_add La s26 50 u22 (fun s28 => (∃ n43 : Nat, fX6_play_L123 La o1 u22 Q n43 s28 0)))) ∧ (u22 = (-1) → Q (-1) s_87e11)))) n21 s0 ((s0 48 1) - 1))
set_option maxHeartbeats 4000000 in
set_option maxRecDepth 100000 in
theorem CX6_play {l : Launch} {G : sg_G} {La : sg_L} {s0 : sg_M} (hst : sg_St La) {o1 : Int} (t1 : sg_O La o1 2) {o2 : Int} (t2 : sg_O La o2 4) {x3 : Int} (r3 : sg_R x3) {Q : Int → sg_M → Prop} (hf : fX6_play La s0 o1 o2 x3 Q) : sg_C l G yX6_play cX6_play 7 (some .int) 5 0 0 La s0 [sg_r 46, sg_r o1, sg_r o2, sg_i x3] (sg_HI La Q) := by
  refine sg_body (by decide +kernel) (Nat.le_of_ble_eq_true rfl) ?_
  intro p e s m args below meth c F hnm
  unfold fX6_play at hf
  show sg_W p l e (sg_rm 5 0 0) s m args below meth c (MQ below (sg_Q (some .int) G La s.heap.size (sg_HI La Q)) args s 0 0 (sg_A La s.heap.size)) 7 G (sg_A La s.heap.size) La s0 0 0 0 [(0, sg_r 46), (1, sg_r o1), (2, sg_r o2), (3, sg_i x3)] []
  refine gw_aload_n F 0 rfl rfl (by decide) dX6_play_0 ?_
  refine gw_get3 F (so_46 hst) (by decide) rfl sg_lay_RX6 (j := 1) (by decide) (o1 := 48) (by first | rfl | omega) rfl (host := "") (.inl kw_313) dX6_play_1 (fun h1 => ?_)
  refine gw_get0 F (so_48 hst) (by decide) rfl sg_lay_RX4 (j := 1) (by decide) rfl (.inr kw_201) dX6_play_4 (fun h2 => ?_)
  refine gw_iconst F dX6_play_7 ?_
  refine gw_isub F rfl dX6_play_8 ?_
  refine gw_istore F (by decide) rfl dX6_play_9 ?_
  have L11 : ∀ (k87 : sg_M → Prop) (hk87 : ∀ (s_87e11 : sg_M), k87 s_87e11 → sg_W p l e (sg_rm 5 0 0) s m args below meth c (MQ below (sg_Q (some .int) G La s.heap.size (sg_HI La Q)) args s 0 0 (sg_A La s.heap.size)) 7 G (sg_A La s.heap.size) La s_87e11 0 0 87 [(0, sg_r 46), (1, sg_r o1)] []), ∀ n_11 : Nat, ∀ (s_11 : sg_M) (x4_11 : Int), sg_R x4_11 → fX6_play_L11 La o1 o2 x3 k87 n_11 s_11 x4_11 → sg_W p l e (sg_rm 5 0 0) s m args below meth c (MQ below (sg_Q (some .int) G La s.heap.size (sg_HI La Q)) args s 0 0 (sg_A La s.heap.size)) 7 G (sg_A La s.heap.size) La s_11 0 0 11 [(0, sg_r 46), (1, sg_r o1), (2, sg_r o2), (3, sg_i x3), (4, sg_i x4_11)] [] := by
    intro k87 hk87 n_11
    induction n_11 with
    | zero => intro s_11 x4_11 r4_11 hf; exact hf.elim
    | succ n_11 ih =>
      intro s_11 x4_11 r4_11 hf
      unfold fX6_play_L11 at hf
      refine gw_iload F 4 rfl dX6_play_11 ?_
      refine gw_if_lt F (tgt := 87) dX6_play_13 (by decide) r4_11 (fun c3 => ?_) (fun c3 => ?_)
      · have hf := hf.1 c3
        refine gw_sub [0, 1] rfl ?_
        exact hk87 s_11 hf
      · have hf := hf.2 c3
        refine gw_iconst F dX6_play_16 ?_
        refine gw_istore F (by decide) rfl dX6_play_17 ?_
        have L19 : ∀ (k81 : sg_M → Prop) (hk81 : ∀ (s_81e19 : sg_M), k81 s_81e19 → sg_W p l e (sg_rm 5 0 0) s m args below meth c (MQ below (sg_Q (some .int) G La s.heap.size (sg_HI La Q)) args s 0 0 (sg_A La s.heap.size)) 7 G (sg_A La s.heap.size) La s_81e19 0 0 81 [(0, sg_r 46), (1, sg_r o1), (2, sg_r o2), (3, sg_i x3), (4, sg_i x4_11)] []), ∀ n_19 : Nat, ∀ (s_19 : sg_M) (x5_19 : Int), sg_R x5_19 → fX6_play_L19 La o1 o2 x3 x4_11 k81 n_19 s_19 x5_19 → sg_W p l e (sg_rm 5 0 0) s m args below meth c (MQ below (sg_Q (some .int) G La s.heap.size (sg_HI La Q)) args s 0 0 (sg_A La s.heap.size)) 7 G (sg_A La s.heap.size) La s_19 0 0 19 [(0, sg_r 46), (1, sg_r o1), (2, sg_r o2), (3, sg_i x3), (4, sg_i x4_11), (5, sg_i x5_19)] [] := by
          intro k81 hk81 n_19
          induction n_19 with
          | zero => intro s_19 x5_19 r5_19 hf; exact hf.elim
          | succ n_19 ih =>
            intro s_19 x5_19 r5_19 hf
            unfold fX6_play_L19 at hf
            refine gw_iload F 5 rfl dX6_play_19 ?_
            refine gw_aload_n F 1 rfl rfl t1.1 dX6_play_21 ?_
            refine gw_get0 F t1 (by decide) rfl sg_lay_RX2 (j := 2) (by decide) rfl (.inr kw_229) dX6_play_22 (fun h4 => ?_)
            refine gw_icmp_ge F (tgt := 81) dX6_play_25 (by decide) r5_19 h4 (fun c5 => ?_) (fun c5 => ?_)
            · have hf := hf.1 c5
              refine gw_sub [0, 1, 2, 3, 4] rfl ?_
              exact hk81 s_19 hf
            · have hf := hf.2 c5
              refine gw_aload_n F 2 rfl rfl t2.1 dX6_play_28 ?_
              refine gw_iload F 5 rfl dX6_play_29 ?_
              refine gk_PI F (gc_V F (S := []) (As := [sg_i x5_19]) (T := TX4) (N := 3) (CX4_at t2 r5_19 hf) t2 (by decide) rfl kw_546 kw_97 kw_693 kw_544 kw_545 hcX4_at ⟨by decide, by decide⟩ rfl rfl (Nat.le_of_ble_eq_true rfl) ⟨by decide, by decide⟩ dX6_play_31) (fun u6 h7 hf => ?_)
              refine gw_aload_n F 0 rfl rfl (by decide) dX6_play_34 ?_
              refine gw_get3 F (so_46 hst) (by decide) rfl sg_lay_RX6 (j := 1) (by decide) (o1 := 48) (by first | rfl | omega) rfl (host := "") (.inl kw_313) dX6_play_35 (fun h8 => ?_)
              refine gw_iload F 4 rfl dX6_play_38 ?_
              refine gk_PI F (gc_V F (S := [sg_i u6]) (As := [sg_i x4_11]) (T := TX4) (N := 3) (CX4_at (so_48 hst) r4_11 hf) (so_48 hst) (by decide) rfl kw_546 kw_97 kw_693 kw_544 kw_545 hcX4_at ⟨by decide, by decide⟩ rfl rfl (Nat.le_of_ble_eq_true rfl) ⟨by decide, by decide⟩ dX6_play_40) (fun u9 h10 hf => ?_)
              refine gw_iload_n F 3 rfl rfl dX6_play_43 ?_
              refine gk_PZ F (gc_SN F (S := []) (As := [sg_i u6, sg_i u9, sg_i x3]) (CX11_isNear h7 h10 r3 hf) kw_696 kw_90 kw_694 kw_695 hcX11_isNear ⟨by decide, by decide⟩ rfl rfl (Nat.le_of_ble_eq_true rfl) ⟨by decide, by decide⟩ dX6_play_44) (fun u11 h12 hf => ?_)
              refine gw_istore F (by decide) rfl dX6_play_47 ?_
              refine gw_aload_n F 1 rfl rfl (by decide) dX6_play_49 ?_
              refine gw_iload F 5 rfl dX6_play_50 ?_
              refine gw_iload F 6 rfl dX6_play_52 ?_
              refine gw_iload F 0 rfl dX6_play_54 ?_
              have J72 : ∀ (y0_72 : Int), sg_R y0_72 → (fX6_play_j72 x4_11 s_19 x5_19 (fX6_play_L19 La o1 o2 x3 x4_11 k81 n_19)) y0_72 → sg_W p l e (sg_rm 5 0 0) s m args below meth c (MQ below (sg_Q (some .int) G La s.heap.size (sg_HI La Q)) args s 0 0 (sg_A La s.heap.size)) 7 G (sg_A La s.heap.size) La s_19 0 0 72 [(0, sg_r 46), (1, sg_r o1), (2, sg_r o2), (3, sg_i x3), (4, sg_i x4_11), (5, sg_i x5_19)] [sg_i y0_72, sg_i x5_19, sg_i x4_11, sg_r 46] := by
                intro y0_72 ry0_72 hf
                unfold fX6_play_j72 at hf
                refine gk_HV F (gc_V F (S := []) (As := [sg_i x4_11, sg_i x5_19, sg_i y0_72]) (T := TX6) (N := 3) (CX6_setCost hst r4_11 r5_19 ry0_72 hf) (so_46 hst) (by decide) rfl kw_715 kw_102 kw_713 kw_714 kw_25 hcX6_setCost ⟨by decide, by decide⟩ rfl rfl (Nat.le_of_ble_eq_true rfl) ⟨by decide, by decide⟩ dX6_play_72) (fun s13 hf => ?_)
                refine gw_iinc F (z := (x5_19 + 1)) 5 rfl (by omega) (by decide) rfl dX6_play_75 ?_
                refine gw_goto F (tgt := 19) dX6_play_78 (by decide) ?_
                obtain ⟨g14, hf⟩ := hf
                refine gw_sub [1, 2, 3, 4, 5, 0] rfl ?_
                exact ih s13 (x5_19 + 1) g14 hf
              refine gw_if_eq F (tgt := 71) dX6_play_56 (by decide) (sg_B_R h12) (fun c15 => ?_) (fun c15 => ?_)
              · have hf := hf.1 c15
                refine gw_iconst F dX6_play_71 ?_
                refine gw_sub [1, 2, 3, 4, 5, 6] rfl ?_
                exact J72 (-1) (by decide) hf
              · have hf := hf.2 c15
                refine gw_aload_n F 1 rfl rfl (by decide) dX6_play_59 ?_
                refine gw_aload_n F 2 rfl rfl t1.1 dX6_play_60 ?_
                refine gw_iload F 5 rfl dX6_play_61 ?_
                refine gw_iload F 6 rfl dX6_play_63 ?_
                refine gk_PI F (gc_V F (S := [sg_i x5_19, sg_i x4_11, sg_r 46]) (As := [sg_r o1, sg_i x4_11, sg_i x5_19]) (T := TX6) (N := 3) (CX6_costFrom hst t1 r4_11 r5_19 hf) (so_46 hst) (by decide) rfl kw_700 kw_102 kw_698 kw_699 kw_22 hcX6_costFrom ⟨by decide, by decide⟩ rfl rfl (Nat.le_of_ble_eq_true rfl) ⟨by decide, by decide⟩ dX6_play_65) (fun u16 h17 hf => ?_)
                refine gw_goto F (tgt := 72) dX6_play_68 (by decide) ?_
                refine gw_sub [1, 2, 3, 4, 5, 6] rfl ?_
                exact J72 u16 h17 hf
        obtain ⟨n18, hf⟩ := hf
        refine gw_sub [1, 2, 3, 4, 5, 0] rfl ?_
        refine L19 _ (fun s_81e19 hf => ?_) n18 s_11 0 (by decide) hf
        refine gw_iinc F (z := (x4_11 - 1)) 4 rfl (by omega) (by decide) rfl dX6_play_81 ?_
        refine gw_goto F (tgt := 11) dX6_play_84 (by decide) ?_
        obtain ⟨g19, hf⟩ := hf
        refine gw_sub [1, 2, 3, 4, 0] rfl ?_
        exact ih s_81e19 (x4_11 - 1) g19 hf
  obtain ⟨g20, hf⟩ := hf
  obtain ⟨n21, hf⟩ := hf
  refine gw_sub [1, 2, 3, 4, 0] rfl ?_
  refine L11 _ (fun s_87e11 hf => ?_) n21 s0 ((s0 48 1) - 1) g20 hf
  refine gw_aload_n F 0 rfl rfl (by decide) dX6_play_87 ?_
  refine gw_aload_n F 1 rfl rfl t1.1 dX6_play_88 ?_
  refine gw_iconst F dX6_play_89 ?_
  refine gw_iconst F dX6_play_90 ?_
  refine gk_PI F (gc_V F (S := []) (As := [sg_r o1, sg_i (-1), sg_i (-1)]) (T := TX6) (N := 3) (CX6_cheapestNext hst t1 (by decide) (by decide) hf) (so_46 hst) (by decide) rfl kw_703 kw_102 kw_701 kw_702 kw_23 hcX6_cheapestNext ⟨by decide, by decide⟩ rfl rfl (Nat.le_of_ble_eq_true rfl) ⟨by decide, by decide⟩ dX6_play_91) (fun u22 h23 hf => ?_)
  refine gw_istore F (by decide) rfl dX6_play_94 ?_
  refine gw_iload F 0 rfl dX6_play_96 ?_
  refine gw_iconst F dX6_play_98 ?_
  refine gw_icmp_ne F (tgt := 104) dX6_play_99 (by decide) h23 (by decide) (fun c24 => ?_) (fun c24 => ?_)
  · have hf := hf.1 c24
    refine gw_aload_n F 1 rfl rfl (by decide) dX6_play_104 ?_
    refine gw_get3 F (so_46 hst) (by decide) rfl sg_lay_RX6 (j := 2) (by decide) (o1 := 50) (by first | rfl | omega) rfl (host := "") (.inl kw_314) dX6_play_105 (fun h25 => ?_)
    refine gk_HV F (gc_V F (S := []) (As := []) (T := TX4) (N := 3) (CX4_clear (so_50 hst) hf) (so_50 hst) (by decide) rfl kw_531 kw_97 kw_676 kw_529 kw_530 hcX4_clear ⟨by decide, by decide⟩ rfl rfl (Nat.le_of_ble_eq_true rfl) ⟨by decide, by decide⟩ dX6_play_108) (fun s26 hf => ?_)
    refine gw_aload_n F 1 rfl rfl (by decide) dX6_play_111 ?_
    refine gw_get3 F (so_46 hst) (by decide) rfl sg_lay_RX6 (j := 2) (by decide) (o1 := 50) (by first | rfl | omega) rfl (host := "") (.inl kw_314) dX6_play_112 (fun h27 => ?_)
    refine gw_iload F 0 rfl dX6_play_115 ?_
    refine gk_HV F (gc_V F (S := []) (As := [sg_i u22]) (T := TX4) (N := 3) (CX4_add (so_50 hst) h23 hf) (so_50 hst) (by decide) rfl kw_538 kw_97 kw_685 kw_536 kw_537 hcX4_add ⟨by decide, by decide⟩ rfl rfl (Nat.le_of_ble_eq_true rfl) ⟨by decide, by decide⟩ dX6_play_117) (fun s28 hf => ?_)
    refine gw_iconst F dX6_play_120 ?_
    refine gw_istore F (by decide) rfl dX6_play_121 ?_
    have L123 : ∀ n_123 : Nat, ∀ (s_123 : sg_M) (x5_123 : Int), sg_R x5_123 → fX6_play_L123 La o1 u22 Q n_123 s_123 x5_123 → sg_W p l e (sg_rm 5 0 0) s m args below meth c (MQ below (sg_Q (some .int) G La s.heap.size (sg_HI La Q)) args s 0 0 (sg_A La s.heap.size)) 7 G (sg_A La s.heap.size) La s_123 0 0 123 [(0, sg_r 46), (1, sg_r o1), (4, sg_i u22), (5, sg_i x5_123)] [] := by
      intro n_123
      induction n_123 with
      | zero => intro s_123 x5_123 r5_123 hf; exact hf.elim
      | succ n_123 ih =>
        intro s_123 x5_123 r5_123 hf
        unfold fX6_play_L123 at hf
        refine gw_iload F 3 rfl dX6_play_123 ?_
        refine gw_aload_n F 0 rfl rfl (by decide) dX6_play_125 ?_
        refine gw_get3 F (so_46 hst) (by decide) rfl sg_lay_RX6 (j := 1) (by decide) (o1 := 48) (by first | rfl | omega) rfl (host := "") (.inl kw_313) dX6_play_126 (fun h29 => ?_)
        refine gw_get0 F (so_48 hst) (by decide) rfl sg_lay_RX4 (j := 1) (by decide) rfl (.inr kw_201) dX6_play_129 (fun h30 => ?_)
        refine gw_iconst F dX6_play_132 ?_
        refine gw_isub F rfl dX6_play_133 ?_
        obtain ⟨g31, hf⟩ := hf
        refine gw_icmp_ge F (tgt := 166) dX6_play_134 (by decide) r5_123 g31 (fun c32 => ?_) (fun c32 => ?_)
        · have hf := hf.1 c32
          refine gw_aload_n F 0 rfl rfl (by decide) dX6_play_166 ?_
          refine gw_iconst F dX6_play_167 ?_
          refine gw_iload F 2 rfl dX6_play_168 ?_
          refine gk_PI F (gc_V F (S := []) (As := [sg_i 0, sg_i u22]) (T := TX6) (N := 3) (CX6_costAt hst (by decide) h23 hf) (so_46 hst) (by decide) rfl kw_706 kw_102 kw_704 kw_705 kw_24 hcX6_costAt ⟨by decide, by decide⟩ rfl rfl (Nat.le_of_ble_eq_true rfl) ⟨by decide, by decide⟩ dX6_play_170) (fun u33 h34 hf => ?_)
          exact gr_HI F h34 hf (by decide) (by decide) dX6_play_173
        · have hf := hf.2 c32
          refine gw_aload_n F 0 rfl rfl (by decide) dX6_play_137 ?_
          refine gw_get3 F (so_46 hst) (by decide) rfl sg_lay_RX6 (j := 2) (by decide) (o1 := 50) (by first | rfl | omega) rfl (host := "") (.inl kw_314) dX6_play_138 (fun h35 => ?_)
          refine gw_aload_n F 0 rfl rfl (by decide) dX6_play_141 ?_
          refine gw_aload_n F 1 rfl rfl t1.1 dX6_play_142 ?_
          refine gw_iload F 3 rfl dX6_play_143 ?_
          refine gw_aload_n F 0 rfl rfl (by decide) dX6_play_145 ?_
          refine gw_get3 F (so_46 hst) (by decide) rfl sg_lay_RX6 (j := 2) (by decide) (o1 := 50) (by first | rfl | omega) rfl (host := "") (.inl kw_314) dX6_play_146 (fun h36 => ?_)
          refine gw_iload F 3 rfl dX6_play_149 ?_
          refine gk_PI F (gc_V F (S := [sg_i x5_123, sg_r o1, sg_r 46, sg_r 50]) (As := [sg_i x5_123]) (T := TX4) (N := 3) (CX4_at (so_50 hst) r5_123 hf) (so_50 hst) (by decide) rfl kw_546 kw_97 kw_693 kw_544 kw_545 hcX4_at ⟨by decide, by decide⟩ rfl rfl (Nat.le_of_ble_eq_true rfl) ⟨by decide, by decide⟩ dX6_play_151) (fun u37 h38 hf => ?_)
          refine gk_PI F (gc_V F (S := [sg_r 50]) (As := [sg_r o1, sg_i x5_123, sg_i u37]) (T := TX6) (N := 3) (CX6_cheapestNext hst t1 r5_123 h38 hf) (so_46 hst) (by decide) rfl kw_703 kw_102 kw_701 kw_702 kw_23 hcX6_cheapestNext ⟨by decide, by decide⟩ rfl rfl (Nat.le_of_ble_eq_true rfl) ⟨by decide, by decide⟩ dX6_play_154) (fun u39 h40 hf => ?_)
          refine gk_HV F (gc_V F (S := []) (As := [sg_i u39]) (T := TX4) (N := 3) (CX4_add (so_50 hst) h40 hf) (so_50 hst) (by decide) rfl kw_538 kw_97 kw_685 kw_536 kw_537 hcX4_add ⟨by decide, by decide⟩ rfl rfl (Nat.le_of_ble_eq_true rfl) ⟨by decide, by decide⟩ dX6_play_157) (fun s41 hf => ?_)
          refine gw_iinc F (z := (x5_123 + 1)) 3 rfl (by omega) (by decide) rfl dX6_play_160 ?_
          refine gw_goto F (tgt := 123) dX6_play_163 (by decide) ?_
          obtain ⟨g42, hf⟩ := hf
          refine gw_sub [1, 2, 3, 0] rfl ?_
          exact ih s41 (x5_123 + 1) g42 hf
    obtain ⟨n43, hf⟩ := hf
    refine gw_sub [2, 3, 1, 0] rfl ?_
    refine L123   n43 s28 0 (by decide) hf
  · have hf := hf.2 c24
    refine gw_iconst F dX6_play_102 ?_
    exact gr_HI F (by decide) hf (by decide) (by decide) dX6_play_103
