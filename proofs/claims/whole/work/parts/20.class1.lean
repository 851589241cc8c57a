theorem dX11_forgetAnswers_0 : decode cX11_forgetAnswers 0 = .ok (.aload_n 0, 1) := by decide +kernel
theorem dX11_forgetAnswers_1 : decode cX11_forgetAnswers 1 = .ok (.getfield 93, 3) := by decide +kernel
theorem dX11_forgetAnswers_4 : decode cX11_forgetAnswers 4 = .ok (.iconst 0, 1) := by decide +kernel
theorem dX11_forgetAnswers_5 : decode cX11_forgetAnswers 5 = .ok (.putfield 346, 3) := by decide +kernel
theorem dX11_forgetAnswers_8 : decode cX11_forgetAnswers 8 = .ok (.aload_n 0, 1) := by decide +kernel
theorem dX11_forgetAnswers_9 : decode cX11_forgetAnswers 9 = .ok (.getfield 99, 3) := by decide +kernel
theorem dX11_forgetAnswers_12 : decode cX11_forgetAnswers 12 = .ok (.iconst 0, 1) := by decide +kernel
theorem dX11_forgetAnswers_13 : decode cX11_forgetAnswers 13 = .ok (.putfield 346, 3) := by decide +kernel
theorem dX11_forgetAnswers_16 : decode cX11_forgetAnswers 16 = .ok (.return_, 1) := by decide +kernel
theorem hcX11_forgetAnswers : yX11_forgetAnswers.cls ≠ "java/lang/invoke/MethodHandle" ∧ yX11_forgetAnswers.cls ≠ "java/lang/invoke/VarHandle" ∧ (parseMethodDescriptor yX11_forgetAnswers.desc).map (fun d => d.parameters.length) = some 0 := ⟨by decide +kernel, by decide +kernel, by decide +kernel⟩
def fX11_forgetAnswers (s0 : sg_M) (Q : sg_M → Prop) : Prop := ∀ s2 : sg_M, s2 = sg_up s0 58 2 0 → ∀ s5 : sg_M, s5 = sg_up s2 62 2 0 → Q s5
set_option maxHeartbeats 4000000 in
set_option maxRecDepth 100000 in
theorem CX11_forgetAnswers {l : Launch} {G : sg_G} {La : sg_L} {s0 : sg_M} (hst : sg_St La) {Q : sg_M → Prop} (hf : fX11_forgetAnswers s0 Q) : sg_C l G yX11_forgetAnswers cX11_forgetAnswers 1 (none) 1 0 0 La s0 [sg_r 0] (sg_HV La Q) := by
  refine sg_body (by decide +kernel) (Nat.le_of_ble_eq_true rfl) ?_
  intro p e s m args below meth c F hnm
  unfold fX11_forgetAnswers at hf
  show sg_W p l e (sg_rm 1 0 0) s m args below meth c (MQ below (sg_Q (none) G La s.heap.size (sg_HV La Q)) args s 0 0 (sg_A La s.heap.size)) 1 G (sg_A La s.heap.size) La s0 0 0 0 [(0, sg_r 0)] []
  refine gw_aload_n F 0 rfl rfl (by decide) dX11_forgetAnswers_0 ?_
  refine gw_get7 F (so_0 hst) (by decide) rfl sg_lay_RX11 (j := 13) (by decide) (o1 := 58) (by first | rfl | omega) rfl (host := "") (.inl kw_339) dX11_forgetAnswers_1 (fun h1 => ?_)
  refine gw_iconst F dX11_forgetAnswers_4 ?_
  obtain ⟨s2, e3⟩ : ∃ z : sg_M, z = sg_up s0 58 2 0 := ⟨_, rfl⟩
  have hf := hf s2 e3
  refine gw_put1 F (so_58 hst) (by decide) rfl sg_lay_RX4 (j := 2) (by decide) (by decide) e3 tyX4_ok nmX4 rfl (tyX4_ok 2 (by decide)) rfl (.inr kw_206) dX11_forgetAnswers_5 ?_
  refine gw_aload_n F 0 rfl rfl (by decide) dX11_forgetAnswers_8 ?_
  refine gw_get7 F (so_0 hst) (by decide) rfl sg_lay_RX11 (j := 15) (by decide) (o1 := 62) (by first | rfl | omega) rfl (host := "") (.inl kw_341) dX11_forgetAnswers_9 (fun h4 => ?_)
  refine gw_iconst F dX11_forgetAnswers_12 ?_
  obtain ⟨s5, e6⟩ : ∃ z : sg_M, z = sg_up s2 62 2 0 := ⟨_, rfl⟩
  have hf := hf s5 e6
  refine gw_put1 F (so_62 hst) (by decide) rfl sg_lay_RX4 (j := 2) (by decide) (by decide) e6 tyX4_ok nmX4 rfl (tyX4_ok 2 (by decide)) rfl (.inr kw_206) dX11_forgetAnswers_13 ?_
  exact gr_HV F hf (by decide) (by decide) dX11_forgetAnswers_16

theorem dX11_closeText_0 : decode cX11_closeText 0 = .ok (.aload_n 0, 1) := by decide +kernel
theorem dX11_closeText_1 : decode cX11_closeText 1 = .ok (.getfield 10, 3) := by decide +kernel
theorem dX11_closeText_4 : decode cX11_closeText 4 = .ok (.iconst 0, 1) := by decide +kernel
theorem dX11_closeText_5 : decode cX11_closeText 5 = .ok (.putfield 122, 3) := by decide +kernel
theorem dX11_closeText_8 : decode cX11_closeText 8 = .ok (.aload_n 0, 1) := by decide +kernel
theorem dX11_closeText_9 : decode cX11_closeText 9 = .ok (.aload_n 0, 1) := by decide +kernel
theorem dX11_closeText_10 : decode cX11_closeText 10 = .ok (.getfield 21, 3) := by decide +kernel
theorem dX11_closeText_13 : decode cX11_closeText 13 = .ok (.getfield 135, 3) := by decide +kernel
theorem dX11_closeText_16 : decode cX11_closeText 16 = .ok (.putfield 102, 3) := by decide +kernel
theorem dX11_closeText_19 : decode cX11_closeText 19 = .ok (.aload_n 0, 1) := by decide +kernel
theorem dX11_closeText_20 : decode cX11_closeText 20 = .ok (.getfield 102, 3) := by decide +kernel
theorem dX11_closeText_23 : decode cX11_closeText 23 = .ok (.ifCond .eq 13, 3) := by decide +kernel
theorem dX11_closeText_26 : decode cX11_closeText 26 = .ok (.iconst (-1), 1) := by decide +kernel
theorem dX11_closeText_27 : decode cX11_closeText 27 = .ok (.aload_n 0, 1) := by decide +kernel
theorem dX11_closeText_28 : decode cX11_closeText 28 = .ok (.getfield 21, 3) := by decide +kernel
theorem dX11_closeText_31 : decode cX11_closeText 31 = .ok (.getfield 343, 3) := by decide +kernel
theorem dX11_closeText_34 : decode cX11_closeText 34 = .ok (.isub, 1) := by decide +kernel
theorem dX11_closeText_35 : decode cX11_closeText 35 = .ok (.ireturn, 1) := by decide +kernel
theorem dX11_closeText_36 : decode cX11_closeText 36 = .ok (.aload_n 0, 1) := by decide +kernel
theorem dX11_closeText_37 : decode cX11_closeText 37 = .ok (.invokevirtual 248, 3) := by decide +kernel
theorem dX11_closeText_40 : decode cX11_closeText 40 = .ok (.iload_n 1, 1) := by decide +kernel
theorem dX11_closeText_41 : decode cX11_closeText 41 = .ok (.ireturn, 1) := by decide +kernel
theorem hcX11_closeText : yX11_closeText.cls ≠ "java/lang/invoke/MethodHandle" ∧ yX11_closeText.cls ≠ "java/lang/invoke/VarHandle" ∧ (parseMethodDescriptor yX11_closeText.desc).map (fun d => d.parameters.length) = some 1 := ⟨by decide +kernel, by decide +kernel, by decide +kernel⟩
def fX11_closeText (s0 : sg_M) (x1 : Int) (Q : Int → sg_M → Prop) : Prop := ∀ s2 : sg_M, s2 = sg_up s0 1 1 0 → ∀ s6 : sg_M, s6 = sg_up s2 0 16 (s2 3 6) → (((s6 0 16) = 0 → fX11_forgetAnswers s6 (fun s10 => Q x1 s10)) ∧ (¬ ((s6 0 16) = 0) → sg_R ((-1) - (s6 3 7)) ∧ Q ((-1) - (s6 3 7)) s6))
set_option maxHeartbeats 4000000 in
set_option maxRecDepth 100000 in
theorem CX11_closeText {l : Launch} {G : sg_G} {La : sg_L} {s0 : sg_M} (hst : sg_St La) {x1 : Int} (r1 : sg_R x1) {Q : Int → sg_M → Prop} (hf : fX11_closeText s0 x1 Q) : sg_C l G yX11_closeText cX11_closeText 2 (some .int) 2 0 0 La s0 [sg_r 0, sg_i x1] (sg_HI La Q) := by
  refine sg_body (by decide +kernel) (Nat.le_of_ble_eq_true rfl) ?_
  intro p e s m args below meth c F hnm
  unfold fX11_closeText at hf
  show sg_W p l e (sg_rm 2 0 0) s m args below meth c (MQ below (sg_Q (some .int) G La s.heap.size (sg_HI La Q)) args s 0 0 (sg_A La s.heap.size)) 2 G (sg_A La s.heap.size) La s0 0 0 0 [(0, sg_r 0), (1, sg_i x1)] []
  refine gw_aload_n F 0 rfl rfl (by decide) dX11_closeText_0 ?_
  refine gw_get7 F (so_0 hst) (by decide) rfl sg_lay_RX11 (j := 0) (by decide) (o1 := 1) (by first | rfl | omega) rfl (host := "") (.inl kw_326) dX11_closeText_1 (fun h1 => ?_)
  refine gw_iconst F dX11_closeText_4 ?_
  obtain ⟨s2, e3⟩ : ∃ z : sg_M, z = sg_up s0 1 1 0 := ⟨_, rfl⟩
  have hf := hf s2 e3
  refine gw_put0 F (so_1 hst) (by decide) rfl sg_lay_RX8 (j := 1) (by decide) (by decide) e3 tyX8_ok nmX8 rfl (tyX8_ok 1 (by decide)) rfl (.inr kw_128) dX11_closeText_5 ?_
  refine gw_aload_n F 0 rfl rfl (by decide) dX11_closeText_8 ?_
  refine gw_aload_n F 0 rfl rfl (by decide) dX11_closeText_9 ?_
  refine gw_get7 F (so_0 hst) (by decide) rfl sg_lay_RX11 (j := 1) (by decide) (o1 := 3) (by first | rfl | omega) rfl (host := "") (.inl kw_327) dX11_closeText_10 (fun h4 => ?_)
  refine gw_get0 F (so_3 hst) (by decide) rfl sg_lay_RX9 (j := 6) (by decide) rfl (.inr kw_145) dX11_closeText_13 (fun h5 => ?_)
  obtain ⟨s6, e7⟩ : ∃ z : sg_M, z = sg_up s2 0 16 (s2 3 6) := ⟨_, rfl⟩
  have hf := hf s6 e7
  refine gw_put0 F (so_0 hst) (by decide) rfl sg_lay_RX11 (j := 16) (by decide) h5 e7 tyX11_ok nmX11 rfl (tyX11_ok 16 (by decide)) rfl (host := "") (.inl kw_342) dX11_closeText_16 ?_
  refine gw_aload_n F 0 rfl rfl (by decide) dX11_closeText_19 ?_
  refine gw_get0 F (so_0 hst) (by decide) rfl sg_lay_RX11 (j := 16) (by decide) rfl (host := "") (.inl kw_342) dX11_closeText_20 (fun h8 => ?_)
  refine gw_if_eq F (tgt := 36) dX11_closeText_23 (by decide) h8 (fun c9 => ?_) (fun c9 => ?_)
  · have hf := hf.1 c9
    refine gw_aload_n F 0 rfl rfl (by decide) dX11_closeText_36 ?_
    refine gk_HV F (gc_V F (S := []) (As := []) (T := TX11) (N := 19) (CX11_forgetAnswers hst hf) (so_0 hst) (by decide) rfl kw_490 kw_90 kw_488 kw_489 kw_3 hcX11_forgetAnswers ⟨by decide, by decide⟩ rfl rfl (Nat.le_of_ble_eq_true rfl) ⟨by decide, by decide⟩ dX11_closeText_37) (fun s10 hf => ?_)
    refine gw_iload_n F 1 rfl rfl dX11_closeText_40 ?_
    exact gr_HI F r1 hf (by decide) (by decide) dX11_closeText_41
  · have hf := hf.2 c9
    refine gw_iconst F dX11_closeText_26 ?_
    refine gw_aload_n F 0 rfl rfl (by decide) dX11_closeText_27 ?_
    refine gw_get7 F (so_0 hst) (by decide) rfl sg_lay_RX11 (j := 1) (by decide) (o1 := 3) (by first | rfl | omega) rfl (host := "") (.inl kw_327) dX11_closeText_28 (fun h11 => ?_)
    refine gw_get0 F (so_3 hst) (by decide) rfl sg_lay_RX9 (j := 7) (by decide) rfl (.inr kw_149) dX11_closeText_31 (fun h12 => ?_)
    refine gw_isub F rfl dX11_closeText_34 ?_
    obtain ⟨g13, hf⟩ := hf
    exact gr_HI F g13 hf (by decide) (by decide) dX11_closeText_35

theorem dX4_init_0 : decode cX4_init 0 = .ok (.aload_n 0, 1) := by decide +kernel
theorem dX4_init_1 : decode cX4_init 1 = .ok (.invokespecial 3, 3) := by decide +kernel
theorem dX4_init_4 : decode cX4_init 4 = .ok (.aload_n 0, 1) := by decide +kernel
theorem dX4_init_5 : decode cX4_init 5 = .ok (.iconst 0, 1) := by decide +kernel
theorem dX4_init_6 : decode cX4_init 6 = .ok (.putfield 9, 3) := by decide +kernel
theorem dX4_init_9 : decode cX4_init 9 = .ok (.aload_n 0, 1) := by decide +kernel
theorem dX4_init_10 : decode cX4_init 10 = .ok (.iconst 0, 1) := by decide +kernel
theorem dX4_init_11 : decode cX4_init 11 = .ok (.putfield 15, 3) := by decide +kernel
theorem dX4_init_14 : decode cX4_init 14 = .ok (.aload_n 0, 1) := by decide +kernel
theorem dX4_init_15 : decode cX4_init 15 = .ok (.iconst 0, 1) := by decide +kernel
theorem dX4_init_16 : decode cX4_init 16 = .ok (.iload_n 1, 1) := by decide +kernel
theorem dX4_init_17 : decode cX4_init 17 = .ok (.invokestatic 19, 3) := by decide +kernel
theorem dX4_init_20 : decode cX4_init 20 = .ok (.newarray .int, 2) := by decide +kernel
theorem dX4_init_22 : decode cX4_init 22 = .ok (.putfield 25, 3) := by decide +kernel
theorem dX4_init_25 : decode cX4_init 25 = .ok (.return_, 1) := by decide +kernel
theorem hcX4_init : yX4_init.cls ≠ "java/lang/invoke/MethodHandle" ∧ yX4_init.cls ≠ "java/lang/invoke/VarHandle" ∧ (parseMethodDescriptor yX4_init.desc).map (fun d => d.parameters.length) = some 1 := ⟨by decide +kernel, by decide +kernel, by decide +kernel⟩
def fX4_init (La : sg_L) (s0 : sg_M) (o : Int) (x1 : Int) (Q : sg_L → sg_M → Prop) : Prop := ∀ s1 : sg_M, s1 = sg_up s0 o 1 0 → ∀ s3 : sg_M, s3 = sg_up s1 o 2 0 → (0 ≤ (sg_max 0 x1) ∧ (sg_max 0 x1) ≤ 200) ∧ ∀ (q5 : Nat) (La6 : sg_L), La6 = sg_pu La (10000 + (Int.toNat (sg_max 0 x1))) q5 → ∀ s7 : sg_M, s7 = sg_nw s3 La.1 (10000 + (Int.toNat (sg_max 0 x1))) → ∀ o8 : Int, o8 = (La.1 : Int) → ∀ s19 : sg_M, s19 = sg_up s7 o 0 o8 → sg_sealed La6 s19 o 24 4 ∧ ∀ La21 : sg_L, La21 = sg_se La6 o.toNat 4 → Q La21 s19
set_option maxHeartbeats 4000000 in
set_option maxRecDepth 100000 in
theorem CX4_init {l : Launch} {G : sg_G} {La : sg_L} {s0 : sg_M} {o : Int} (to : sg_O La o 24) {x1 : Int} (r1 : sg_R x1) {Q : sg_L → sg_M → Prop} (hf : fX4_init La s0 o x1 Q) : sg_C l G yX4_init cX4_init 2 (none) 1 1 200 La s0 [sg_r o, sg_i x1] (sg_BV (sg_se La o.toNat 4) Q) := by
  refine sg_body (by decide +kernel) (Nat.le_of_ble_eq_true rfl) ?_
  intro p e s m args below meth c F hnm
  unfold fX4_init at hf
  show sg_W p l e (sg_rm 1 1 200) s m args below meth c (MQ below (sg_Q (none) G La s.heap.size (sg_BV (sg_se La o.toNat 4) Q)) args s 1 200 (sg_A La s.heap.size)) 2 G (sg_A La s.heap.size) La s0 0 0 0 [(0, sg_r o), (1, sg_i x1)] []
  have hin : meth.name = "<init>" := hnm
  refine gw_aload_n F 0 rfl rfl to.1 dX4_init_0 ?_
  refine gw_objInit F to.1 kw_195 kw_OI kw_OC (Nat.le_of_ble_eq_true rfl) (by decide) (by decide) dX4_init_1 ?_
  refine gw_aload_n F 0 rfl rfl to.1 dX4_init_4 ?_
  refine gw_iconst F dX4_init_5 ?_
  obtain ⟨s1, e2⟩ : ∃ z : sg_M, z = sg_up s0 o 1 0 := ⟨_, rfl⟩
  have hf := hf s1 e2
  refine gw_put0 F to (by decide) rfl sg_lay_RX4 (j := 1) (by decide) (by decide) e2 tyX4_ok nmX4 rfl (tyX4_ok 1 (by decide)) rfl (host := "") (.inl kw_200) dX4_init_6 ?_
  refine gw_aload_n F 0 rfl rfl to.1 dX4_init_9 ?_
  refine gw_iconst F dX4_init_10 ?_
  obtain ⟨s3, e4⟩ : ∃ z : sg_M, z = sg_up s1 o 2 0 := ⟨_, rfl⟩
  have hf := hf s3 e4
  refine gw_put1 F to (by decide) rfl sg_lay_RX4 (j := 2) (by decide) (by decide) e4 tyX4_ok nmX4 rfl (tyX4_ok 2 (by decide)) rfl (host := "") (.inl kw_205) dX4_init_11 ?_
  refine gw_aload_n F 0 rfl rfl to.1 dX4_init_14 ?_
  refine gw_iconst F dX4_init_15 ?_
  refine gw_iload_n F 1 rfl rfl dX4_init_16 ?_
  refine gw_max F (by decide) r1 rfl kw_196 kw_max1 kw_math kw_max2 (Nat.le_of_ble_eq_true rfl) (by decide) (by decide) (by decide) (by decide) dX4_init_17 ?_
  obtain ⟨⟨b140, b141⟩, hf⟩ := hf
  refine gy_newI F (N := (Int.toNat (sg_max 0 x1))) kw_131 (Int.toNat_of_nonneg b140) (by omega) (by decide) (by simp only [sg_rm]; omega) (List.forall_mem_cons.mpr ⟨(Or.inl to.2.1), (List.forall_mem_cons.mpr ⟨True.intro, (fun _ h => absurd h List.not_mem_nil)⟩)⟩) (List.forall_mem_cons.mpr ⟨(Or.inl to.2.1), (fun _ h => absurd h List.not_mem_nil)⟩) dX4_init_20 (fun q5 La6 s7 o8 e9 e10 e11 t12 hX13 => ?_)
  have hf := hf q5 La6 e9 s7 e10 o8 e11
  have hn15 : La.1 ≤ o8.toNat := by rw [e11, Int.toNat_natCast]; exact (sg_X.rf : sg_X La La).1
  have t16 := to.X hX13
  have hX17 := sg_X.tr (sg_X.rf) hX13
  refine gw_widen (k := (0 + 1)) (n := (0 + 200)) (Nat.le_refl _) (by omega) ?_
  have t18 := sg_AN_of (n := (sg_max 0 x1)) t12 (by omega) (by omega) (by omega)
  obtain ⟨s19, e20⟩ : ∃ z : sg_M, z = sg_up s7 o 0 o8 := ⟨_, rfl⟩
  have hf := hf s19 e20
  refine gw_put5F F t16 (by decide) rfl sg_lay_RX4 (j := 0) (by decide) (D0 := tyX4 0) (fun _ => ⟨rfl, rfl⟩) t18.1 t18.2.1 e20 tyX4_ok nmX4 rfl hin rfl (tyX4_ok 0 (by decide)) rfl (host := "") kw_199 dX4_init_22 ?_
  obtain ⟨g22, hf⟩ := hf
  obtain ⟨La21, e23⟩ : ∃ z : sg_L, z = sg_se La6 o.toNat 4 := ⟨_, rfl⟩
  have hf := hf La21 e23
  refine gw_seal t16 ⟨by decide, by decide, by decide⟩ (by decide) (by decide) g22.1 g22.2 ?_
  rw [← e23]
  exact gr_BC F hf (e23 ▸ (sg_X.both hX17)) (by decide) (by decide) dX4_init_25

theorem dX5_init_0 : decode cX5_init 0 = .ok (.aload_n 0, 1) := by decide +kernel
theorem dX5_init_1 : decode cX5_init 1 = .ok (.invokespecial 3, 3) := by decide +kernel
theorem dX5_init_4 : decode cX5_init 4 = .ok (.aload_n 0, 1) := by decide +kernel
theorem dX5_init_5 : decode cX5_init 5 = .ok (.new 9, 3) := by decide +kernel
theorem dX5_init_8 : decode cX5_init 8 = .ok (.dup, 1) := by decide +kernel
theorem dX5_init_9 : decode cX5_init 9 = .ok (.bipush 40, 2) := by decide +kernel
theorem dX5_init_11 : decode cX5_init 11 = .ok (.invokespecial 13, 3) := by decide +kernel
theorem dX5_init_14 : decode cX5_init 14 = .ok (.putfield 16, 3) := by decide +kernel
theorem dX5_init_17 : decode cX5_init 17 = .ok (.aload_n 0, 1) := by decide +kernel
theorem dX5_init_18 : decode cX5_init 18 = .ok (.new 9, 3) := by decide +kernel
theorem dX5_init_21 : decode cX5_init 21 = .ok (.dup, 1) := by decide +kernel
theorem dX5_init_22 : decode cX5_init 22 = .ok (.bipush 40, 2) := by decide +kernel
theorem dX5_init_24 : decode cX5_init 24 = .ok (.invokespecial 13, 3) := by decide +kernel
theorem dX5_init_27 : decode cX5_init 27 = .ok (.putfield 20, 3) := by decide +kernel
theorem dX5_init_30 : decode cX5_init 30 = .ok (.aload_n 0, 1) := by decide +kernel
theorem dX5_init_31 : decode cX5_init 31 = .ok (.new 9, 3) := by decide +kernel
theorem dX5_init_34 : decode cX5_init 34 = .ok (.dup, 1) := by decide +kernel
theorem dX5_init_35 : decode cX5_init 35 = .ok (.bipush 40, 2) := by decide +kernel
theorem dX5_init_37 : decode cX5_init 37 = .ok (.invokespecial 13, 3) := by decide +kernel
theorem dX5_init_40 : decode cX5_init 40 = .ok (.putfield 23, 3) := by decide +kernel
theorem dX5_init_43 : decode cX5_init 43 = .ok (.aload_n 0, 1) := by decide +kernel
theorem dX5_init_44 : decode cX5_init 44 = .ok (.iconst 0, 1) := by decide +kernel
theorem dX5_init_45 : decode cX5_init 45 = .ok (.putfield 26, 3) := by decide +kernel
theorem dX5_init_48 : decode cX5_init 48 = .ok (.return_, 1) := by decide +kernel
theorem hcX5_init : yX5_init.cls ≠ "java/lang/invoke/MethodHandle" ∧ yX5_init.cls ≠ "java/lang/invoke/VarHandle" ∧ (parseMethodDescriptor yX5_init.desc).map (fun d => d.parameters.length) = some 0 := ⟨by decide +kernel, by decide +kernel, by decide +kernel⟩
def fX5_init (La : sg_L) (s0 : sg_M) (o : Int) (Q : sg_L → sg_M → Prop) : Prop := ∀ (q1 : Nat) (La2 : sg_L), La2 = sg_pu La 24 q1 → ∀ s3 : sg_M, s3 = sg_nw s0 La.1 24 → ∀ o4 : Int, o4 = (La.1 : Int) → fX4_init La2 s3 o4 40 (fun La13 s14 => ∀ s19 : sg_M, s19 = sg_up s14 o 0 o4 → ∀ (q21 : Nat) (La22 : sg_L), La22 = sg_pu La13 24 q21 → ∀ s23 : sg_M, s23 = sg_nw s19 La13.1 24 → ∀ o24 : Int, o24 = (La13.1 : Int) → fX4_init La22 s23 o24 40 (fun La33 s34 => ∀ s39 : sg_M, s39 = sg_up s34 o 1 o24 → ∀ (q41 : Nat) (La42 : sg_L), La42 = sg_pu La33 24 q41 → ∀ s43 : sg_M, s43 = sg_nw s39 La33.1 24 → ∀ o44 : Int, o44 = (La33.1 : Int) → fX4_init La42 s43 o44 40 (fun La53 s54 => ∀ s59 : sg_M, s59 = sg_up s54 o 2 o44 → ∀ s61 : sg_M, s61 = sg_up s59 o 3 0 → sg_sealed La53 s61 o 25 5 ∧ ∀ La63 : sg_L, La63 = sg_se La53 o.toNat 5 → Q La63 s61)))
set_option maxHeartbeats 4000000 in
set_option maxRecDepth 100000 in
theorem CX5_init {l : Launch} {G : sg_G} {La : sg_L} {s0 : sg_M} {o : Int} (to : sg_O La o 25) {Q : sg_L → sg_M → Prop} (hf : fX5_init La s0 o Q) : sg_C l G yX5_init cX5_init 1 (none) 2 6 609 La s0 [sg_r o] (sg_BV (sg_se La o.toNat 5) Q) := by
  refine sg_body (by decide +kernel) (Nat.le_of_ble_eq_true rfl) ?_
  intro p e s m args below meth c F hnm
  unfold fX5_init at hf
  show sg_W p l e (sg_rm 2 6 609) s m args below meth c (MQ below (sg_Q (none) G La s.heap.size (sg_BV (sg_se La o.toNat 5) Q)) args s 6 609 (sg_A La s.heap.size)) 1 G (sg_A La s.heap.size) La s0 0 0 0 [(0, sg_r o)] []
  have hin : meth.name = "<init>" := hnm
  refine gw_aload_n F 0 rfl rfl to.1 dX5_init_0 ?_
  refine gw_objInit F to.1 kw_189 kw_OI kw_OC (Nat.le_of_ble_eq_true rfl) (by decide) (by decide) dX5_init_1 ?_
  refine gw_aload_n F 0 rfl rfl to.1 dX5_init_4 ?_
  refine gy_new F (kd := 24) (T := TX4) (by decide) rfl sg_lay_RX4 tyX4_ok kw_190 kw_191 kw_97 ns_X4 nf_X4 nr_X4 (by decide) (by decide) (List.forall_mem_cons.mpr ⟨(Or.inl to.2.1), (fun _ h => absurd h List.not_mem_nil)⟩) (List.forall_mem_cons.mpr ⟨(Or.inl to.2.1), (fun _ h => absurd h List.not_mem_nil)⟩) dX5_init_5 (fun q1 La2 s3 o4 e5 e6 e7 t8 hX9 => ?_)
  have hf := hf q1 La2 e5 s3 e6 o4 e7
  have hn10 : La.1 ≤ o4.toNat := by rw [e7, Int.toNat_natCast]; exact (sg_X.rf : sg_X La La).1
  have t11 := to.X hX9
  have hX12 := sg_X.tr (sg_X.rf) hX9
  refine gw_dup F rfl dX5_init_8 ?_
  refine gw_bipush F rfl dX5_init_9 ?_
  refine gk_BV F (gc_I F (S := [sg_r o4, sg_r o]) (As := [sg_i 40]) (CX4_init t8 (by decide) hf) t8.1 kw_194 kw_97 kw_192 kw_193 rfl hcX4_init ⟨by decide, by decide⟩ rfl rfl (Nat.le_of_ble_eq_true rfl) ⟨by decide, by decide⟩ dX5_init_11) (List.forall_mem_cons.mpr ⟨(Or.inl t11.2.1), (fun _ h => absurd h List.not_mem_nil)⟩) (List.forall_mem_cons.mpr ⟨(Or.inl t8.2.1), (List.forall_mem_cons.mpr ⟨(Or.inl t11.2.1), (fun _ h => absurd h List.not_mem_nil)⟩)⟩) (fun La13 s14 hX15 hf => ?_)
  have t16 := (sg_O_sx t11 t8 (by decide)).X hX15
  have t17 := (sg_O_sealed t8).X hX15
  have hX18 := (sg_X_sx (hX12) hn10).tr hX15
  obtain ⟨s19, e20⟩ : ∃ z : sg_M, z = sg_up s14 o 0 o4 := ⟨_, rfl⟩
  have hf := hf s19 e20
  refine gw_put5F F t16 (by decide) rfl sg_lay_RX5 (j := 0) (by decide) (D0 := tyX5 0) (fun _ => ⟨rfl, rfl⟩) t17.1 t17.2.1 e20 tyX5_ok nmX5 rfl hin rfl (tyX5_ok 0 (by decide)) rfl (host := "") kw_207 dX5_init_14 ?_
  refine gw_aload_n F 0 rfl rfl t16.1 dX5_init_17 ?_
  refine gy_new F (kd := 24) (T := TX4) (by decide) rfl sg_lay_RX4 tyX4_ok kw_190 kw_191 kw_97 ns_X4 nf_X4 nr_X4 (by decide) (by decide) (List.forall_mem_cons.mpr ⟨(Or.inl t16.2.1), (fun _ h => absurd h List.not_mem_nil)⟩) (List.forall_mem_cons.mpr ⟨(Or.inl t16.2.1), (fun _ h => absurd h List.not_mem_nil)⟩) dX5_init_18 (fun q21 La22 s23 o24 e25 e26 e27 t28 hX29 => ?_)
  have hf := hf q21 La22 e25 s23 e26 o24 e27
  have hn30 : La.1 ≤ o24.toNat := by rw [e27, Int.toNat_natCast]; exact (hX18 : sg_X La La13).1
  have t31 := t16.X hX29
  have hX32 := sg_X.tr (hX18) hX29
  refine gw_dup F rfl dX5_init_21 ?_
  refine gw_bipush F rfl dX5_init_22 ?_
  refine gk_BV F (gc_I F (S := [sg_r o24, sg_r o]) (As := [sg_i 40]) (CX4_init t28 (by decide) hf) t28.1 kw_194 kw_97 kw_192 kw_193 rfl hcX4_init ⟨by decide, by decide⟩ rfl rfl (Nat.le_of_ble_eq_true rfl) ⟨by decide, by decide⟩ dX5_init_24) (List.forall_mem_cons.mpr ⟨(Or.inl t31.2.1), (fun _ h => absurd h List.not_mem_nil)⟩) (List.forall_mem_cons.mpr ⟨(Or.inl t28.2.1), (List.forall_mem_cons.mpr ⟨(Or.inl t31.2.1), (fun _ h => absurd h List.not_mem_nil)⟩)⟩) (fun La33 s34 hX35 hf => ?_)
  have t36 := (sg_O_sx t31 t28 (by decide)).X hX35
  have t37 := (sg_O_sealed t28).X hX35
  have hX38 := (sg_X_sx (hX32) hn30).tr hX35
  obtain ⟨s39, e40⟩ : ∃ z : sg_M, z = sg_up s34 o 1 o24 := ⟨_, rfl⟩
  have hf := hf s39 e40
  refine gw_put5F F t36 (by decide) rfl sg_lay_RX5 (j := 1) (by decide) (D0 := tyX5 1) (fun _ => ⟨rfl, rfl⟩) t37.1 t37.2.1 e40 tyX5_ok nmX5 rfl hin rfl (tyX5_ok 1 (by decide)) rfl (host := "") kw_208 dX5_init_27 ?_
  refine gw_aload_n F 0 rfl rfl t36.1 dX5_init_30 ?_
  refine gy_new F (kd := 24) (T := TX4) (by decide) rfl sg_lay_RX4 tyX4_ok kw_190 kw_191 kw_97 ns_X4 nf_X4 nr_X4 (by decide) (by decide) (List.forall_mem_cons.mpr ⟨(Or.inl t36.2.1), (fun _ h => absurd h List.not_mem_nil)⟩) (List.forall_mem_cons.mpr ⟨(Or.inl t36.2.1), (fun _ h => absurd h List.not_mem_nil)⟩) dX5_init_31 (fun q41 La42 s43 o44 e45 e46 e47 t48 hX49 => ?_)
  have hf := hf q41 La42 e45 s43 e46 o44 e47
  have hn50 : La.1 ≤ o44.toNat := by rw [e47, Int.toNat_natCast]; exact (hX38 : sg_X La La33).1
  have t51 := t36.X hX49
  have hX52 := sg_X.tr (hX38) hX49
  refine gw_dup F rfl dX5_init_34 ?_
  refine gw_bipush F rfl dX5_init_35 ?_
  refine gk_BV F (gc_I F (S := [sg_r o44, sg_r o]) (As := [sg_i 40]) (CX4_init t48 (by decide) hf) t48.1 kw_194 kw_97 kw_192 kw_193 rfl hcX4_init ⟨by decide, by decide⟩ rfl rfl (Nat.le_of_ble_eq_true rfl) ⟨by decide, by decide⟩ dX5_init_37) (List.forall_mem_cons.mpr ⟨(Or.inl t51.2.1), (fun _ h => absurd h List.not_mem_nil)⟩) (List.forall_mem_cons.mpr ⟨(Or.inl t48.2.1), (List.forall_mem_cons.mpr ⟨(Or.inl t51.2.1), (fun _ h => absurd h List.not_mem_nil)⟩)⟩) (fun La53 s54 hX55 hf => ?_)
  have t56 := (sg_O_sx t51 t48 (by decide)).X hX55
  have t57 := (sg_O_sealed t48).X hX55
  have hX58 := (sg_X_sx (hX52) hn50).tr hX55
  obtain ⟨s59, e60⟩ : ∃ z : sg_M, z = sg_up s54 o 2 o44 := ⟨_, rfl⟩
  have hf := hf s59 e60
  refine gw_put5F F t56 (by decide) rfl sg_lay_RX5 (j := 2) (by decide) (D0 := tyX5 2) (fun _ => ⟨rfl, rfl⟩) t57.1 t57.2.1 e60 tyX5_ok nmX5 rfl hin rfl (tyX5_ok 2 (by decide)) rfl (host := "") kw_209 dX5_init_40 ?_
  refine gw_aload_n F 0 rfl rfl t56.1 dX5_init_43 ?_
  refine gw_iconst F dX5_init_44 ?_
  obtain ⟨s61, e62⟩ : ∃ z : sg_M, z = sg_up s59 o 3 0 := ⟨_, rfl⟩
  have hf := hf s61 e62
  refine gw_put0 F t56 (by decide) rfl sg_lay_RX5 (j := 3) (by decide) (by decide) e62 tyX5_ok nmX5 rfl (tyX5_ok 3 (by decide)) rfl (host := "") (.inl kw_210) dX5_init_45 ?_
  obtain ⟨g64, hf⟩ := hf
  obtain ⟨La63, e65⟩ : ∃ z : sg_L, z = sg_se La53 o.toNat 5 := ⟨_, rfl⟩
  have hf := hf La63 e65
  refine gw_seal t56 ⟨by decide, by decide, by decide⟩ (by decide) (by decide) g64.1 g64.2 ?_
  rw [← e65]
  exact gr_BC F hf (e65 ▸ (sg_X.both hX58)) (by decide) (by decide) dX5_init_48

theorem dX9_fail_0 : decode cX9_fail 0 = .ok (.aload_n 0, 1) := by decide +kernel
theorem dX9_fail_1 : decode cX9_fail 1 = .ok (.getfield 25, 3) := by decide +kernel
theorem dX9_fail_4 : decode cX9_fail 4 = .ok (.ifCond .ne 16, 3) := by decide +kernel
theorem dX9_fail_7 : decode cX9_fail 7 = .ok (.aload_n 0, 1) := by decide +kernel
theorem dX9_fail_8 : decode cX9_fail 8 = .ok (.iload_n 1, 1) := by decide +kernel
theorem dX9_fail_9 : decode cX9_fail 9 = .ok (.putfield 25, 3) := by decide +kernel
theorem dX9_fail_12 : decode cX9_fail 12 = .ok (.aload_n 0, 1) := by decide +kernel
theorem dX9_fail_13 : decode cX9_fail 13 = .ok (.aload_n 0, 1) := by decide +kernel
theorem dX9_fail_14 : decode cX9_fail 14 = .ok (.getfield 16, 3) := by decide +kernel
theorem dX9_fail_17 : decode cX9_fail 17 = .ok (.putfield 28, 3) := by decide +kernel
theorem dX9_fail_20 : decode cX9_fail 20 = .ok (.return_, 1) := by decide +kernel
theorem hcX9_fail : yX9_fail.cls ≠ "java/lang/invoke/MethodHandle" ∧ yX9_fail.cls ≠ "java/lang/invoke/VarHandle" ∧ (parseMethodDescriptor yX9_fail.desc).map (fun d => d.parameters.length) = some 1 := ⟨by decide +kernel, by decide +kernel, by decide +kernel⟩
def fX9_fail (s0 : sg_M) (x1 : Int) (Q : sg_M → Prop) : Prop := (((s0 3 6) ≠ 0 → Q s0) ∧ ((s0 3 6) = 0 → ∀ s3 : sg_M, s3 = sg_up s0 3 6 x1 → ∀ s6 : sg_M, s6 = sg_up s3 3 7 (s3 3 3) → Q s6))
set_option maxHeartbeats 4000000 in
set_option maxRecDepth 100000 in
theorem CX9_fail {l : Launch} {G : sg_G} {La : sg_L} {s0 : sg_M} (hst : sg_St La) {x1 : Int} (r1 : sg_R x1) {Q : sg_M → Prop} (hf : fX9_fail s0 x1 Q) : sg_C l G yX9_fail cX9_fail 2 (none) 1 0 0 La s0 [sg_r 3, sg_i x1] (sg_HV La Q) := by
  refine sg_body (by decide +kernel) (Nat.le_of_ble_eq_true rfl) ?_
  intro p e s m args below meth c F hnm
  unfold fX9_fail at hf
  show sg_W p l e (sg_rm 1 0 0) s m args below meth c (MQ below (sg_Q (none) G La s.heap.size (sg_HV La Q)) args s 0 0 (sg_A La s.heap.size)) 2 G (sg_A La s.heap.size) La s0 0 0 0 [(0, sg_r 3), (1, sg_i x1)] []
  refine gw_aload_n F 0 rfl rfl (by decide) dX9_fail_0 ?_
  refine gw_get0 F (so_3 hst) (by decide) rfl sg_lay_RX9 (j := 6) (by decide) rfl (host := "") (.inl kw_144) dX9_fail_1 (fun h1 => ?_)
  refine gw_if_ne F (tgt := 20) dX9_fail_4 (by decide) h1 (fun c2 => ?_) (fun c2 => ?_)
  · have hf := hf.1 c2
    exact gr_HV F hf (by decide) (by decide) dX9_fail_20
  · have hf := hf.2 c2
    refine gw_aload_n F 0 rfl rfl (by decide) dX9_fail_7 ?_
    refine gw_iload_n F 1 rfl rfl dX9_fail_8 ?_
    obtain ⟨s3, e4⟩ : ∃ z : sg_M, z = sg_up s0 3 6 x1 := ⟨_, rfl⟩
    have hf := hf s3 e4
    refine gw_put0 F (so_3 hst) (by decide) rfl sg_lay_RX9 (j := 6) (by decide) r1 e4 tyX9_ok nmX9 rfl (tyX9_ok 6 (by decide)) rfl (host := "") (.inl kw_144) dX9_fail_9 ?_
    refine gw_aload_n F 0 rfl rfl (by decide) dX9_fail_12 ?_
    refine gw_aload_n F 0 rfl rfl (by decide) dX9_fail_13 ?_
    refine gw_get0 F (so_3 hst) (by decide) rfl sg_lay_RX9 (j := 3) (by decide) rfl (host := "") (.inl kw_141) dX9_fail_14 (fun h5 => ?_)
    obtain ⟨s6, e7⟩ : ∃ z : sg_M, z = sg_up s3 3 7 (s3 3 3) := ⟨_, rfl⟩
    have hf := hf s6 e7
    refine gw_put0 F (so_3 hst) (by decide) rfl sg_lay_RX9 (j := 7) (by decide) h5 e7 tyX9_ok nmX9 rfl (tyX9_ok 7 (by decide)) rfl (host := "") (.inl kw_148) dX9_fail_17 ?_
    exact gr_HV F hf (by decide) (by decide) dX9_fail_20

theorem dX9_isGoingOn_0 : decode cX9_isGoingOn 0 = .ok (.aload_n 0, 1) := by decide +kernel
theorem dX9_isGoingOn_1 : decode cX9_isGoingOn 1 = .ok (.getfield 25, 3) := by decide +kernel
theorem dX9_isGoingOn_4 : decode cX9_isGoingOn 4 = .ok (.ifCond .ne 14, 3) := by decide +kernel
theorem dX9_isGoingOn_7 : decode cX9_isGoingOn 7 = .ok (.aload_n 0, 1) := by decide +kernel
theorem dX9_isGoingOn_8 : decode cX9_isGoingOn 8 = .ok (.getfield 13, 3) := by decide +kernel
theorem dX9_isGoingOn_11 : decode cX9_isGoingOn 11 = .ok (.ifCond .eq 7, 3) := by decide +kernel
theorem dX9_isGoingOn_14 : decode cX9_isGoingOn 14 = .ok (.iconst 1, 1) := by decide +kernel
theorem dX9_isGoingOn_15 : decode cX9_isGoingOn 15 = .ok (.goto 4, 3) := by decide +kernel
theorem dX9_isGoingOn_18 : decode cX9_isGoingOn 18 = .ok (.iconst 0, 1) := by decide +kernel
theorem dX9_isGoingOn_19 : decode cX9_isGoingOn 19 = .ok (.ireturn, 1) := by decide +kernel
theorem hcX9_isGoingOn : yX9_isGoingOn.cls ≠ "java/lang/invoke/MethodHandle" ∧ yX9_isGoingOn.cls ≠ "java/lang/invoke/VarHandle" ∧ (parseMethodDescriptor yX9_isGoingOn.desc).map (fun d => d.parameters.length) = some 0 := ⟨by decide +kernel, by decide +kernel, by decide +kernel⟩
def fX9_isGoingOn (s0 : sg_M) (Q : Int → Prop) : Prop := (((s0 3 6) ≠ 0 → Q 0) ∧ ((s0 3 6) = 0 → (((s0 3 2) = 0 → Q 0) ∧ (¬ ((s0 3 2) = 0) → Q 1))))
set_option maxHeartbeats 4000000 in
set_option maxRecDepth 100000 in
theorem CX9_isGoingOn {l : Launch} {G : sg_G} {La : sg_L} {s0 : sg_M} (hst : sg_St La) {Q : Int → Prop} (hf : fX9_isGoingOn s0 Q) : sg_C l G yX9_isGoingOn cX9_isGoingOn 1 (some .boolean) 1 0 0 La s0 [sg_r 3] (sg_PZ La s0 Q) := by
  refine sg_body (by decide +kernel) (Nat.le_of_ble_eq_true rfl) ?_
  intro p e s m args below meth c F hnm
  unfold fX9_isGoingOn at hf
  show sg_W p l e (sg_rm 1 0 0) s m args below meth c (MQ below (sg_Q (some .boolean) G La s.heap.size (sg_PZ La s0 Q)) args s 0 0 (sg_A La s.heap.size)) 1 G (sg_A La s.heap.size) La s0 0 0 0 [(0, sg_r 3)] []
  refine gw_aload_n F 0 rfl rfl (by decide) dX9_isGoingOn_0 ?_
  refine gw_get0 F (so_3 hst) (by decide) rfl sg_lay_RX9 (j := 6) (by decide) rfl (host := "") (.inl kw_144) dX9_isGoingOn_1 (fun h1 => ?_)
  refine gw_if_ne F (tgt := 18) dX9_isGoingOn_4 (by decide) h1 (fun c2 => ?_) (fun c2 => ?_)
  · have hf := hf.1 c2
    refine gw_iconst F dX9_isGoingOn_18 ?_
    exact gr_PZ F (by decide) hf (by decide) (by decide) dX9_isGoingOn_19
  · have hf := hf.2 c2
    refine gw_aload_n F 0 rfl rfl (by decide) dX9_isGoingOn_7 ?_
    refine gw_get0 F (so_3 hst) (by decide) rfl sg_lay_RX9 (j := 2) (by decide) rfl (host := "") (.inl kw_140) dX9_isGoingOn_8 (fun h3 => ?_)
    refine gw_if_eq F (tgt := 18) dX9_isGoingOn_11 (by decide) h3 (fun c4 => ?_) (fun c4 => ?_)
    · have hf := hf.1 c4
      refine gw_iconst F dX9_isGoingOn_18 ?_
      exact gr_PZ F (by decide) hf (by decide) (by decide) dX9_isGoingOn_19
    · have hf := hf.2 c4
      refine gw_iconst F dX9_isGoingOn_14 ?_
      refine gw_goto F (tgt := 19) dX9_isGoingOn_15 (by decide) ?_
      exact gr_PZ F (by decide) hf (by decide) (by decide) dX9_isGoingOn_19

theorem dX8_byteAt_0 : decode cX8_byteAt 0 = .ok (.iload_n 1, 1) := by decide +kernel
theorem dX8_byteAt_1 : decode cX8_byteAt 1 = .ok (.ifCond .lt 20, 3) := by decide +kernel
theorem dX8_byteAt_4 : decode cX8_byteAt 4 = .ok (.iload_n 1, 1) := by decide +kernel
theorem dX8_byteAt_5 : decode cX8_byteAt 5 = .ok (.aload_n 0, 1) := by decide +kernel
theorem dX8_byteAt_6 : decode cX8_byteAt 6 = .ok (.getfield 15, 3) := by decide +kernel
theorem dX8_byteAt_9 : decode cX8_byteAt 9 = .ok (.if_icmp .ge 12, 3) := by decide +kernel
theorem dX8_byteAt_12 : decode cX8_byteAt 12 = .ok (.iload_n 1, 1) := by decide +kernel
theorem dX8_byteAt_13 : decode cX8_byteAt 13 = .ok (.aload_n 0, 1) := by decide +kernel
theorem dX8_byteAt_14 : decode cX8_byteAt 14 = .ok (.getfield 9, 3) := by decide +kernel
theorem dX8_byteAt_17 : decode cX8_byteAt 17 = .ok (.arraylength, 1) := by decide +kernel
theorem dX8_byteAt_18 : decode cX8_byteAt 18 = .ok (.if_icmp .lt 7, 3) := by decide +kernel
theorem dX8_byteAt_21 : decode cX8_byteAt 21 = .ok (.iconst (-1), 1) := by decide +kernel
theorem dX8_byteAt_22 : decode cX8_byteAt 22 = .ok (.goto 9, 3) := by decide +kernel
theorem dX8_byteAt_25 : decode cX8_byteAt 25 = .ok (.aload_n 0, 1) := by decide +kernel
theorem dX8_byteAt_26 : decode cX8_byteAt 26 = .ok (.getfield 9, 3) := by decide +kernel
theorem dX8_byteAt_29 : decode cX8_byteAt 29 = .ok (.iload_n 1, 1) := by decide +kernel
theorem dX8_byteAt_30 : decode cX8_byteAt 30 = .ok (.iaload, 1) := by decide +kernel
theorem dX8_byteAt_31 : decode cX8_byteAt 31 = .ok (.ireturn, 1) := by decide +kernel
theorem hcX8_byteAt : yX8_byteAt.cls ≠ "java/lang/invoke/MethodHandle" ∧ yX8_byteAt.cls ≠ "java/lang/invoke/VarHandle" ∧ (parseMethodDescriptor yX8_byteAt.desc).map (fun d => d.parameters.length) = some 1 := ⟨by decide +kernel, by decide +kernel, by decide +kernel⟩
def fX8_byteAt (s0 : sg_M) (x1 : Int) (Q : Int → Prop) : Prop := ((x1 < 0 → Q (-1)) ∧ (¬ (x1 < 0) → (((s0 1 1) ≤ x1 → Q (-1)) ∧ (¬ ((s0 1 1) ≤ x1) → sg_R 540 ∧ ((x1 < 540 → (0 ≤ x1 ∧ x1 < 540) ∧ Q (s0 2 x1)) ∧ (¬ (x1 < 540) → Q (-1)))))))
set_option maxHeartbeats 4000000 in
set_option maxRecDepth 100000 in
theorem CX8_byteAt {l : Launch} {G : sg_G} {La : sg_L} {s0 : sg_M} (hst : sg_St La) {x1 : Int} (r1 : sg_R x1) {Q : Int → Prop} (hf : fX8_byteAt s0 x1 Q) : sg_C l G yX8_byteAt cX8_byteAt 2 (some .int) 1 0 0 La s0 [sg_r 1, sg_i x1] (sg_PI La s0 Q) := by
  refine sg_body (by decide +kernel) (Nat.le_of_ble_eq_true rfl) ?_
  intro p e s m args below meth c F hnm
  unfold fX8_byteAt at hf
  show sg_W p l e (sg_rm 1 0 0) s m args below meth c (MQ below (sg_Q (some .int) G La s.heap.size (sg_PI La s0 Q)) args s 0 0 (sg_A La s.heap.size)) 2 G (sg_A La s.heap.size) La s0 0 0 0 [(0, sg_r 1), (1, sg_i x1)] []
  refine gw_iload_n F 1 rfl rfl dX8_byteAt_0 ?_
  refine gw_if_lt F (tgt := 21) dX8_byteAt_1 (by decide) r1 (fun c1 => ?_) (fun c1 => ?_)
  · have hf := hf.1 c1
    refine gw_iconst F dX8_byteAt_21 ?_
    refine gw_goto F (tgt := 31) dX8_byteAt_22 (by decide) ?_
    exact gr_PI F (by decide) hf (by decide) (by decide) dX8_byteAt_31
  · have hf := hf.2 c1
    refine gw_iload_n F 1 rfl rfl dX8_byteAt_4 ?_
    refine gw_aload_n F 0 rfl rfl (by decide) dX8_byteAt_5 ?_
    refine gw_get0 F (so_1 hst) (by decide) rfl sg_lay_RX8 (j := 1) (by decide) rfl (host := "") (.inl kw_127) dX8_byteAt_6 (fun h2 => ?_)
    refine gw_icmp_ge F (tgt := 21) dX8_byteAt_9 (by decide) r1 h2 (fun c3 => ?_) (fun c3 => ?_)
    · have hf := hf.1 c3
      refine gw_iconst F dX8_byteAt_21 ?_
      refine gw_goto F (tgt := 31) dX8_byteAt_22 (by decide) ?_
      exact gr_PI F (by decide) hf (by decide) (by decide) dX8_byteAt_31
    · have hf := hf.2 c3
      refine gw_iload_n F 1 rfl rfl dX8_byteAt_12 ?_
      refine gw_aload_n F 0 rfl rfl (by decide) dX8_byteAt_13 ?_
      refine gw_get3 F (so_1 hst) (by decide) rfl sg_lay_RX8 (j := 0) (by decide) (o1 := 2) (by first | rfl | omega) rfl (host := "") (.inl kw_126) dX8_byteAt_14 (fun h4 => ?_)
      refine gw_alen F (sa_2 hst) dX8_byteAt_17 ?_
      obtain ⟨g5, hf⟩ := hf
      refine gw_icmp_lt F (tgt := 25) dX8_byteAt_18 (by decide) r1 g5 (fun c6 => ?_) (fun c6 => ?_)
      · have hf := hf.1 c6
        refine gw_aload_n F 0 rfl rfl (by decide) dX8_byteAt_25 ?_
        refine gw_get3 F (so_1 hst) (by decide) rfl sg_lay_RX8 (j := 0) (by decide) (o1 := 2) (by first | rfl | omega) rfl (host := "") (.inl kw_126) dX8_byteAt_26 (fun h7 => ?_)
        refine gw_iload_n F 1 rfl rfl dX8_byteAt_29 ?_
        obtain ⟨⟨b80, b81⟩, hf⟩ := hf
        refine gw_iald F (sa_2 hst) b80 b81 dX8_byteAt_30 (fun h9 => ?_)
        exact gr_PI F h9 hf (by decide) (by decide) dX8_byteAt_31
      · have hf := hf.2 c6
        refine gw_iconst F dX8_byteAt_21 ?_
        refine gw_goto F (tgt := 31) dX8_byteAt_22 (by decide) ?_
        exact gr_PI F (by decide) hf (by decide) (by decide) dX8_byteAt_31

theorem dX9_isBlank_0 : decode cX9_isBlank 0 = .ok (.iload_n 0, 1) := by decide +kernel
theorem dX9_isBlank_1 : decode cX9_isBlank 1 = .ok (.bipush 32, 2) := by decide +kernel
theorem dX9_isBlank_3 : decode cX9_isBlank 3 = .ok (.if_icmp .eq 9, 3) := by decide +kernel
theorem dX9_isBlank_6 : decode cX9_isBlank 6 = .ok (.iload_n 0, 1) := by decide +kernel
theorem dX9_isBlank_7 : decode cX9_isBlank 7 = .ok (.bipush 10, 2) := by decide +kernel
theorem dX9_isBlank_9 : decode cX9_isBlank 9 = .ok (.if_icmp .ne 7, 3) := by decide +kernel
theorem dX9_isBlank_12 : decode cX9_isBlank 12 = .ok (.iconst 1, 1) := by decide +kernel
theorem dX9_isBlank_13 : decode cX9_isBlank 13 = .ok (.goto 4, 3) := by decide +kernel
theorem dX9_isBlank_16 : decode cX9_isBlank 16 = .ok (.iconst 0, 1) := by decide +kernel
theorem dX9_isBlank_17 : decode cX9_isBlank 17 = .ok (.ireturn, 1) := by decide +kernel
theorem hcX9_isBlank : yX9_isBlank.cls ≠ "java/lang/invoke/MethodHandle" ∧ yX9_isBlank.cls ≠ "java/lang/invoke/VarHandle" ∧ (parseMethodDescriptor yX9_isBlank.desc).map (fun d => d.parameters.length) = some 1 := ⟨by decide +kernel, by decide +kernel, by decide +kernel⟩
def fX9_isBlank (x0 : Int) (Q : Int → Prop) : Prop := ((x0 = 32 → Q 1) ∧ (¬ (x0 = 32) → ((x0 ≠ 10 → Q 0) ∧ (x0 = 10 → Q 1))))
set_option maxHeartbeats 4000000 in
set_option maxRecDepth 100000 in
theorem CX9_isBlank {l : Launch} {G : sg_G} {La : sg_L} {s0 : sg_M} {x0 : Int} (r0 : sg_R x0) {Q : Int → Prop} (hf : fX9_isBlank x0 Q) : sg_C l G yX9_isBlank cX9_isBlank 1 (some .boolean) 1 0 0 La s0 [sg_i x0] (sg_PZ La s0 Q) := by
  refine sg_body (by decide +kernel) (Nat.le_of_ble_eq_true rfl) ?_
  intro p e s m args below meth c F hnm
  unfold fX9_isBlank at hf
  show sg_W p l e (sg_rm 1 0 0) s m args below meth c (MQ below (sg_Q (some .boolean) G La s.heap.size (sg_PZ La s0 Q)) args s 0 0 (sg_A La s.heap.size)) 1 G (sg_A La s.heap.size) La s0 0 0 0 [(0, sg_i x0)] []
  refine gw_iload_n F 0 rfl rfl dX9_isBlank_0 ?_
  refine gw_bipush F rfl dX9_isBlank_1 ?_
  refine gw_icmp_eq F (tgt := 12) dX9_isBlank_3 (by decide) r0 (by decide) (fun c1 => ?_) (fun c1 => ?_)
  · have hf := hf.1 c1
    refine gw_iconst F dX9_isBlank_12 ?_
    refine gw_goto F (tgt := 17) dX9_isBlank_13 (by decide) ?_
    exact gr_PZ F (by decide) hf (by decide) (by decide) dX9_isBlank_17
  · have hf := hf.2 c1
    refine gw_iload_n F 0 rfl rfl dX9_isBlank_6 ?_
    refine gw_bipush F rfl dX9_isBlank_7 ?_
    refine gw_icmp_ne F (tgt := 16) dX9_isBlank_9 (by decide) r0 (by decide) (fun c2 => ?_) (fun c2 => ?_)
    · have hf := hf.1 c2
      refine gw_iconst F dX9_isBlank_16 ?_
      exact gr_PZ F (by decide) hf (by decide) (by decide) dX9_isBlank_17
    · have hf := hf.2 c2
      refine gw_iconst F dX9_isBlank_12 ?_
      refine gw_goto F (tgt := 17) dX9_isBlank_13 (by decide) ?_
      exact gr_PZ F (by decide) hf (by decide) (by decide) dX9_isBlank_17

theorem dX9_isOfRun_0 : decode cX9_isOfRun 0 = .ok (.iload_n 0, 1) := by decide +kernel
theorem dX9_isOfRun_1 : decode cX9_isOfRun 1 = .ok (.bipush 97, 2) := by decide +kernel
theorem dX9_isOfRun_3 : decode cX9_isOfRun 3 = .ok (.if_icmp .lt 9, 3) := by decide +kernel
theorem dX9_isOfRun_6 : decode cX9_isOfRun 6 = .ok (.iload_n 0, 1) := by decide +kernel
theorem dX9_isOfRun_7 : decode cX9_isOfRun 7 = .ok (.bipush 122, 2) := by decide +kernel
theorem dX9_isOfRun_9 : decode cX9_isOfRun 9 = .ok (.if_icmp .le 15, 3) := by decide +kernel
theorem dX9_isOfRun_12 : decode cX9_isOfRun 12 = .ok (.iload_n 0, 1) := by decide +kernel
theorem dX9_isOfRun_13 : decode cX9_isOfRun 13 = .ok (.bipush 48, 2) := by decide +kernel
theorem dX9_isOfRun_15 : decode cX9_isOfRun 15 = .ok (.if_icmp .lt 13, 3) := by decide +kernel
theorem dX9_isOfRun_18 : decode cX9_isOfRun 18 = .ok (.iload_n 0, 1) := by decide +kernel
theorem dX9_isOfRun_19 : decode cX9_isOfRun 19 = .ok (.bipush 57, 2) := by decide +kernel
theorem dX9_isOfRun_21 : decode cX9_isOfRun 21 = .ok (.if_icmp .gt 7, 3) := by decide +kernel
theorem dX9_isOfRun_24 : decode cX9_isOfRun 24 = .ok (.iconst 1, 1) := by decide +kernel
theorem dX9_isOfRun_25 : decode cX9_isOfRun 25 = .ok (.goto 4, 3) := by decide +kernel
theorem dX9_isOfRun_28 : decode cX9_isOfRun 28 = .ok (.iconst 0, 1) := by decide +kernel
theorem dX9_isOfRun_29 : decode cX9_isOfRun 29 = .ok (.ireturn, 1) := by decide +kernel
theorem hcX9_isOfRun : yX9_isOfRun.cls ≠ "java/lang/invoke/MethodHandle" ∧ yX9_isOfRun.cls ≠ "java/lang/invoke/VarHandle" ∧ (parseMethodDescriptor yX9_isOfRun.desc).map (fun d => d.parameters.length) = some 1 := ⟨by decide +kernel, by decide +kernel, by decide +kernel⟩
def fX9_isOfRun_j12 (x0 : Int) (Q : Int → Prop)  : Prop := ((x0 < 48 → Q 0) ∧ (¬ (x0 < 48) → ((57 < x0 → Q 0) ∧ (¬ (57 < x0) → Q 1))))
def fX9_isOfRun (x0 : Int) (Q : Int → Prop) : Prop := ((x0 < 97 → (fX9_isOfRun_j12 x0 Q)) ∧ (¬ (x0 < 97) → ((x0 ≤ 122 → Q 1) ∧ (¬ (x0 ≤ 122) → (fX9_isOfRun_j12 x0 Q)))))
set_option maxHeartbeats 4000000 in
set_option maxRecDepth 100000 in
theorem CX9_isOfRun {l : Launch} {G : sg_G} {La : sg_L} {s0 : sg_M} {x0 : Int} (r0 : sg_R x0) {Q : Int → Prop} (hf : fX9_isOfRun x0 Q) : sg_C l G yX9_isOfRun cX9_isOfRun 1 (some .boolean) 1 0 0 La s0 [sg_i x0] (sg_PZ La s0 Q) := by
  refine sg_body (by decide +kernel) (Nat.le_of_ble_eq_true rfl) ?_
  intro p e s m args below meth c F hnm
  unfold fX9_isOfRun at hf
  show sg_W p l e (sg_rm 1 0 0) s m args below meth c (MQ below (sg_Q (some .boolean) G La s.heap.size (sg_PZ La s0 Q)) args s 0 0 (sg_A La s.heap.size)) 1 G (sg_A La s.heap.size) La s0 0 0 0 [(0, sg_i x0)] []
  refine gw_iload_n F 0 rfl rfl dX9_isOfRun_0 ?_
  refine gw_bipush F rfl dX9_isOfRun_1 ?_
  have J12 : (fX9_isOfRun_j12 x0 Q) → sg_W p l e (sg_rm 1 0 0) s m args below meth c (MQ below (sg_Q (some .boolean) G La s.heap.size (sg_PZ La s0 Q)) args s 0 0 (sg_A La s.heap.size)) 1 G (sg_A La s.heap.size) La s0 0 0 12 [(0, sg_i x0)] [] := by
    intro hf
    unfold fX9_isOfRun_j12 at hf
    refine gw_iload_n F 0 rfl rfl dX9_isOfRun_12 ?_
    refine gw_bipush F rfl dX9_isOfRun_13 ?_
    refine gw_icmp_lt F (tgt := 28) dX9_isOfRun_15 (by decide) r0 (by decide) (fun c1 => ?_) (fun c1 => ?_)
    · have hf := hf.1 c1
      refine gw_iconst F dX9_isOfRun_28 ?_
      exact gr_PZ F (by decide) hf (by decide) (by decide) dX9_isOfRun_29
    · have hf := hf.2 c1
      refine gw_iload_n F 0 rfl rfl dX9_isOfRun_18 ?_
      refine gw_bipush F rfl dX9_isOfRun_19 ?_
      refine gw_icmp_gt F (tgt := 28) dX9_isOfRun_21 (by decide) r0 (by decide) (fun c2 => ?_) (fun c2 => ?_)
      · have hf := hf.1 c2
        refine gw_iconst F dX9_isOfRun_28 ?_
        exact gr_PZ F (by decide) hf (by decide) (by decide) dX9_isOfRun_29
      · have hf := hf.2 c2
        refine gw_iconst F dX9_isOfRun_24 ?_
        refine gw_goto F (tgt := 29) dX9_isOfRun_25 (by decide) ?_
        exact gr_PZ F (by decide) hf (by decide) (by decide) dX9_isOfRun_29
  refine gw_icmp_lt F (tgt := 12) dX9_isOfRun_3 (by decide) r0 (by decide) (fun c3 => ?_) (fun c3 => ?_)
  · have hf := hf.1 c3
    refine gw_sub [0] rfl ?_
    exact J12  hf
  · have hf := hf.2 c3
    refine gw_iload_n F 0 rfl rfl dX9_isOfRun_6 ?_
    refine gw_bipush F rfl dX9_isOfRun_7 ?_
    refine gw_icmp_le F (tgt := 24) dX9_isOfRun_9 (by decide) r0 (by decide) (fun c4 => ?_) (fun c4 => ?_)
    · have hf := hf.1 c4
      refine gw_iconst F dX9_isOfRun_24 ?_
      refine gw_goto F (tgt := 29) dX9_isOfRun_25 (by decide) ?_
      exact gr_PZ F (by decide) hf (by decide) (by decide) dX9_isOfRun_29
    · have hf := hf.2 c4
      refine gw_sub [0] rfl ?_
      exact J12  hf

theorem dX9_isSignByte_0 : decode cX9_isSignByte 0 = .ok (.iload_n 0, 1) := by decide +kernel
theorem dX9_isSignByte_1 : decode cX9_isSignByte 1 = .ok (.bipush 59, 2) := by decide +kernel
theorem dX9_isSignByte_3 : decode cX9_isSignByte 3 = .ok (.if_icmp .eq 33, 3) := by decide +kernel
theorem dX9_isSignByte_6 : decode cX9_isSignByte 6 = .ok (.iload_n 0, 1) := by decide +kernel
theorem dX9_isSignByte_7 : decode cX9_isSignByte 7 = .ok (.bipush 45, 2) := by decide +kernel
theorem dX9_isSignByte_9 : decode cX9_isSignByte 9 = .ok (.if_icmp .eq 27, 3) := by decide +kernel
theorem dX9_isSignByte_12 : decode cX9_isSignByte 12 = .ok (.iload_n 0, 1) := by decide +kernel
theorem dX9_isSignByte_13 : decode cX9_isSignByte 13 = .ok (.bipush 60, 2) := by decide +kernel
theorem dX9_isSignByte_15 : decode cX9_isSignByte 15 = .ok (.if_icmp .lt 9, 3) := by decide +kernel
theorem dX9_isSignByte_18 : decode cX9_isSignByte 18 = .ok (.iload_n 0, 1) := by decide +kernel
theorem dX9_isSignByte_19 : decode cX9_isSignByte 19 = .ok (.bipush 62, 2) := by decide +kernel
theorem dX9_isSignByte_21 : decode cX9_isSignByte 21 = .ok (.if_icmp .le 15, 3) := by decide +kernel
theorem dX9_isSignByte_24 : decode cX9_isSignByte 24 = .ok (.iload_n 0, 1) := by decide +kernel
theorem dX9_isSignByte_25 : decode cX9_isSignByte 25 = .ok (.bipush 40, 2) := by decide +kernel
theorem dX9_isSignByte_27 : decode cX9_isSignByte 27 = .ok (.if_icmp .eq 9, 3) := by decide +kernel
theorem dX9_isSignByte_30 : decode cX9_isSignByte 30 = .ok (.iload_n 0, 1) := by decide +kernel
theorem dX9_isSignByte_31 : decode cX9_isSignByte 31 = .ok (.bipush 41, 2) := by decide +kernel
theorem dX9_isSignByte_33 : decode cX9_isSignByte 33 = .ok (.if_icmp .ne 7, 3) := by decide +kernel
theorem dX9_isSignByte_36 : decode cX9_isSignByte 36 = .ok (.iconst 1, 1) := by decide +kernel
theorem dX9_isSignByte_37 : decode cX9_isSignByte 37 = .ok (.goto 4, 3) := by decide +kernel
theorem dX9_isSignByte_40 : decode cX9_isSignByte 40 = .ok (.iconst 0, 1) := by decide +kernel
theorem dX9_isSignByte_41 : decode cX9_isSignByte 41 = .ok (.ireturn, 1) := by decide +kernel
theorem hcX9_isSignByte : yX9_isSignByte.cls ≠ "java/lang/invoke/MethodHandle" ∧ yX9_isSignByte.cls ≠ "java/lang/invoke/VarHandle" ∧ (parseMethodDescriptor yX9_isSignByte.desc).map (fun d => d.parameters.length) = some 1 := ⟨by decide +kernel, by decide +kernel, by decide +kernel⟩
def fX9_isSignByte_j24 (x0 : Int) (Q : Int → Prop)  : Prop := ((x0 = 40 → Q 1) ∧ (¬ (x0 = 40) → ((x0 ≠ 41 → Q 0) ∧ (x0 = 41 → Q 1))))
def fX9_isSignByte (x0 : Int) (Q : Int → Prop) : Prop := ((x0 = 59 → Q 1) ∧ (¬ (x0 = 59) → ((x0 = 45 → Q 1) ∧ (¬ (x0 = 45) → ((x0 < 60 → (fX9_isSignByte_j24 x0 Q)) ∧ (¬ (x0 < 60) → ((x0 ≤ 62 → Q 1) ∧ (¬ (x0 ≤ 62) → (fX9_isSignByte_j24 x0 Q)))))))))
set_option maxHeartbeats 4000000 in
set_option maxRecDepth 100000 in
theorem CX9_isSignByte {l : Launch} {G : sg_G} {La : sg_L} {s0 : sg_M} {x0 : Int} (r0 : sg_R x0) {Q : Int → Prop} (hf : fX9_isSignByte x0 Q) : sg_C l G yX9_isSignByte cX9_isSignByte 1 (some .boolean) 1 0 0 La s0 [sg_i x0] (sg_PZ La s0 Q) := by
  refine sg_body (by decide +kernel) (Nat.le_of_ble_eq_true rfl) ?_
  intro p e s m args below meth c F hnm
  unfold fX9_isSignByte at hf
  show sg_W p l e (sg_rm 1 0 0) s m args below meth c (MQ below (sg_Q (some .boolean) G La s.heap.size (sg_PZ La s0 Q)) args s 0 0 (sg_A La s.heap.size)) 1 G (sg_A La s.heap.size) La s0 0 0 0 [(0, sg_i x0)] []
  refine gw_iload_n F 0 rfl rfl dX9_isSignByte_0 ?_
  refine gw_bipush F rfl dX9_isSignByte_1 ?_
  refine gw_icmp_eq F (tgt := 36) dX9_isSignByte_3 (by decide) r0 (by decide) (fun c1 => ?_) (fun c1 => ?_)
  · have hf := hf.1 c1
    refine gw_iconst F dX9_isSignByte_36 ?_
    refine gw_goto F (tgt := 41) dX9_isSignByte_37 (by decide) ?_
    exact gr_PZ F (by decide) hf (by decide) (by decide) dX9_isSignByte_41
  · have hf := hf.2 c1
    refine gw_iload_n F 0 rfl rfl dX9_isSignByte_6 ?_
    refine gw_bipush F rfl dX9_isSignByte_7 ?_
    refine gw_icmp_eq F (tgt := 36) dX9_isSignByte_9 (by decide) r0 (by decide) (fun c2 => ?_) (fun c2 => ?_)
    · have hf := hf.1 c2
      refine gw_iconst F dX9_isSignByte_36 ?_
      refine gw_goto F (tgt := 41) dX9_isSignByte_37 (by decide) ?_
      exact gr_PZ F (by decide) hf (by decide) (by decide) dX9_isSignByte_41
    · have hf := hf.2 c2
      refine gw_iload_n F 0 rfl rfl dX9_isSignByte_12 ?_
      refine gw_bipush F rfl dX9_isSignByte_13 ?_
      have J24 : (fX9_isSignByte_j24 x0 Q) → sg_W p l e (sg_rm 1 0 0) s m args below meth c (MQ below (sg_Q (some .boolean) G La s.heap.size (sg_PZ La s0 Q)) args s 0 0 (sg_A La s.heap.size)) 1 G (sg_A La s.heap.size) La s0 0 0 24 [(0, sg_i x0)] [] := by
        intro hf
        unfold fX9_isSignByte_j24 at hf
        refine gw_iload_n F 0 rfl rfl dX9_isSignByte_24 ?_
        refine gw_bipush F rfl dX9_isSignByte_25 ?_
        refine gw_icmp_eq F (tgt := 36) dX9_isSignByte_27 (by decide) r0 (by decide) (fun c3 => ?_) (fun c3 => ?_)
        · have hf := hf.1 c3
          refine gw_iconst F dX9_isSignByte_36 ?_
          refine gw_goto F (tgt := 41) dX9_isSignByte_37 (by decide) ?_
          exact gr_PZ F (by decide) hf (by decide) (by decide) dX9_isSignByte_41
        · have hf := hf.2 c3
          refine gw_iload_n F 0 rfl rfl dX9_isSignByte_30 ?_
          refine gw_bipush F rfl dX9_isSignByte_31 ?_
          refine gw_icmp_ne F (tgt := 40) dX9_isSignByte_33 (by decide) r0 (by decide) (fun c4 => ?_) (fun c4 => ?_)
          · have hf := hf.1 c4
            refine gw_iconst F dX9_isSignByte_40 ?_
            exact gr_PZ F (by decide) hf (by decide) (by decide) dX9_isSignByte_41
          · have hf := hf.2 c4
            refine gw_iconst F dX9_isSignByte_36 ?_
            refine gw_goto F (tgt := 41) dX9_isSignByte_37 (by decide) ?_
            exact gr_PZ F (by decide) hf (by decide) (by decide) dX9_isSignByte_41
      refine gw_icmp_lt F (tgt := 24) dX9_isSignByte_15 (by decide) r0 (by decide) (fun c5 => ?_) (fun c5 => ?_)
      · have hf := hf.1 c5
        refine gw_sub [0] rfl ?_
        exact J24  hf
      · have hf := hf.2 c5
        refine gw_iload_n F 0 rfl rfl dX9_isSignByte_18 ?_
        refine gw_bipush F rfl dX9_isSignByte_19 ?_
        refine gw_icmp_le F (tgt := 36) dX9_isSignByte_21 (by decide) r0 (by decide) (fun c6 => ?_) (fun c6 => ?_)
        · have hf := hf.1 c6
          refine gw_iconst F dX9_isSignByte_36 ?_
          refine gw_goto F (tgt := 41) dX9_isSignByte_37 (by decide) ?_
          exact gr_PZ F (by decide) hf (by decide) (by decide) dX9_isSignByte_41
        · have hf := hf.2 c6
          refine gw_sub [0] rfl ?_
          exact J24  hf

theorem dX9_kindOfRun_0 : decode cX9_kindOfRun 0 = .ok (.iload_n 0, 1) := by decide +kernel
theorem dX9_kindOfRun_1 : decode cX9_kindOfRun 1 = .ok (.ifCond .ne 10, 3) := by decide +kernel
theorem dX9_kindOfRun_4 : decode cX9_kindOfRun 4 = .ok (.iload_n 1, 1) := by decide +kernel
theorem dX9_kindOfRun_5 : decode cX9_kindOfRun 5 = .ok (.iconst 4, 1) := by decide +kernel
theorem dX9_kindOfRun_6 : decode cX9_kindOfRun 6 = .ok (.if_icmp .gt 5, 3) := by decide +kernel
theorem dX9_kindOfRun_9 : decode cX9_kindOfRun 9 = .ok (.iconst 2, 1) := by decide +kernel
theorem dX9_kindOfRun_10 : decode cX9_kindOfRun 10 = .ok (.ireturn, 1) := by decide +kernel
theorem dX9_kindOfRun_11 : decode cX9_kindOfRun 11 = .ok (.iload_n 1, 1) := by decide +kernel
theorem dX9_kindOfRun_12 : decode cX9_kindOfRun 12 = .ok (.ifCond .ne 13, 3) := by decide +kernel
theorem dX9_kindOfRun_15 : decode cX9_kindOfRun 15 = .ok (.iload_n 0, 1) := by decide +kernel
theorem dX9_kindOfRun_16 : decode cX9_kindOfRun 16 = .ok (.bipush 6, 2) := by decide +kernel
theorem dX9_kindOfRun_18 : decode cX9_kindOfRun 18 = .ok (.if_icmp .gt 7, 3) := by decide +kernel
theorem dX9_kindOfRun_21 : decode cX9_kindOfRun 21 = .ok (.iconst 1, 1) := by decide +kernel
theorem dX9_kindOfRun_22 : decode cX9_kindOfRun 22 = .ok (.goto 4, 3) := by decide +kernel
theorem dX9_kindOfRun_25 : decode cX9_kindOfRun 25 = .ok (.iconst 4, 1) := by decide +kernel
theorem dX9_kindOfRun_26 : decode cX9_kindOfRun 26 = .ok (.ireturn, 1) := by decide +kernel
theorem hcX9_kindOfRun : yX9_kindOfRun.cls ≠ "java/lang/invoke/MethodHandle" ∧ yX9_kindOfRun.cls ≠ "java/lang/invoke/VarHandle" ∧ (parseMethodDescriptor yX9_kindOfRun.desc).map (fun d => d.parameters.length) = some 2 := ⟨by decide +kernel, by decide +kernel, by decide +kernel⟩
def fX9_kindOfRun_j11 (x0 : Int) (x1 : Int) (Q : Int → Prop)  : Prop := ((x1 ≠ 0 → Q 4) ∧ (x1 = 0 → ((6 < x0 → Q 4) ∧ (¬ (6 < x0) → Q 1))))
def fX9_kindOfRun (x0 : Int) (x1 : Int) (Q : Int → Prop) : Prop := ((x0 ≠ 0 → (fX9_kindOfRun_j11 x0 x1 Q)) ∧ (x0 = 0 → ((4 < x1 → (fX9_kindOfRun_j11 x0 x1 Q)) ∧ (¬ (4 < x1) → Q 2))))
set_option maxHeartbeats 4000000 in
set_option maxRecDepth 100000 in
theorem CX9_kindOfRun {l : Launch} {G : sg_G} {La : sg_L} {s0 : sg_M} {x0 : Int} (r0 : sg_R x0) {x1 : Int} (r1 : sg_R x1) {Q : Int → Prop} (hf : fX9_kindOfRun x0 x1 Q) : sg_C l G yX9_kindOfRun cX9_kindOfRun 2 (some .int) 1 0 0 La s0 [sg_i x0, sg_i x1] (sg_PI La s0 Q) := by
  refine sg_body (by decide +kernel) (Nat.le_of_ble_eq_true rfl) ?_
  intro p e s m args below meth c F hnm
  unfold fX9_kindOfRun at hf
  show sg_W p l e (sg_rm 1 0 0) s m args below meth c (MQ below (sg_Q (some .int) G La s.heap.size (sg_PI La s0 Q)) args s 0 0 (sg_A La s.heap.size)) 2 G (sg_A La s.heap.size) La s0 0 0 0 [(0, sg_i x0), (1, sg_i x1)] []
  refine gw_iload_n F 0 rfl rfl dX9_kindOfRun_0 ?_
  have J11 : (fX9_kindOfRun_j11 x0 x1 Q) → sg_W p l e (sg_rm 1 0 0) s m args below meth c (MQ below (sg_Q (some .int) G La s.heap.size (sg_PI La s0 Q)) args s 0 0 (sg_A La s.heap.size)) 2 G (sg_A La s.heap.size) La s0 0 0 11 [(0, sg_i x0), (1, sg_i x1)] [] := by
    intro hf
    unfold fX9_kindOfRun_j11 at hf
    refine gw_iload_n F 1 rfl rfl dX9_kindOfRun_11 ?_
    refine gw_if_ne F (tgt := 25) dX9_kindOfRun_12 (by decide) r1 (fun c1 => ?_) (fun c1 => ?_)
    · have hf := hf.1 c1
      refine gw_iconst F dX9_kindOfRun_25 ?_
      exact gr_PI F (by decide) hf (by decide) (by decide) dX9_kindOfRun_26
    · have hf := hf.2 c1
      refine gw_iload_n F 0 rfl rfl dX9_kindOfRun_15 ?_
      refine gw_bipush F rfl dX9_kindOfRun_16 ?_
      refine gw_icmp_gt F (tgt := 25) dX9_kindOfRun_18 (by decide) r0 (by decide) (fun c2 => ?_) (fun c2 => ?_)
      · have hf := hf.1 c2
        refine gw_iconst F dX9_kindOfRun_25 ?_
        exact gr_PI F (by decide) hf (by decide) (by decide) dX9_kindOfRun_26
      · have hf := hf.2 c2
        refine gw_iconst F dX9_kindOfRun_21 ?_
        refine gw_goto F (tgt := 26) dX9_kindOfRun_22 (by decide) ?_
        exact gr_PI F (by decide) hf (by decide) (by decide) dX9_kindOfRun_26
  refine gw_if_ne F (tgt := 11) dX9_kindOfRun_1 (by decide) r0 (fun c3 => ?_) (fun c3 => ?_)
  · have hf := hf.1 c3
    refine gw_sub [0, 1] rfl ?_
    exact J11  hf
  · have hf := hf.2 c3
    refine gw_iload_n F 1 rfl rfl dX9_kindOfRun_4 ?_
    refine gw_iconst F dX9_kindOfRun_5 ?_
    refine gw_icmp_gt F (tgt := 11) dX9_kindOfRun_6 (by decide) r1 (by decide) (fun c4 => ?_) (fun c4 => ?_)
    · have hf := hf.1 c4
      refine gw_sub [0, 1] rfl ?_
      exact J11  hf
    · have hf := hf.2 c4
      refine gw_iconst F dX9_kindOfRun_9 ?_
      exact gr_PI F (by decide) hf (by decide) (by decide) dX9_kindOfRun_10

theorem dX9_advance_0 : decode cX9_advance 0 = .ok (.aload_n 0, 1) := by decide +kernel
theorem dX9_advance_1 : decode cX9_advance 1 = .ok (.aload_n 0, 1) := by decide +kernel
theorem dX9_advance_2 : decode cX9_advance 2 = .ok (.getfield 19, 3) := by decide +kernel
theorem dX9_advance_5 : decode cX9_advance 5 = .ok (.putfield 16, 3) := by decide +kernel
theorem dX9_advance_8 : decode cX9_advance 8 = .ok (.aload_n 0, 1) := by decide +kernel
theorem dX9_advance_9 : decode cX9_advance 9 = .ok (.getfield 16, 3) := by decide +kernel
theorem dX9_advance_12 : decode cX9_advance 12 = .ok (.aload_n 0, 1) := by decide +kernel
theorem dX9_advance_13 : decode cX9_advance 13 = .ok (.getfield 7, 3) := by decide +kernel
theorem dX9_advance_16 : decode cX9_advance 16 = .ok (.if_icmp .ge 33, 3) := by decide +kernel
theorem dX9_advance_19 : decode cX9_advance 19 = .ok (.aload_n 0, 1) := by decide +kernel
theorem dX9_advance_20 : decode cX9_advance 20 = .ok (.getfield 31, 3) := by decide +kernel
theorem dX9_advance_23 : decode cX9_advance 23 = .ok (.aload_n 0, 1) := by decide +kernel
theorem dX9_advance_24 : decode cX9_advance 24 = .ok (.getfield 16, 3) := by decide +kernel
theorem dX9_advance_27 : decode cX9_advance 27 = .ok (.invokevirtual 38, 3) := by decide +kernel
theorem dX9_advance_30 : decode cX9_advance 30 = .ok (.invokestatic 44, 3) := by decide +kernel
theorem dX9_advance_33 : decode cX9_advance 33 = .ok (.ifCond .eq 16, 3) := by decide +kernel
theorem dX9_advance_36 : decode cX9_advance 36 = .ok (.aload_n 0, 1) := by decide +kernel
theorem dX9_advance_37 : decode cX9_advance 37 = .ok (.dup, 1) := by decide +kernel
theorem dX9_advance_38 : decode cX9_advance 38 = .ok (.getfield 16, 3) := by decide +kernel
theorem dX9_advance_41 : decode cX9_advance 41 = .ok (.iconst 1, 1) := by decide +kernel
theorem dX9_advance_42 : decode cX9_advance 42 = .ok (.iadd, 1) := by decide +kernel
theorem dX9_advance_43 : decode cX9_advance 43 = .ok (.putfield 16, 3) := by decide +kernel
theorem dX9_advance_46 : decode cX9_advance 46 = .ok (.goto (-38), 3) := by decide +kernel
theorem dX9_advance_49 : decode cX9_advance 49 = .ok (.iconst 0, 1) := by decide +kernel
theorem dX9_advance_50 : decode cX9_advance 50 = .ok (.istore_n 1, 1) := by decide +kernel
theorem dX9_advance_51 : decode cX9_advance 51 = .ok (.iconst 0, 1) := by decide +kernel
theorem dX9_advance_52 : decode cX9_advance 52 = .ok (.istore_n 2, 1) := by decide +kernel
theorem dX9_advance_53 : decode cX9_advance 53 = .ok (.aload_n 0, 1) := by decide +kernel
theorem dX9_advance_54 : decode cX9_advance 54 = .ok (.iconst 0, 1) := by decide +kernel
theorem dX9_advance_55 : decode cX9_advance 55 = .ok (.putfield 22, 3) := by decide +kernel
theorem dX9_advance_58 : decode cX9_advance 58 = .ok (.aload_n 0, 1) := by decide +kernel
theorem dX9_advance_59 : decode cX9_advance 59 = .ok (.aload_n 0, 1) := by decide +kernel
theorem dX9_advance_60 : decode cX9_advance 60 = .ok (.getfield 16, 3) := by decide +kernel
theorem dX9_advance_63 : decode cX9_advance 63 = .ok (.putfield 19, 3) := by decide +kernel
theorem dX9_advance_66 : decode cX9_advance 66 = .ok (.aload_n 0, 1) := by decide +kernel
theorem dX9_advance_67 : decode cX9_advance 67 = .ok (.getfield 19, 3) := by decide +kernel
theorem dX9_advance_70 : decode cX9_advance 70 = .ok (.aload_n 0, 1) := by decide +kernel
theorem dX9_advance_71 : decode cX9_advance 71 = .ok (.getfield 31, 3) := by decide +kernel
theorem dX9_advance_74 : decode cX9_advance 74 = .ok (.getfield 48, 3) := by decide +kernel
theorem dX9_advance_77 : decode cX9_advance 77 = .ok (.if_icmp .ge 88, 3) := by decide +kernel
theorem dX9_advance_80 : decode cX9_advance 80 = .ok (.aload_n 0, 1) := by decide +kernel
theorem dX9_advance_81 : decode cX9_advance 81 = .ok (.getfield 31, 3) := by decide +kernel
theorem dX9_advance_84 : decode cX9_advance 84 = .ok (.aload_n 0, 1) := by decide +kernel
theorem dX9_advance_85 : decode cX9_advance 85 = .ok (.getfield 19, 3) := by decide +kernel
theorem dX9_advance_88 : decode cX9_advance 88 = .ok (.invokevirtual 38, 3) := by decide +kernel
theorem dX9_advance_91 : decode cX9_advance 91 = .ok (.invokestatic 51, 3) := by decide +kernel
theorem dX9_advance_94 : decode cX9_advance 94 = .ok (.ifCond .eq 71, 3) := by decide +kernel
theorem dX9_advance_97 : decode cX9_advance 97 = .ok (.aload_n 0, 1) := by decide +kernel
theorem dX9_advance_98 : decode cX9_advance 98 = .ok (.getfield 31, 3) := by decide +kernel
theorem dX9_advance_101 : decode cX9_advance 101 = .ok (.aload_n 0, 1) := by decide +kernel
theorem dX9_advance_102 : decode cX9_advance 102 = .ok (.getfield 19, 3) := by decide +kernel
theorem dX9_advance_105 : decode cX9_advance 105 = .ok (.invokevirtual 38, 3) := by decide +kernel
theorem dX9_advance_108 : decode cX9_advance 108 = .ok (.istore_n 3, 1) := by decide +kernel
theorem dX9_advance_109 : decode cX9_advance 109 = .ok (.iload_n 3, 1) := by decide +kernel
theorem dX9_advance_110 : decode cX9_advance 110 = .ok (.bipush 97, 2) := by decide +kernel
theorem dX9_advance_112 : decode cX9_advance 112 = .ok (.if_icmp .lt 9, 3) := by decide +kernel
theorem dX9_advance_115 : decode cX9_advance 115 = .ok (.iinc 1 1, 3) := by decide +kernel
theorem dX9_advance_118 : decode cX9_advance 118 = .ok (.goto 34, 3) := by decide +kernel
theorem dX9_advance_121 : decode cX9_advance 121 = .ok (.iinc 2 1, 3) := by decide +kernel
theorem dX9_advance_124 : decode cX9_advance 124 = .ok (.aload_n 0, 1) := by decide +kernel
theorem dX9_advance_125 : decode cX9_advance 125 = .ok (.iload_n 2, 1) := by decide +kernel
theorem dX9_advance_126 : decode cX9_advance 126 = .ok (.iconst 4, 1) := by decide +kernel
theorem dX9_advance_127 : decode cX9_advance 127 = .ok (.if_icmp .gt 18, 3) := by decide +kernel
theorem dX9_advance_130 : decode cX9_advance 130 = .ok (.aload_n 0, 1) := by decide +kernel
theorem dX9_advance_131 : decode cX9_advance 131 = .ok (.getfield 22, 3) := by decide +kernel
theorem dX9_advance_134 : decode cX9_advance 134 = .ok (.bipush 10, 2) := by decide +kernel
theorem dX9_advance_136 : decode cX9_advance 136 = .ok (.imul, 1) := by decide +kernel
theorem dX9_advance_137 : decode cX9_advance 137 = .ok (.iload_n 3, 1) := by decide +kernel
theorem dX9_advance_138 : decode cX9_advance 138 = .ok (.iadd, 1) := by decide +kernel
theorem dX9_advance_139 : decode cX9_advance 139 = .ok (.bipush 48, 2) := by decide +kernel
theorem dX9_advance_141 : decode cX9_advance 141 = .ok (.isub, 1) := by decide +kernel
theorem dX9_advance_142 : decode cX9_advance 142 = .ok (.goto 7, 3) := by decide +kernel
theorem dX9_advance_145 : decode cX9_advance 145 = .ok (.aload_n 0, 1) := by decide +kernel
theorem dX9_advance_146 : decode cX9_advance 146 = .ok (.getfield 22, 3) := by decide +kernel
theorem dX9_advance_149 : decode cX9_advance 149 = .ok (.putfield 22, 3) := by decide +kernel
theorem dX9_advance_152 : decode cX9_advance 152 = .ok (.aload_n 0, 1) := by decide +kernel
theorem dX9_advance_153 : decode cX9_advance 153 = .ok (.dup, 1) := by decide +kernel
theorem dX9_advance_154 : decode cX9_advance 154 = .ok (.getfield 19, 3) := by decide +kernel
theorem dX9_advance_157 : decode cX9_advance 157 = .ok (.iconst 1, 1) := by decide +kernel
theorem dX9_advance_158 : decode cX9_advance 158 = .ok (.iadd, 1) := by decide +kernel
theorem dX9_advance_159 : decode cX9_advance 159 = .ok (.putfield 19, 3) := by decide +kernel
theorem dX9_advance_162 : decode cX9_advance 162 = .ok (.goto (-96), 3) := by decide +kernel
theorem dX9_advance_165 : decode cX9_advance 165 = .ok (.aload_n 0, 1) := by decide +kernel
theorem dX9_advance_166 : decode cX9_advance 166 = .ok (.getfield 16, 3) := by decide +kernel
theorem dX9_advance_169 : decode cX9_advance 169 = .ok (.aload_n 0, 1) := by decide +kernel
theorem dX9_advance_170 : decode cX9_advance 170 = .ok (.getfield 7, 3) := by decide +kernel
theorem dX9_advance_173 : decode cX9_advance 173 = .ok (.if_icmp .lt 33, 3) := by decide +kernel
theorem dX9_advance_176 : decode cX9_advance 176 = .ok (.aload_n 0, 1) := by decide +kernel
theorem dX9_advance_177 : decode cX9_advance 177 = .ok (.getfield 31, 3) := by decide +kernel
theorem dX9_advance_180 : decode cX9_advance 180 = .ok (.getfield 48, 3) := by decide +kernel
theorem dX9_advance_183 : decode cX9_advance 183 = .ok (.aload_n 0, 1) := by decide +kernel
theorem dX9_advance_184 : decode cX9_advance 184 = .ok (.getfield 7, 3) := by decide +kernel
theorem dX9_advance_187 : decode cX9_advance 187 = .ok (.if_icmp .le 19, 3) := by decide +kernel
theorem dX9_advance_190 : decode cX9_advance 190 = .ok (.aload_n 0, 1) := by decide +kernel
theorem dX9_advance_191 : decode cX9_advance 191 = .ok (.aload_n 0, 1) := by decide +kernel
theorem dX9_advance_192 : decode cX9_advance 192 = .ok (.getfield 7, 3) := by decide +kernel
theorem dX9_advance_195 : decode cX9_advance 195 = .ok (.putfield 16, 3) := by decide +kernel
theorem dX9_advance_198 : decode cX9_advance 198 = .ok (.aload_n 0, 1) := by decide +kernel
theorem dX9_advance_199 : decode cX9_advance 199 = .ok (.iconst 4, 1) := by decide +kernel
theorem dX9_advance_200 : decode cX9_advance 200 = .ok (.putfield 13, 3) := by decide +kernel
theorem dX9_advance_203 : decode cX9_advance 203 = .ok (.goto 103, 3) := by decide +kernel
theorem dX9_advance_206 : decode cX9_advance 206 = .ok (.aload_n 0, 1) := by decide +kernel
theorem dX9_advance_207 : decode cX9_advance 207 = .ok (.getfield 16, 3) := by decide +kernel
theorem dX9_advance_210 : decode cX9_advance 210 = .ok (.aload_n 0, 1) := by decide +kernel
theorem dX9_advance_211 : decode cX9_advance 211 = .ok (.getfield 31, 3) := by decide +kernel
theorem dX9_advance_214 : decode cX9_advance 214 = .ok (.getfield 48, 3) := by decide +kernel
theorem dX9_advance_217 : decode cX9_advance 217 = .ok (.if_icmp .lt 22, 3) := by decide +kernel
theorem dX9_advance_220 : decode cX9_advance 220 = .ok (.aload_n 0, 1) := by decide +kernel
theorem dX9_advance_221 : decode cX9_advance 221 = .ok (.aload_n 0, 1) := by decide +kernel
theorem dX9_advance_222 : decode cX9_advance 222 = .ok (.getfield 31, 3) := by decide +kernel
theorem dX9_advance_225 : decode cX9_advance 225 = .ok (.getfield 48, 3) := by decide +kernel
theorem dX9_advance_228 : decode cX9_advance 228 = .ok (.putfield 16, 3) := by decide +kernel
theorem dX9_advance_231 : decode cX9_advance 231 = .ok (.aload_n 0, 1) := by decide +kernel
theorem dX9_advance_232 : decode cX9_advance 232 = .ok (.iconst 0, 1) := by decide +kernel
theorem dX9_advance_233 : decode cX9_advance 233 = .ok (.putfield 13, 3) := by decide +kernel
theorem dX9_advance_236 : decode cX9_advance 236 = .ok (.goto 70, 3) := by decide +kernel
theorem dX9_advance_239 : decode cX9_advance 239 = .ok (.aload_n 0, 1) := by decide +kernel
theorem dX9_advance_240 : decode cX9_advance 240 = .ok (.getfield 19, 3) := by decide +kernel
theorem dX9_advance_243 : decode cX9_advance 243 = .ok (.aload_n 0, 1) := by decide +kernel
theorem dX9_advance_244 : decode cX9_advance 244 = .ok (.getfield 16, 3) := by decide +kernel
theorem dX9_advance_247 : decode cX9_advance 247 = .ok (.if_icmp .le 15, 3) := by decide +kernel
theorem dX9_advance_250 : decode cX9_advance 250 = .ok (.aload_n 0, 1) := by decide +kernel
theorem dX9_advance_251 : decode cX9_advance 251 = .ok (.iload_n 1, 1) := by decide +kernel
theorem dX9_advance_252 : decode cX9_advance 252 = .ok (.iload_n 2, 1) := by decide +kernel
theorem dX9_advance_253 : decode cX9_advance 253 = .ok (.invokestatic 54, 3) := by decide +kernel
theorem dX9_advance_256 : decode cX9_advance 256 = .ok (.putfield 13, 3) := by decide +kernel
theorem dX9_advance_259 : decode cX9_advance 259 = .ok (.goto 47, 3) := by decide +kernel
theorem dX9_advance_262 : decode cX9_advance 262 = .ok (.aload_n 0, 1) := by decide +kernel
theorem dX9_advance_263 : decode cX9_advance 263 = .ok (.aload_n 0, 1) := by decide +kernel
theorem dX9_advance_264 : decode cX9_advance 264 = .ok (.getfield 31, 3) := by decide +kernel
theorem dX9_advance_267 : decode cX9_advance 267 = .ok (.aload_n 0, 1) := by decide +kernel
theorem dX9_advance_268 : decode cX9_advance 268 = .ok (.getfield 16, 3) := by decide +kernel
theorem dX9_advance_271 : decode cX9_advance 271 = .ok (.invokevirtual 38, 3) := by decide +kernel
theorem dX9_advance_274 : decode cX9_advance 274 = .ok (.putfield 22, 3) := by decide +kernel
theorem dX9_advance_277 : decode cX9_advance 277 = .ok (.aload_n 0, 1) := by decide +kernel
theorem dX9_advance_278 : decode cX9_advance 278 = .ok (.aload_n 0, 1) := by decide +kernel
theorem dX9_advance_279 : decode cX9_advance 279 = .ok (.getfield 22, 3) := by decide +kernel
theorem dX9_advance_282 : decode cX9_advance 282 = .ok (.invokestatic 58, 3) := by decide +kernel
theorem dX9_advance_285 : decode cX9_advance 285 = .ok (.ifCond .eq 7, 3) := by decide +kernel
theorem dX9_advance_288 : decode cX9_advance 288 = .ok (.iconst 3, 1) := by decide +kernel
theorem dX9_advance_289 : decode cX9_advance 289 = .ok (.goto 4, 3) := by decide +kernel
theorem dX9_advance_292 : decode cX9_advance 292 = .ok (.iconst 4, 1) := by decide +kernel
theorem dX9_advance_293 : decode cX9_advance 293 = .ok (.putfield 13, 3) := by decide +kernel
theorem dX9_advance_296 : decode cX9_advance 296 = .ok (.aload_n 0, 1) := by decide +kernel
theorem dX9_advance_297 : decode cX9_advance 297 = .ok (.aload_n 0, 1) := by decide +kernel
theorem dX9_advance_298 : decode cX9_advance 298 = .ok (.getfield 16, 3) := by decide +kernel
theorem dX9_advance_301 : decode cX9_advance 301 = .ok (.iconst 1, 1) := by decide +kernel
theorem dX9_advance_302 : decode cX9_advance 302 = .ok (.iadd, 1) := by decide +kernel
theorem dX9_advance_303 : decode cX9_advance 303 = .ok (.putfield 19, 3) := by decide +kernel
theorem dX9_advance_306 : decode cX9_advance 306 = .ok (.return_, 1) := by decide +kernel
theorem hcX9_advance : yX9_advance.cls ≠ "java/lang/invoke/MethodHandle" ∧ yX9_advance.cls ≠ "java/lang/invoke/VarHandle" ∧ (parseMethodDescriptor yX9_advance.desc).map (fun d => d.parameters.length) = some 0 := ⟨by decide +kernel, by decide +kernel, by decide +kernel⟩
def fX9_advance_L8  (k49 : sg_M → Prop) : Nat → sg_M → Prop
  | 0, _ => False
  | n_8 + 1, s_8 => (((s_8 3 1) ≤ (s_8 3 3) → k49 s_8) ∧ (¬ ((s_8 3 1) ≤ (s_8 3 3)) → fX8_byteAt s_8 (s_8 3 3) (fun u9 => fX9_isBlank u9 (fun u11 => ((u11 = 0 → k49 s_8) ∧ (¬ (u11 = 0) → sg_R ((s_8 3 3) + 1) ∧ ∀ s16 : sg_M, s16 = sg_up s_8 3 3 ((s_8 3 3) + 1) → (fX9_advance_L8  k49 n_8) s16))))))
def fX9_advance_j152  (k66 : sg_M → Int → Int → Prop) (s_152 : sg_M) (x1_152 : Int) (x2_152 : Int) : Prop := sg_R ((s_152 3 4) + 1) ∧ ∀ s41 : sg_M, s41 = sg_up s_152 3 4 ((s_152 3 4) + 1) → k66 s41 x1_152 x2_152
def fX9_advance_j149 (s_66 : sg_M) (x1_66 : Int) (x2_66 : Int) (k152 : sg_M → Int → Int → Prop) (y0_149 : Int) : Prop := ∀ s44 : sg_M, s44 = sg_up s_66 3 5 y0_149 → sg_R (x2_66 + 1) ∧ k152 s44 x1_66 (x2_66 + 1)
def fX9_advance_L66  (k165 : sg_M → Int → Int → Prop) : Nat → sg_M → Int → Int → Prop
  | 0, _, _, _ => False
  | n_66 + 1, s_66, x1_66, x2_66 => (((s_66 1 1) ≤ (s_66 3 4) → k165 s_66 x1_66 x2_66) ∧ (¬ ((s_66 1 1) ≤ (s_66 3 4)) → fX8_byteAt s_66 (s_66 3 4) (fun u30 => fX9_isOfRun u30 (fun u32 => ((u32 = 0 → k165 s_66 x1_66 x2_66) ∧ (¬ (u32 = 0) → fX8_byteAt s_66 (s_66 3 4) (fun u37 => ((u37 < 97 → sg_R (x2_66 + 1) ∧ ((4 < (x2_66 + 1) → (fX9_advance_j149 s_66 x1_66 x2_66 (fX9_advance_j152  (fX9_advance_L66  k165 n_66))) (s_66 3 5)) ∧ (¬ (4 < (x2_66 + 1)) → sg_R ((((s_66 3 5) * 10) + u37) - 48) ∧ (fX9_advance_j149 s_66 x1_66 x2_66 (fX9_advance_j152  (fX9_advance_L66  k165 n_66))) ((((s_66 3 5) * 10) + u37) - 48)))) ∧ (¬ (u37 < 97) → sg_R (x1_66 + 1) ∧ (fX9_advance_j152  (fX9_advance_L66  k165 n_66)) s_66 (x1_66 + 1) x2_66)))))))))
def fX9_advance_j206 (s_165e66 : sg_M) (x1_165e66 : Int) (x2_165e66 : Int) (Q : sg_M → Prop)  : Prop := (((s_165e66 3 3) < (s_165e66 1 1) → (((s_165e66 3 4) ≤ (s_165e66 3 3) → fX8_byteAt s_165e66 (s_165e66 3 3) (fun u65 => ∀ s67 : sg_M, s67 = sg_up s_165e66 3 5 u65 → fX9_isSignByte (s67 3 5) (fun u70 => ((u70 = 0 → ∀ s73 : sg_M, s73 = sg_up s67 3 2 4 → sg_R ((s73 3 3) + 1) ∧ ∀ s77 : sg_M, s77 = sg_up s73 3 4 ((s73 3 3) + 1) → Q s77) ∧ (¬ (u70 = 0) → ∀ s79 : sg_M, s79 = sg_up s67 3 2 3 → sg_R ((s79 3 3) + 1) ∧ ∀ s83 : sg_M, s83 = sg_up s79 3 4 ((s79 3 3) + 1) → Q s83))))) ∧ (¬ ((s_165e66 3 4) ≤ (s_165e66 3 3)) → fX9_kindOfRun x1_165e66 x2_165e66 (fun u85 => ∀ s87 : sg_M, s87 = sg_up s_165e66 3 2 u85 → Q s87)))) ∧ (¬ ((s_165e66 3 3) < (s_165e66 1 1)) → ∀ s91 : sg_M, s91 = sg_up s_165e66 3 3 (s_165e66 1 1) → ∀ s93 : sg_M, s93 = sg_up s91 3 2 0 → Q s93))
def fX9_advance (s0 : sg_M) (Q : sg_M → Prop) : Prop := ∀ s2 : sg_M, s2 = sg_up s0 3 3 (s0 3 4) → (∃ n18 : Nat, fX9_advance_L8  (fun s_49e8 => ∀ s19 : sg_M, s19 = sg_up s_49e8 3 5 0 → ∀ s22 : sg_M, s22 = sg_up s19 3 4 (s19 3 3) → (∃ n53 : Nat, fX9_advance_L66  (fun s_165e66 x1_165e66 x2_165e66 => (((s_165e66 3 3) < (s_165e66 3 1) → (fX9_advance_j206 s_165e66 x1_165e66 x2_165e66 Q)) ∧ (¬ ((s_165e66 3 3) < (s_165e66 3 1)) → (((s_165e66 1 1) ≤ (s_165e66 3 1) → (fX9_advance_j206 s_165e66 x1_165e66 x2_165e66 Q)) ∧ (¬ ((s_165e66 1 1) ≤ (s_165e66 3 1)) → ∀ s101 : sg_M, s101 = sg_up s_165e66 3 3 (s_165e66 3 1) → ∀ s103 : sg_M, s103 = sg_up s101 3 2 4 → Q s103))))) n53 s22 0 0)) n18 s2)
set_option maxHeartbeats 4000000 in
set_option maxRecDepth 100000 in
theorem CX9_advance {l : Launch} {G : sg_G} {La : sg_L} {s0 : sg_M} (hst : sg_St La) {Q : sg_M → Prop} (hf : fX9_advance s0 Q) : sg_C l G yX9_advance cX9_advance 4 (none) 2 0 0 La s0 [sg_r 3] (sg_HV La Q) := by
  refine sg_body (by decide +kernel) (Nat.le_of_ble_eq_true rfl) ?_
  intro p e s m args below meth c F hnm
  unfold fX9_advance at hf
  show sg_W p l e (sg_rm 2 0 0) s m args below meth c (MQ below (sg_Q (none) G La s.heap.size (sg_HV La Q)) args s 0 0 (sg_A La s.heap.size)) 4 G (sg_A La s.heap.size) La s0 0 0 0 [(0, sg_r 3)] []
  refine gw_aload_n F 0 rfl rfl (by decide) dX9_advance_0 ?_
  refine gw_aload_n F 0 rfl rfl (by decide) dX9_advance_1 ?_
  refine gw_get0 F (so_3 hst) (by decide) rfl sg_lay_RX9 (j := 4) (by decide) rfl (host := "") (.inl kw_142) dX9_advance_2 (fun h1 => ?_)
  obtain ⟨s2, e3⟩ : ∃ z : sg_M, z = sg_up s0 3 3 (s0 3 4) := ⟨_, rfl⟩
  have hf := hf s2 e3
  refine gw_put0 F (so_3 hst) (by decide) rfl sg_lay_RX9 (j := 3) (by decide) h1 e3 tyX9_ok nmX9 rfl (tyX9_ok 3 (by decide)) rfl (host := "") (.inl kw_141) dX9_advance_5 ?_
  have L8 : ∀ (k49 : sg_M → Prop) (hk49 : ∀ (s_49e8 : sg_M), k49 s_49e8 → sg_W p l e (sg_rm 2 0 0) s m args below meth c (MQ below (sg_Q (none) G La s.heap.size (sg_HV La Q)) args s 0 0 (sg_A La s.heap.size)) 4 G (sg_A La s.heap.size) La s_49e8 0 0 49 [(0, sg_r 3)] []), ∀ n_8 : Nat, ∀ (s_8 : sg_M), fX9_advance_L8  k49 n_8 s_8 → sg_W p l e (sg_rm 2 0 0) s m args below meth c (MQ below (sg_Q (none) G La s.heap.size (sg_HV La Q)) args s 0 0 (sg_A La s.heap.size)) 4 G (sg_A La s.heap.size) La s_8 0 0 8 [(0, sg_r 3)] [] := by
    intro k49 hk49 n_8
    induction n_8 with
    | zero => intro s_8 hf; exact hf.elim
    | succ n_8 ih =>
      intro s_8 hf
      unfold fX9_advance_L8 at hf
      refine gw_aload_n F 0 rfl rfl (by decide) dX9_advance_8 ?_
      refine gw_get0 F (so_3 hst) (by decide) rfl sg_lay_RX9 (j := 3) (by decide) rfl (host := "") (.inl kw_141) dX9_advance_9 (fun h4 => ?_)
      refine gw_aload_n F 0 rfl rfl (by decide) dX9_advance_12 ?_
      refine gw_get0 F (so_3 hst) (by decide) rfl sg_lay_RX9 (j := 1) (by decide) rfl (host := "") (.inl kw_139) dX9_advance_13 (fun h5 => ?_)
      refine gw_icmp_ge F (tgt := 49) dX9_advance_16 (by decide) h4 h5 (fun c6 => ?_) (fun c6 => ?_)
      · have hf := hf.1 c6
        refine gw_sub [0] rfl ?_
        exact hk49 s_8 hf
      · have hf := hf.2 c6
        refine gw_aload_n F 0 rfl rfl (by decide) dX9_advance_19 ?_
        refine gw_get7 F (so_3 hst) (by decide) rfl sg_lay_RX9 (j := 0) (by decide) (o1 := 1) (by first | rfl | omega) rfl (host := "") (.inl kw_138) dX9_advance_20 (fun h7 => ?_)
        refine gw_aload_n F 0 rfl rfl (by decide) dX9_advance_23 ?_
        refine gw_get0 F (so_3 hst) (by decide) rfl sg_lay_RX9 (j := 3) (by decide) rfl (host := "") (.inl kw_141) dX9_advance_24 (fun h8 => ?_)
        refine gk_PI F (gc_V F (S := []) (As := [sg_i (s_8 3 3)]) (T := TX8) (N := 2) (CX8_byteAt hst h8 hf) (so_1 hst) (by decide) rfl kw_372 kw_91 kw_369 kw_370 kw_371 hcX8_byteAt ⟨by decide, by decide⟩ rfl rfl (Nat.le_of_ble_eq_true rfl) ⟨by decide, by decide⟩ dX9_advance_27) (fun u9 h10 hf => ?_)
        refine gk_PZ F (gc_S F (S := []) (As := [sg_i u9]) (CX9_isBlank h10 hf) kw_375 kw_92 kw_373 kw_374 hcX9_isBlank ⟨by decide, by decide⟩ rfl rfl (Nat.le_of_ble_eq_true rfl) ⟨by decide, by decide⟩ dX9_advance_30) (fun u11 h12 hf => ?_)
        refine gw_if_eq F (tgt := 49) dX9_advance_33 (by decide) (sg_B_R h12) (fun c13 => ?_) (fun c13 => ?_)
        · have hf := hf.1 c13
          refine gw_sub [0] rfl ?_
          exact hk49 s_8 hf
        · have hf := hf.2 c13
          refine gw_aload_n F 0 rfl rfl (by decide) dX9_advance_36 ?_
          refine gw_dup F rfl dX9_advance_37 ?_
          refine gw_get0 F (so_3 hst) (by decide) rfl sg_lay_RX9 (j := 3) (by decide) rfl (host := "") (.inl kw_141) dX9_advance_38 (fun h14 => ?_)
          refine gw_iconst F dX9_advance_41 ?_
          refine gw_iadd F rfl dX9_advance_42 ?_
          obtain ⟨g15, hf⟩ := hf
          obtain ⟨s16, e17⟩ : ∃ z : sg_M, z = sg_up s_8 3 3 ((s_8 3 3) + 1) := ⟨_, rfl⟩
          have hf := hf s16 e17
          refine gw_put0 F (so_3 hst) (by decide) rfl sg_lay_RX9 (j := 3) (by decide) g15 e17 tyX9_ok nmX9 rfl (tyX9_ok 3 (by decide)) rfl (host := "") (.inl kw_141) dX9_advance_43 ?_
          refine gw_goto F (tgt := 8) dX9_advance_46 (by decide) ?_
          refine gw_sub [0] rfl ?_
          exact ih s16 hf
  obtain ⟨n18, hf⟩ := hf
  refine gw_sub [0] rfl ?_
  refine L8 _ (fun s_49e8 hf => ?_) n18 s2 hf
  refine gw_iconst F dX9_advance_49 ?_
  refine gw_istore_n F rfl (by decide) rfl dX9_advance_50 ?_
  refine gw_iconst F dX9_advance_51 ?_
  refine gw_istore_n F rfl (by decide) rfl dX9_advance_52 ?_
  refine gw_aload_n F 2 rfl rfl (by decide) dX9_advance_53 ?_
  refine gw_iconst F dX9_advance_54 ?_
  obtain ⟨s19, e20⟩ : ∃ z : sg_M, z = sg_up s_49e8 3 5 0 := ⟨_, rfl⟩
  have hf := hf s19 e20
  refine gw_put0 F (so_3 hst) (by decide) rfl sg_lay_RX9 (j := 5) (by decide) (by decide) e20 tyX9_ok nmX9 rfl (tyX9_ok 5 (by decide)) rfl (host := "") (.inl kw_143) dX9_advance_55 ?_
  refine gw_aload_n F 2 rfl rfl (by decide) dX9_advance_58 ?_
  refine gw_aload_n F 2 rfl rfl (by decide) dX9_advance_59 ?_
  refine gw_get0 F (so_3 hst) (by decide) rfl sg_lay_RX9 (j := 3) (by decide) rfl (host := "") (.inl kw_141) dX9_advance_60 (fun h21 => ?_)
  obtain ⟨s22, e23⟩ : ∃ z : sg_M, z = sg_up s19 3 4 (s19 3 3) := ⟨_, rfl⟩
  have hf := hf s22 e23
  refine gw_put0 F (so_3 hst) (by decide) rfl sg_lay_RX9 (j := 4) (by decide) h21 e23 tyX9_ok nmX9 rfl (tyX9_ok 4 (by decide)) rfl (host := "") (.inl kw_142) dX9_advance_63 ?_
  have L66 : ∀ (k165 : sg_M → Int → Int → Prop) (hk165 : ∀ (s_165e66 : sg_M) (x1_165e66 : Int) (x2_165e66 : Int), sg_R x1_165e66 → sg_R x2_165e66 → k165 s_165e66 x1_165e66 x2_165e66 → sg_W p l e (sg_rm 2 0 0) s m args below meth c (MQ below (sg_Q (none) G La s.heap.size (sg_HV La Q)) args s 0 0 (sg_A La s.heap.size)) 4 G (sg_A La s.heap.size) La s_165e66 0 0 165 [(0, sg_r 3), (1, sg_i x1_165e66), (2, sg_i x2_165e66)] []), ∀ n_66 : Nat, ∀ (s_66 : sg_M) (x1_66 : Int) (x2_66 : Int), sg_R x1_66 → sg_R x2_66 → fX9_advance_L66  k165 n_66 s_66 x1_66 x2_66 → sg_W p l e (sg_rm 2 0 0) s m args below meth c (MQ below (sg_Q (none) G La s.heap.size (sg_HV La Q)) args s 0 0 (sg_A La s.heap.size)) 4 G (sg_A La s.heap.size) La s_66 0 0 66 [(0, sg_r 3), (1, sg_i x1_66), (2, sg_i x2_66)] [] := by
    intro k165 hk165 n_66
    induction n_66 with
    | zero => intro s_66 x1_66 x2_66 r1_66 r2_66 hf; exact hf.elim
    | succ n_66 ih =>
      intro s_66 x1_66 x2_66 r1_66 r2_66 hf
      unfold fX9_advance_L66 at hf
      refine gw_aload_n F 0 rfl rfl (by decide) dX9_advance_66 ?_
      refine gw_get0 F (so_3 hst) (by decide) rfl sg_lay_RX9 (j := 4) (by decide) rfl (host := "") (.inl kw_142) dX9_advance_67 (fun h24 => ?_)
      refine gw_aload_n F 0 rfl rfl (by decide) dX9_advance_70 ?_
      refine gw_get7 F (so_3 hst) (by decide) rfl sg_lay_RX9 (j := 0) (by decide) (o1 := 1) (by first | rfl | omega) rfl (host := "") (.inl kw_138) dX9_advance_71 (fun h25 => ?_)
      refine gw_get0 F (so_1 hst) (by decide) rfl sg_lay_RX8 (j := 1) (by decide) rfl (.inr kw_130) dX9_advance_74 (fun h26 => ?_)
      refine gw_icmp_ge F (tgt := 165) dX9_advance_77 (by decide) h24 h26 (fun c27 => ?_) (fun c27 => ?_)
      · have hf := hf.1 c27
        refine gw_sub [0, 1, 2] rfl ?_
        exact hk165 s_66 x1_66 x2_66 r1_66 r2_66 hf
      · have hf := hf.2 c27
        refine gw_aload_n F 0 rfl rfl (by decide) dX9_advance_80 ?_
        refine gw_get7 F (so_3 hst) (by decide) rfl sg_lay_RX9 (j := 0) (by decide) (o1 := 1) (by first | rfl | omega) rfl (host := "") (.inl kw_138) dX9_advance_81 (fun h28 => ?_)
        refine gw_aload_n F 0 rfl rfl (by decide) dX9_advance_84 ?_
        refine gw_get0 F (so_3 hst) (by decide) rfl sg_lay_RX9 (j := 4) (by decide) rfl (host := "") (.inl kw_142) dX9_advance_85 (fun h29 => ?_)
        refine gk_PI F (gc_V F (S := []) (As := [sg_i (s_66 3 4)]) (T := TX8) (N := 2) (CX8_byteAt hst h29 hf) (so_1 hst) (by decide) rfl kw_372 kw_91 kw_369 kw_370 kw_371 hcX8_byteAt ⟨by decide, by decide⟩ rfl rfl (Nat.le_of_ble_eq_true rfl) ⟨by decide, by decide⟩ dX9_advance_88) (fun u30 h31 hf => ?_)
        refine gk_PZ F (gc_S F (S := []) (As := [sg_i u30]) (CX9_isOfRun h31 hf) kw_378 kw_92 kw_376 kw_377 hcX9_isOfRun ⟨by decide, by decide⟩ rfl rfl (Nat.le_of_ble_eq_true rfl) ⟨by decide, by decide⟩ dX9_advance_91) (fun u32 h33 hf => ?_)
        refine gw_if_eq F (tgt := 165) dX9_advance_94 (by decide) (sg_B_R h33) (fun c34 => ?_) (fun c34 => ?_)
        · have hf := hf.1 c34
          refine gw_sub [0, 1, 2] rfl ?_
          exact hk165 s_66 x1_66 x2_66 r1_66 r2_66 hf
        · have hf := hf.2 c34
          refine gw_aload_n F 0 rfl rfl (by decide) dX9_advance_97 ?_
          refine gw_get7 F (so_3 hst) (by decide) rfl sg_lay_RX9 (j := 0) (by decide) (o1 := 1) (by first | rfl | omega) rfl (host := "") (.inl kw_138) dX9_advance_98 (fun h35 => ?_)
          refine gw_aload_n F 0 rfl rfl (by decide) dX9_advance_101 ?_
          refine gw_get0 F (so_3 hst) (by decide) rfl sg_lay_RX9 (j := 4) (by decide) rfl (host := "") (.inl kw_142) dX9_advance_102 (fun h36 => ?_)
          refine gk_PI F (gc_V F (S := []) (As := [sg_i (s_66 3 4)]) (T := TX8) (N := 2) (CX8_byteAt hst h36 hf) (so_1 hst) (by decide) rfl kw_372 kw_91 kw_369 kw_370 kw_371 hcX8_byteAt ⟨by decide, by decide⟩ rfl rfl (Nat.le_of_ble_eq_true rfl) ⟨by decide, by decide⟩ dX9_advance_105) (fun u37 h38 hf => ?_)
          refine gw_istore_n F rfl (by decide) rfl dX9_advance_108 ?_
          refine gw_iload_n F 0 rfl rfl dX9_advance_109 ?_
          refine gw_bipush F rfl dX9_advance_110 ?_
          have J152 : ∀ (s_152 : sg_M) (x1_152 : Int) (x2_152 : Int), sg_R x1_152 → sg_R x2_152 → (fX9_advance_j152  (fX9_advance_L66  k165 n_66)) s_152 x1_152 x2_152 → sg_W p l e (sg_rm 2 0 0) s m args below meth c (MQ below (sg_Q (none) G La s.heap.size (sg_HV La Q)) args s 0 0 (sg_A La s.heap.size)) 4 G (sg_A La s.heap.size) La s_152 0 0 152 [(0, sg_r 3), (1, sg_i x1_152), (2, sg_i x2_152)] [] := by
            intro s_152 x1_152 x2_152 r1_152 r2_152 hf
            unfold fX9_advance_j152 at hf
            refine gw_aload_n F 0 rfl rfl (by decide) dX9_advance_152 ?_
            refine gw_dup F rfl dX9_advance_153 ?_
            refine gw_get0 F (so_3 hst) (by decide) rfl sg_lay_RX9 (j := 4) (by decide) rfl (host := "") (.inl kw_142) dX9_advance_154 (fun h39 => ?_)
            refine gw_iconst F dX9_advance_157 ?_
            refine gw_iadd F rfl dX9_advance_158 ?_
            obtain ⟨g40, hf⟩ := hf
            obtain ⟨s41, e42⟩ : ∃ z : sg_M, z = sg_up s_152 3 4 ((s_152 3 4) + 1) := ⟨_, rfl⟩
            have hf := hf s41 e42
            refine gw_put0 F (so_3 hst) (by decide) rfl sg_lay_RX9 (j := 4) (by decide) g40 e42 tyX9_ok nmX9 rfl (tyX9_ok 4 (by decide)) rfl (host := "") (.inl kw_142) dX9_advance_159 ?_
            refine gw_goto F (tgt := 66) dX9_advance_162 (by decide) ?_
            refine gw_sub [0, 1, 2] rfl ?_
            exact ih s41 x1_152 x2_152 r1_152 r2_152 hf
          refine gw_icmp_lt F (tgt := 121) dX9_advance_112 (by decide) h38 (by decide) (fun c43 => ?_) (fun c43 => ?_)
          · have hf := hf.1 c43
            refine gw_iinc F (z := (x2_66 + 1)) 3 rfl (by omega) (by decide) rfl dX9_advance_121 ?_
            refine gw_aload_n F 2 rfl rfl (by decide) dX9_advance_124 ?_
            refine gw_iload_n F 0 rfl rfl dX9_advance_125 ?_
            refine gw_iconst F dX9_advance_126 ?_
            have J149 : ∀ (y0_149 : Int), sg_R y0_149 → (fX9_advance_j149 s_66 x1_66 x2_66 (fX9_advance_j152  (fX9_advance_L66  k165 n_66))) y0_149 → sg_W p l e (sg_rm 2 0 0) s m args below meth c (MQ below (sg_Q (none) G La s.heap.size (sg_HV La Q)) args s 0 0 (sg_A La s.heap.size)) 4 G (sg_A La s.heap.size) La s_66 0 0 149 [(0, sg_r 3), (1, sg_i x1_66), (2, sg_i (x2_66 + 1))] [sg_i y0_149, sg_r 3] := by
              intro y0_149 ry0_149 hf
              unfold fX9_advance_j149 at hf
              obtain ⟨s44, e45⟩ : ∃ z : sg_M, z = sg_up s_66 3 5 y0_149 := ⟨_, rfl⟩
              have hf := hf s44 e45
              refine gw_put0 F (so_3 hst) (by decide) rfl sg_lay_RX9 (j := 5) (by decide) ry0_149 e45 tyX9_ok nmX9 rfl (tyX9_ok 5 (by decide)) rfl (host := "") (.inl kw_143) dX9_advance_149 ?_
              obtain ⟨g46, hf⟩ := hf
              refine gw_sub [0, 1, 2] rfl ?_
              exact J152 s44 x1_66 (x2_66 + 1) r1_66 g46 hf
            obtain ⟨g47, hf⟩ := hf
            refine gw_icmp_gt F (tgt := 145) dX9_advance_127 (by decide) g47 (by decide) (fun c48 => ?_) (fun c48 => ?_)
            · have hf := hf.1 c48
              refine gw_aload_n F 2 rfl rfl (by decide) dX9_advance_145 ?_
              refine gw_get0 F (so_3 hst) (by decide) rfl sg_lay_RX9 (j := 5) (by decide) rfl (host := "") (.inl kw_143) dX9_advance_146 (fun h49 => ?_)
              refine gw_sub [2, 3, 0] rfl ?_
              exact J149 (s_66 3 5) h49 hf
            · have hf := hf.2 c48
              refine gw_aload_n F 2 rfl rfl (by decide) dX9_advance_130 ?_
              refine gw_get0 F (so_3 hst) (by decide) rfl sg_lay_RX9 (j := 5) (by decide) rfl (host := "") (.inl kw_143) dX9_advance_131 (fun h50 => ?_)
              refine gw_bipush F rfl dX9_advance_134 ?_
              refine gw_imul F rfl dX9_advance_136 ?_
              refine gw_iload_n F 1 rfl rfl dX9_advance_137 ?_
              refine gw_iadd F rfl dX9_advance_138 ?_
              refine gw_bipush F rfl dX9_advance_139 ?_
              refine gw_isub F rfl dX9_advance_141 ?_
              refine gw_goto F (tgt := 149) dX9_advance_142 (by decide) ?_
              obtain ⟨g51, hf⟩ := hf
              refine gw_sub [2, 3, 0] rfl ?_
              exact J149 ((((s_66 3 5) * 10) + u37) - 48) g51 hf
          · have hf := hf.2 c43
            refine gw_iinc F (z := (x1_66 + 1)) 2 rfl (by omega) (by decide) rfl dX9_advance_115 ?_
            refine gw_goto F (tgt := 152) dX9_advance_118 (by decide) ?_
            obtain ⟨g52, hf⟩ := hf
            refine gw_sub [2, 0, 3] rfl ?_
            exact J152 s_66 (x1_66 + 1) x2_66 g52 r2_66 hf
  obtain ⟨n53, hf⟩ := hf
  refine gw_sub [2, 1, 0] rfl ?_
  refine L66 _ (fun s_165e66 x1_165e66 x2_165e66 r1_165e66 r2_165e66 hf => ?_) n53 s22 0 0 (by decide) (by decide) hf
  refine gw_aload_n F 0 rfl rfl (by decide) dX9_advance_165 ?_
  refine gw_get0 F (so_3 hst) (by decide) rfl sg_lay_RX9 (j := 3) (by decide) rfl (host := "") (.inl kw_141) dX9_advance_166 (fun h54 => ?_)
  refine gw_aload_n F 0 rfl rfl (by decide) dX9_advance_169 ?_
  refine gw_get0 F (so_3 hst) (by decide) rfl sg_lay_RX9 (j := 1) (by decide) rfl (host := "") (.inl kw_139) dX9_advance_170 (fun h55 => ?_)
  have J206 : (fX9_advance_j206 s_165e66 x1_165e66 x2_165e66 Q) → sg_W p l e (sg_rm 2 0 0) s m args below meth c (MQ below (sg_Q (none) G La s.heap.size (sg_HV La Q)) args s 0 0 (sg_A La s.heap.size)) 4 G (sg_A La s.heap.size) La s_165e66 0 0 206 [(0, sg_r 3), (1, sg_i x1_165e66), (2, sg_i x2_165e66)] [] := by
    intro hf
    unfold fX9_advance_j206 at hf
    refine gw_aload_n F 0 rfl rfl (by decide) dX9_advance_206 ?_
    refine gw_get0 F (so_3 hst) (by decide) rfl sg_lay_RX9 (j := 3) (by decide) rfl (host := "") (.inl kw_141) dX9_advance_207 (fun h56 => ?_)
    refine gw_aload_n F 0 rfl rfl (by decide) dX9_advance_210 ?_
    refine gw_get7 F (so_3 hst) (by decide) rfl sg_lay_RX9 (j := 0) (by decide) (o1 := 1) (by first | rfl | omega) rfl (host := "") (.inl kw_138) dX9_advance_211 (fun h57 => ?_)
    refine gw_get0 F (so_1 hst) (by decide) rfl sg_lay_RX8 (j := 1) (by decide) rfl (.inr kw_130) dX9_advance_214 (fun h58 => ?_)
    refine gw_icmp_lt F (tgt := 239) dX9_advance_217 (by decide) h56 h58 (fun c59 => ?_) (fun c59 => ?_)
    · have hf := hf.1 c59
      refine gw_aload_n F 0 rfl rfl (by decide) dX9_advance_239 ?_
      refine gw_get0 F (so_3 hst) (by decide) rfl sg_lay_RX9 (j := 4) (by decide) rfl (host := "") (.inl kw_142) dX9_advance_240 (fun h60 => ?_)
      refine gw_aload_n F 0 rfl rfl (by decide) dX9_advance_243 ?_
      refine gw_get0 F (so_3 hst) (by decide) rfl sg_lay_RX9 (j := 3) (by decide) rfl (host := "") (.inl kw_141) dX9_advance_244 (fun h61 => ?_)
      refine gw_icmp_le F (tgt := 262) dX9_advance_247 (by decide) h60 h61 (fun c62 => ?_) (fun c62 => ?_)
      · have hf := hf.1 c62
        refine gw_aload_n F 0 rfl rfl (by decide) dX9_advance_262 ?_
        refine gw_aload_n F 0 rfl rfl (by decide) dX9_advance_263 ?_
        refine gw_get7 F (so_3 hst) (by decide) rfl sg_lay_RX9 (j := 0) (by decide) (o1 := 1) (by first | rfl | omega) rfl (host := "") (.inl kw_138) dX9_advance_264 (fun h63 => ?_)
        refine gw_aload_n F 0 rfl rfl (by decide) dX9_advance_267 ?_
        refine gw_get0 F (so_3 hst) (by decide) rfl sg_lay_RX9 (j := 3) (by decide) rfl (host := "") (.inl kw_141) dX9_advance_268 (fun h64 => ?_)
        refine gk_PI F (gc_V F (S := [sg_r 3]) (As := [sg_i (s_165e66 3 3)]) (T := TX8) (N := 2) (CX8_byteAt hst h64 hf) (so_1 hst) (by decide) rfl kw_372 kw_91 kw_369 kw_370 kw_371 hcX8_byteAt ⟨by decide, by decide⟩ rfl rfl (Nat.le_of_ble_eq_true rfl) ⟨by decide, by decide⟩ dX9_advance_271) (fun u65 h66 hf => ?_)
        obtain ⟨s67, e68⟩ : ∃ z : sg_M, z = sg_up s_165e66 3 5 u65 := ⟨_, rfl⟩
        have hf := hf s67 e68
        refine gw_put0 F (so_3 hst) (by decide) rfl sg_lay_RX9 (j := 5) (by decide) h66 e68 tyX9_ok nmX9 rfl (tyX9_ok 5 (by decide)) rfl (host := "") (.inl kw_143) dX9_advance_274 ?_
        refine gw_aload_n F 0 rfl rfl (by decide) dX9_advance_277 ?_
        refine gw_aload_n F 0 rfl rfl (by decide) dX9_advance_278 ?_
        refine gw_get0 F (so_3 hst) (by decide) rfl sg_lay_RX9 (j := 5) (by decide) rfl (host := "") (.inl kw_143) dX9_advance_279 (fun h69 => ?_)
        refine gk_PZ F (gc_S F (S := [sg_r 3]) (As := [sg_i (s67 3 5)]) (CX9_isSignByte h69 hf) kw_384 kw_92 kw_382 kw_383 hcX9_isSignByte ⟨by decide, by decide⟩ rfl rfl (Nat.le_of_ble_eq_true rfl) ⟨by decide, by decide⟩ dX9_advance_282) (fun u70 h71 hf => ?_)
        refine gw_if_eq F (tgt := 292) dX9_advance_285 (by decide) (sg_B_R h71) (fun c72 => ?_) (fun c72 => ?_)
        · have hf := hf.1 c72
          refine gw_iconst F dX9_advance_292 ?_
          obtain ⟨s73, e74⟩ : ∃ z : sg_M, z = sg_up s67 3 2 4 := ⟨_, rfl⟩
          have hf := hf s73 e74
          refine gw_put0 F (so_3 hst) (by decide) rfl sg_lay_RX9 (j := 2) (by decide) (by decide) e74 tyX9_ok nmX9 rfl (tyX9_ok 2 (by decide)) rfl (host := "") (.inl kw_140) dX9_advance_293 ?_
          refine gw_aload_n F 0 rfl rfl (by decide) dX9_advance_296 ?_
          refine gw_aload_n F 0 rfl rfl (by decide) dX9_advance_297 ?_
          refine gw_get0 F (so_3 hst) (by decide) rfl sg_lay_RX9 (j := 3) (by decide) rfl (host := "") (.inl kw_141) dX9_advance_298 (fun h75 => ?_)
          refine gw_iconst F dX9_advance_301 ?_
          refine gw_iadd F rfl dX9_advance_302 ?_
          obtain ⟨g76, hf⟩ := hf
          obtain ⟨s77, e78⟩ : ∃ z : sg_M, z = sg_up s73 3 4 ((s73 3 3) + 1) := ⟨_, rfl⟩
          have hf := hf s77 e78
          refine gw_put0 F (so_3 hst) (by decide) rfl sg_lay_RX9 (j := 4) (by decide) g76 e78 tyX9_ok nmX9 rfl (tyX9_ok 4 (by decide)) rfl (host := "") (.inl kw_142) dX9_advance_303 ?_
          exact gr_HV F hf (by decide) (by decide) dX9_advance_306
        · have hf := hf.2 c72
          refine gw_iconst F dX9_advance_288 ?_
          refine gw_goto F (tgt := 293) dX9_advance_289 (by decide) ?_
          obtain ⟨s79, e80⟩ : ∃ z : sg_M, z = sg_up s67 3 2 3 := ⟨_, rfl⟩
          have hf := hf s79 e80
          refine gw_put0 F (so_3 hst) (by decide) rfl sg_lay_RX9 (j := 2) (by decide) (by decide) e80 tyX9_ok nmX9 rfl (tyX9_ok 2 (by decide)) rfl (host := "") (.inl kw_140) dX9_advance_293 ?_
          refine gw_aload_n F 0 rfl rfl (by decide) dX9_advance_296 ?_
          refine gw_aload_n F 0 rfl rfl (by decide) dX9_advance_297 ?_
          refine gw_get0 F (so_3 hst) (by decide) rfl sg_lay_RX9 (j := 3) (by decide) rfl (host := "") (.inl kw_141) dX9_advance_298 (fun h81 => ?_)
          refine gw_iconst F dX9_advance_301 ?_
          refine gw_iadd F rfl dX9_advance_302 ?_
          obtain ⟨g82, hf⟩ := hf
          obtain ⟨s83, e84⟩ : ∃ z : sg_M, z = sg_up s79 3 4 ((s79 3 3) + 1) := ⟨_, rfl⟩
          have hf := hf s83 e84
          refine gw_put0 F (so_3 hst) (by decide) rfl sg_lay_RX9 (j := 4) (by decide) g82 e84 tyX9_ok nmX9 rfl (tyX9_ok 4 (by decide)) rfl (host := "") (.inl kw_142) dX9_advance_303 ?_
          exact gr_HV F hf (by decide) (by decide) dX9_advance_306
      · have hf := hf.2 c62
        refine gw_aload_n F 0 rfl rfl (by decide) dX9_advance_250 ?_
        refine gw_iload_n F 1 rfl rfl dX9_advance_251 ?_
        refine gw_iload_n F 2 rfl rfl dX9_advance_252 ?_
        refine gk_PI F (gc_S F (S := [sg_r 3]) (As := [sg_i x1_165e66, sg_i x2_165e66]) (CX9_kindOfRun r1_165e66 r2_165e66 hf) kw_381 kw_92 kw_379 kw_380 hcX9_kindOfRun ⟨by decide, by decide⟩ rfl rfl (Nat.le_of_ble_eq_true rfl) ⟨by decide, by decide⟩ dX9_advance_253) (fun u85 h86 hf => ?_)
        obtain ⟨s87, e88⟩ : ∃ z : sg_M, z = sg_up s_165e66 3 2 u85 := ⟨_, rfl⟩
        have hf := hf s87 e88
        refine gw_put0 F (so_3 hst) (by decide) rfl sg_lay_RX9 (j := 2) (by decide) h86 e88 tyX9_ok nmX9 rfl (tyX9_ok 2 (by decide)) rfl (host := "") (.inl kw_140) dX9_advance_256 ?_
        refine gw_goto F (tgt := 306) dX9_advance_259 (by decide) ?_
        exact gr_HV F hf (by decide) (by decide) dX9_advance_306
    · have hf := hf.2 c59
      refine gw_aload_n F 0 rfl rfl (by decide) dX9_advance_220 ?_
      refine gw_aload_n F 0 rfl rfl (by decide) dX9_advance_221 ?_
      refine gw_get7 F (so_3 hst) (by decide) rfl sg_lay_RX9 (j := 0) (by decide) (o1 := 1) (by first | rfl | omega) rfl (host := "") (.inl kw_138) dX9_advance_222 (fun h89 => ?_)
      refine gw_get0 F (so_1 hst) (by decide) rfl sg_lay_RX8 (j := 1) (by decide) rfl (.inr kw_130) dX9_advance_225 (fun h90 => ?_)
      obtain ⟨s91, e92⟩ : ∃ z : sg_M, z = sg_up s_165e66 3 3 (s_165e66 1 1) := ⟨_, rfl⟩
      have hf := hf s91 e92
      refine gw_put0 F (so_3 hst) (by decide) rfl sg_lay_RX9 (j := 3) (by decide) h90 e92 tyX9_ok nmX9 rfl (tyX9_ok 3 (by decide)) rfl (host := "") (.inl kw_141) dX9_advance_228 ?_
      refine gw_aload_n F 0 rfl rfl (by decide) dX9_advance_231 ?_
      refine gw_iconst F dX9_advance_232 ?_
      obtain ⟨s93, e94⟩ : ∃ z : sg_M, z = sg_up s91 3 2 0 := ⟨_, rfl⟩
      have hf := hf s93 e94
      refine gw_put0 F (so_3 hst) (by decide) rfl sg_lay_RX9 (j := 2) (by decide) (by decide) e94 tyX9_ok nmX9 rfl (tyX9_ok 2 (by decide)) rfl (host := "") (.inl kw_140) dX9_advance_233 ?_
      refine gw_goto F (tgt := 306) dX9_advance_236 (by decide) ?_
      exact gr_HV F hf (by decide) (by decide) dX9_advance_306
  refine gw_icmp_lt F (tgt := 206) dX9_advance_173 (by decide) h54 h55 (fun c95 => ?_) (fun c95 => ?_)
  · have hf := hf.1 c95
    refine gw_sub [0, 1, 2] rfl ?_
    exact J206  hf
  · have hf := hf.2 c95
    refine gw_aload_n F 0 rfl rfl (by decide) dX9_advance_176 ?_
    refine gw_get7 F (so_3 hst) (by decide) rfl sg_lay_RX9 (j := 0) (by decide) (o1 := 1) (by first | rfl | omega) rfl (host := "") (.inl kw_138) dX9_advance_177 (fun h96 => ?_)
    refine gw_get0 F (so_1 hst) (by decide) rfl sg_lay_RX8 (j := 1) (by decide) rfl (.inr kw_130) dX9_advance_180 (fun h97 => ?_)
    refine gw_aload_n F 0 rfl rfl (by decide) dX9_advance_183 ?_
    refine gw_get0 F (so_3 hst) (by decide) rfl sg_lay_RX9 (j := 1) (by decide) rfl (host := "") (.inl kw_139) dX9_advance_184 (fun h98 => ?_)
    refine gw_icmp_le F (tgt := 206) dX9_advance_187 (by decide) h97 h98 (fun c99 => ?_) (fun c99 => ?_)
    · have hf := hf.1 c99
      refine gw_sub [0, 1, 2] rfl ?_
      exact J206  hf
    · have hf := hf.2 c99
      refine gw_aload_n F 0 rfl rfl (by decide) dX9_advance_190 ?_
      refine gw_aload_n F 0 rfl rfl (by decide) dX9_advance_191 ?_
      refine gw_get0 F (so_3 hst) (by decide) rfl sg_lay_RX9 (j := 1) (by decide) rfl (host := "") (.inl kw_139) dX9_advance_192 (fun h100 => ?_)
      obtain ⟨s101, e102⟩ : ∃ z : sg_M, z = sg_up s_165e66 3 3 (s_165e66 3 1) := ⟨_, rfl⟩
      have hf := hf s101 e102
      refine gw_put0 F (so_3 hst) (by decide) rfl sg_lay_RX9 (j := 3) (by decide) h100 e102 tyX9_ok nmX9 rfl (tyX9_ok 3 (by decide)) rfl (host := "") (.inl kw_141) dX9_advance_195 ?_
      refine gw_aload_n F 0 rfl rfl (by decide) dX9_advance_198 ?_
      refine gw_iconst F dX9_advance_199 ?_
      obtain ⟨s103, e104⟩ : ∃ z : sg_M, z = sg_up s101 3 2 4 := ⟨_, rfl⟩
      have hf := hf s103 e104
      refine gw_put0 F (so_3 hst) (by decide) rfl sg_lay_RX9 (j := 2) (by decide) (by decide) e104 tyX9_ok nmX9 rfl (tyX9_ok 2 (by decide)) rfl (host := "") (.inl kw_140) dX9_advance_200 ?_
      refine gw_goto F (tgt := 306) dX9_advance_203 (by decide) ?_
      exact gr_HV F hf (by decide) (by decide) dX9_advance_306

theorem dX9_open_0 : decode cX9_open 0 = .ok (.aload_n 0, 1) := by decide +kernel
theorem dX9_open_1 : decode cX9_open 1 = .ok (.iload_n 1, 1) := by decide +kernel
theorem dX9_open_2 : decode cX9_open 2 = .ok (.putfield 7, 3) := by decide +kernel
theorem dX9_open_5 : decode cX9_open 5 = .ok (.aload_n 0, 1) := by decide +kernel
theorem dX9_open_6 : decode cX9_open 6 = .ok (.iconst 0, 1) := by decide +kernel
theorem dX9_open_7 : decode cX9_open 7 = .ok (.putfield 19, 3) := by decide +kernel
theorem dX9_open_10 : decode cX9_open 10 = .ok (.aload_n 0, 1) := by decide +kernel
theorem dX9_open_11 : decode cX9_open 11 = .ok (.iconst 0, 1) := by decide +kernel
theorem dX9_open_12 : decode cX9_open 12 = .ok (.putfield 25, 3) := by decide +kernel
theorem dX9_open_15 : decode cX9_open 15 = .ok (.aload_n 0, 1) := by decide +kernel
theorem dX9_open_16 : decode cX9_open 16 = .ok (.iconst 0, 1) := by decide +kernel
theorem dX9_open_17 : decode cX9_open 17 = .ok (.putfield 28, 3) := by decide +kernel
theorem dX9_open_20 : decode cX9_open 20 = .ok (.aload_n 0, 1) := by decide +kernel
theorem dX9_open_21 : decode cX9_open 21 = .ok (.invokevirtual 35, 3) := by decide +kernel
theorem dX9_open_24 : decode cX9_open 24 = .ok (.return_, 1) := by decide +kernel
theorem hcX9_open : yX9_open.cls ≠ "java/lang/invoke/MethodHandle" ∧ yX9_open.cls ≠ "java/lang/invoke/VarHandle" ∧ (parseMethodDescriptor yX9_open.desc).map (fun d => d.parameters.length) = some 1 := ⟨by decide +kernel, by decide +kernel, by decide +kernel⟩
def fX9_open (s0 : sg_M) (x1 : Int) (Q : sg_M → Prop) : Prop := ∀ s1 : sg_M, s1 = sg_up s0 3 1 x1 → ∀ s3 : sg_M, s3 = sg_up s1 3 4 0 → ∀ s5 : sg_M, s5 = sg_up s3 3 6 0 → ∀ s7 : sg_M, s7 = sg_up s5 3 7 0 → fX9_advance s7 (fun s9 => Q s9)
set_option maxHeartbeats 4000000 in
set_option maxRecDepth 100000 in
theorem CX9_open {l : Launch} {G : sg_G} {La : sg_L} {s0 : sg_M} (hst : sg_St La) {x1 : Int} (r1 : sg_R x1) {Q : sg_M → Prop} (hf : fX9_open s0 x1 Q) : sg_C l G yX9_open cX9_open 2 (none) 3 0 0 La s0 [sg_r 3, sg_i x1] (sg_HV La Q) := by
  refine sg_body (by decide +kernel) (Nat.le_of_ble_eq_true rfl) ?_
  intro p e s m args below meth c F hnm
  unfold fX9_open at hf
  show sg_W p l e (sg_rm 3 0 0) s m args below meth c (MQ below (sg_Q (none) G La s.heap.size (sg_HV La Q)) args s 0 0 (sg_A La s.heap.size)) 2 G (sg_A La s.heap.size) La s0 0 0 0 [(0, sg_r 3), (1, sg_i x1)] []
  refine gw_aload_n F 0 rfl rfl (by decide) dX9_open_0 ?_
  refine gw_iload_n F 1 rfl rfl dX9_open_1 ?_
  obtain ⟨s1, e2⟩ : ∃ z : sg_M, z = sg_up s0 3 1 x1 := ⟨_, rfl⟩
  have hf := hf s1 e2
  refine gw_put0 F (so_3 hst) (by decide) rfl sg_lay_RX9 (j := 1) (by decide) r1 e2 tyX9_ok nmX9 rfl (tyX9_ok 1 (by decide)) rfl (host := "") (.inl kw_139) dX9_open_2 ?_
  refine gw_aload_n F 0 rfl rfl (by decide) dX9_open_5 ?_
  refine gw_iconst F dX9_open_6 ?_
  obtain ⟨s3, e4⟩ : ∃ z : sg_M, z = sg_up s1 3 4 0 := ⟨_, rfl⟩
  have hf := hf s3 e4
  refine gw_put0 F (so_3 hst) (by decide) rfl sg_lay_RX9 (j := 4) (by decide) (by decide) e4 tyX9_ok nmX9 rfl (tyX9_ok 4 (by decide)) rfl (host := "") (.inl kw_142) dX9_open_7 ?_
  refine gw_aload_n F 0 rfl rfl (by decide) dX9_open_10 ?_
  refine gw_iconst F dX9_open_11 ?_
  obtain ⟨s5, e6⟩ : ∃ z : sg_M, z = sg_up s3 3 6 0 := ⟨_, rfl⟩
  have hf := hf s5 e6
  refine gw_put0 F (so_3 hst) (by decide) rfl sg_lay_RX9 (j := 6) (by decide) (by decide) e6 tyX9_ok nmX9 rfl (tyX9_ok 6 (by decide)) rfl (host := "") (.inl kw_144) dX9_open_12 ?_
  refine gw_aload_n F 0 rfl rfl (by decide) dX9_open_15 ?_
  refine gw_iconst F dX9_open_16 ?_
  obtain ⟨s7, e8⟩ : ∃ z : sg_M, z = sg_up s5 3 7 0 := ⟨_, rfl⟩
  have hf := hf s7 e8
  refine gw_put0 F (so_3 hst) (by decide) rfl sg_lay_RX9 (j := 7) (by decide) (by decide) e8 tyX9_ok nmX9 rfl (tyX9_ok 7 (by decide)) rfl (host := "") (.inl kw_148) dX9_open_17 ?_
  refine gw_aload_n F 0 rfl rfl (by decide) dX9_open_20 ?_
  refine gk_HV F (gc_V F (S := []) (As := []) (T := TX9) (N := 8) (CX9_advance hst hf) (so_3 hst) (by decide) rfl kw_368 kw_92 kw_365 kw_366 kw_367 hcX9_advance ⟨by decide, by decide⟩ rfl rfl (Nat.le_of_ble_eq_true rfl) ⟨by decide, by decide⟩ dX9_open_21) (fun s9 hf => ?_)
  exact gr_HV F hf (by decide) (by decide) dX9_open_24

theorem dX0_root_0 : decode cX0_root 0 = .ok (.iconst 0, 1) := by decide +kernel
theorem dX0_root_1 : decode cX0_root 1 = .ok (.istore_n 1, 1) := by decide +kernel
theorem dX0_root_2 : decode cX0_root 2 = .ok (.iload_n 0, 1) := by decide +kernel
theorem dX0_root_3 : decode cX0_root 3 = .ok (.sipush 16384, 3) := by decide +kernel
theorem dX0_root_6 : decode cX0_root 6 = .ok (.if_icmp .ge 8, 3) := by decide +kernel
theorem dX0_root_9 : decode cX0_root 9 = .ok (.bipush 64, 2) := by decide +kernel
theorem dX0_root_11 : decode cX0_root 11 = .ok (.goto 6, 3) := by decide +kernel
theorem dX0_root_14 : decode cX0_root 14 = .ok (.sipush 1024, 3) := by decide +kernel
theorem dX0_root_17 : decode cX0_root 17 = .ok (.istore_n 2, 1) := by decide +kernel
theorem dX0_root_18 : decode cX0_root 18 = .ok (.iload_n 2, 1) := by decide +kernel
theorem dX0_root_19 : decode cX0_root 19 = .ok (.ifCond .le 25, 3) := by decide +kernel
theorem dX0_root_22 : decode cX0_root 22 = .ok (.iload_n 1, 1) := by decide +kernel
theorem dX0_root_23 : decode cX0_root 23 = .ok (.iload_n 2, 1) := by decide +kernel
theorem dX0_root_24 : decode cX0_root 24 = .ok (.iadd, 1) := by decide +kernel
theorem dX0_root_25 : decode cX0_root 25 = .ok (.iload_n 1, 1) := by decide +kernel
theorem dX0_root_26 : decode cX0_root 26 = .ok (.iload_n 2, 1) := by decide +kernel
theorem dX0_root_27 : decode cX0_root 27 = .ok (.iadd, 1) := by decide +kernel
theorem dX0_root_28 : decode cX0_root 28 = .ok (.imul, 1) := by decide +kernel
theorem dX0_root_29 : decode cX0_root 29 = .ok (.iload_n 0, 1) := by decide +kernel
theorem dX0_root_30 : decode cX0_root 30 = .ok (.if_icmp .gt 7, 3) := by decide +kernel
theorem dX0_root_33 : decode cX0_root 33 = .ok (.iload_n 1, 1) := by decide +kernel
theorem dX0_root_34 : decode cX0_root 34 = .ok (.iload_n 2, 1) := by decide +kernel
theorem dX0_root_35 : decode cX0_root 35 = .ok (.iadd, 1) := by decide +kernel
theorem dX0_root_36 : decode cX0_root 36 = .ok (.istore_n 1, 1) := by decide +kernel
theorem dX0_root_37 : decode cX0_root 37 = .ok (.iload_n 2, 1) := by decide +kernel
theorem dX0_root_38 : decode cX0_root 38 = .ok (.iconst 2, 1) := by decide +kernel
theorem dX0_root_39 : decode cX0_root 39 = .ok (.idiv, 1) := by decide +kernel
theorem dX0_root_40 : decode cX0_root 40 = .ok (.istore_n 2, 1) := by decide +kernel
theorem dX0_root_41 : decode cX0_root 41 = .ok (.goto (-23), 3) := by decide +kernel
theorem dX0_root_44 : decode cX0_root 44 = .ok (.iload_n 1, 1) := by decide +kernel
theorem dX0_root_45 : decode cX0_root 45 = .ok (.ireturn, 1) := by decide +kernel
theorem hcX0_root : yX0_root.cls ≠ "java/lang/invoke/MethodHandle" ∧ yX0_root.cls ≠ "java/lang/invoke/VarHandle" ∧ (parseMethodDescriptor yX0_root.desc).map (fun d => d.parameters.length) = some 1 := ⟨by decide +kernel, by decide +kernel, by decide +kernel⟩
def fX0_root_j37 (x2_18 : Int) (k18 : Int → Int → Prop) (x1_37 : Int) : Prop := sg_R (Int.tdiv x2_18 2) ∧ k18 x1_37 (Int.tdiv x2_18 2)
def fX0_root_L18 (x0 : Int) (Q : Int → Prop) : Nat → Int → Int → Prop
  | 0, _, _ => False
  | n_18 + 1, x1_18, x2_18 => ((x2_18 ≤ 0 → Q x1_18) ∧ (¬ (x2_18 ≤ 0) → sg_R ((x1_18 + x2_18) * (x1_18 + x2_18)) ∧ ((x0 < ((x1_18 + x2_18) * (x1_18 + x2_18)) → (fX0_root_j37 x2_18 (fX0_root_L18 x0 Q n_18)) x1_18) ∧ (¬ (x0 < ((x1_18 + x2_18) * (x1_18 + x2_18))) → sg_R (x1_18 + x2_18) ∧ (fX0_root_j37 x2_18 (fX0_root_L18 x0 Q n_18)) (x1_18 + x2_18)))))
def fX0_root_j17 (x0 : Int) (Q : Int → Prop) (y0_17 : Int) : Prop := (∃ n6 : Nat, fX0_root_L18 x0 Q n6 0 y0_17)
def fX0_root (x0 : Int) (Q : Int → Prop) : Prop := ((16384 ≤ x0 → (fX0_root_j17 x0 Q) 1024) ∧ (¬ (16384 ≤ x0) → (fX0_root_j17 x0 Q) 64))
set_option maxHeartbeats 4000000 in
set_option maxRecDepth 100000 in
theorem CX0_root {l : Launch} {G : sg_G} {La : sg_L} {s0 : sg_M} {x0 : Int} (r0 : sg_R x0) {Q : Int → Prop} (hf : fX0_root x0 Q) : sg_C l G yX0_root cX0_root 3 (some .int) 1 0 0 La s0 [sg_i x0] (sg_PI La s0 Q) := by
  refine sg_body (by decide +kernel) (Nat.le_of_ble_eq_true rfl) ?_
  intro p e s m args below meth c F hnm
  unfold fX0_root at hf
  show sg_W p l e (sg_rm 1 0 0) s m args below meth c (MQ below (sg_Q (some .int) G La s.heap.size (sg_PI La s0 Q)) args s 0 0 (sg_A La s.heap.size)) 3 G (sg_A La s.heap.size) La s0 0 0 0 [(0, sg_i x0)] []
  refine gw_iconst F dX0_root_0 ?_
  refine gw_istore_n F rfl (by decide) rfl dX0_root_1 ?_
  refine gw_iload_n F 1 rfl rfl dX0_root_2 ?_
  refine gw_sipush F rfl dX0_root_3 ?_
  have J17 : ∀ (y0_17 : Int), sg_R y0_17 → (fX0_root_j17 x0 Q) y0_17 → sg_W p l e (sg_rm 1 0 0) s m args below meth c (MQ below (sg_Q (some .int) G La s.heap.size (sg_PI La s0 Q)) args s 0 0 (sg_A La s.heap.size)) 3 G (sg_A La s.heap.size) La s0 0 0 17 [(0, sg_i x0), (1, sg_i 0)] [sg_i y0_17] := by
    intro y0_17 ry0_17 hf
    unfold fX0_root_j17 at hf
    refine gw_istore_n F rfl (by decide) rfl dX0_root_17 ?_
    have L18 : ∀ n_18 : Nat, ∀ (x1_18 : Int) (x2_18 : Int), sg_R x1_18 → sg_R x2_18 → fX0_root_L18 x0 Q n_18 x1_18 x2_18 → sg_W p l e (sg_rm 1 0 0) s m args below meth c (MQ below (sg_Q (some .int) G La s.heap.size (sg_PI La s0 Q)) args s 0 0 (sg_A La s.heap.size)) 3 G (sg_A La s.heap.size) La s0 0 0 18 [(0, sg_i x0), (1, sg_i x1_18), (2, sg_i x2_18)] [] := by
      intro n_18
      induction n_18 with
      | zero => intro x1_18 x2_18 r1_18 r2_18 hf; exact hf.elim
      | succ n_18 ih =>
        intro x1_18 x2_18 r1_18 r2_18 hf
        unfold fX0_root_L18 at hf
        refine gw_iload_n F 2 rfl rfl dX0_root_18 ?_
        refine gw_if_le F (tgt := 44) dX0_root_19 (by decide) r2_18 (fun c1 => ?_) (fun c1 => ?_)
        · have hf := hf.1 c1
          refine gw_iload_n F 1 rfl rfl dX0_root_44 ?_
          exact gr_PI F r1_18 hf (by decide) (by decide) dX0_root_45
        · have hf := hf.2 c1
          refine gw_iload_n F 1 rfl rfl dX0_root_22 ?_
          refine gw_iload_n F 2 rfl rfl dX0_root_23 ?_
          refine gw_iadd F rfl dX0_root_24 ?_
          refine gw_iload_n F 1 rfl rfl dX0_root_25 ?_
          refine gw_iload_n F 2 rfl rfl dX0_root_26 ?_
          refine gw_iadd F rfl dX0_root_27 ?_
          refine gw_imul F rfl dX0_root_28 ?_
          refine gw_iload_n F 0 rfl rfl dX0_root_29 ?_
          have J37 : ∀ (x1_37 : Int), sg_R x1_37 → (fX0_root_j37 x2_18 (fX0_root_L18 x0 Q n_18)) x1_37 → sg_W p l e (sg_rm 1 0 0) s m args below meth c (MQ below (sg_Q (some .int) G La s.heap.size (sg_PI La s0 Q)) args s 0 0 (sg_A La s.heap.size)) 3 G (sg_A La s.heap.size) La s0 0 0 37 [(0, sg_i x0), (1, sg_i x1_37), (2, sg_i x2_18)] [] := by
            intro x1_37 r1_37 hf
            unfold fX0_root_j37 at hf
            refine gw_iload_n F 2 rfl rfl dX0_root_37 ?_
            refine gw_iconst F dX0_root_38 ?_
            refine gw_idiv F r2_18 (by decide) (by decide) rfl dX0_root_39 ?_
            refine gw_istore_n F rfl (by decide) rfl dX0_root_40 ?_
            refine gw_goto F (tgt := 18) dX0_root_41 (by decide) ?_
            obtain ⟨g2, hf⟩ := hf
            refine gw_sub [1, 2, 0] rfl ?_
            exact ih x1_37 (Int.tdiv x2_18 2) r1_37 g2 hf
          obtain ⟨g3, hf⟩ := hf
          refine gw_icmp_gt F (tgt := 37) dX0_root_30 (by decide) g3 r0 (fun c4 => ?_) (fun c4 => ?_)
          · have hf := hf.1 c4
            refine gw_sub [0, 1, 2] rfl ?_
            exact J37 x1_18 r1_18 hf
          · have hf := hf.2 c4
            refine gw_iload_n F 1 rfl rfl dX0_root_33 ?_
            refine gw_iload_n F 2 rfl rfl dX0_root_34 ?_
            refine gw_iadd F rfl dX0_root_35 ?_
            refine gw_istore_n F rfl (by decide) rfl dX0_root_36 ?_
            obtain ⟨g5, hf⟩ := hf
            refine gw_sub [1, 0, 2] rfl ?_
            exact J37 (x1_18 + x2_18) g5 hf
    obtain ⟨n6, hf⟩ := hf
    refine gw_sub [1, 2, 0] rfl ?_
    refine L18   n6 0 y0_17 (by decide) ry0_17 hf
  refine gw_icmp_ge F (tgt := 14) dX0_root_6 (by decide) r0 (by decide) (fun c7 => ?_) (fun c7 => ?_)
  · have hf := hf.1 c7
    refine gw_sipush F rfl dX0_root_14 ?_
    refine gw_sub [1, 0] rfl ?_
    exact J17 1024 (by decide) hf
  · have hf := hf.2 c7
    refine gw_bipush F rfl dX0_root_9 ?_
    refine gw_goto F (tgt := 17) dX0_root_11 (by decide) ?_
    refine gw_sub [1, 0] rfl ?_
    exact J17 64 (by decide) hf

theorem dX0_enoughAlone_0 : decode cX0_enoughAlone 0 = .ok (.iload_n 2, 1) := by decide +kernel
theorem dX0_enoughAlone_1 : decode cX0_enoughAlone 1 = .ok (.sipush 2000, 3) := by decide +kernel
theorem dX0_enoughAlone_4 : decode cX0_enoughAlone 4 = .ok (.if_icmp .ge 18, 3) := by decide +kernel
theorem dX0_enoughAlone_7 : decode cX0_enoughAlone 7 = .ok (.aload_n 0, 1) := by decide +kernel
theorem dX0_enoughAlone_8 : decode cX0_enoughAlone 8 = .ok (.getfield 15, 3) := by decide +kernel
theorem dX0_enoughAlone_11 : decode cX0_enoughAlone 11 = .ok (.iload_n 1, 1) := by decide +kernel
theorem dX0_enoughAlone_12 : decode cX0_enoughAlone 12 = .ok (.iaload, 1) := by decide +kernel
theorem dX0_enoughAlone_13 : decode cX0_enoughAlone 13 = .ok (.iload_n 2, 1) := by decide +kernel
theorem dX0_enoughAlone_14 : decode cX0_enoughAlone 14 = .ok (.iload_n 2, 1) := by decide +kernel
theorem dX0_enoughAlone_15 : decode cX0_enoughAlone 15 = .ok (.imul, 1) := by decide +kernel
theorem dX0_enoughAlone_16 : decode cX0_enoughAlone 16 = .ok (.iadd, 1) := by decide +kernel
theorem dX0_enoughAlone_17 : decode cX0_enoughAlone 17 = .ok (.ldc 143, 2) := by decide +kernel
theorem dX0_enoughAlone_19 : decode cX0_enoughAlone 19 = .ok (.if_icmp .lt 7, 3) := by decide +kernel
theorem dX0_enoughAlone_22 : decode cX0_enoughAlone 22 = .ok (.sipush 2000, 3) := by decide +kernel
theorem dX0_enoughAlone_25 : decode cX0_enoughAlone 25 = .ok (.ireturn, 1) := by decide +kernel
theorem dX0_enoughAlone_26 : decode cX0_enoughAlone 26 = .ok (.aload_n 0, 1) := by decide +kernel
theorem dX0_enoughAlone_27 : decode cX0_enoughAlone 27 = .ok (.getfield 15, 3) := by decide +kernel
theorem dX0_enoughAlone_30 : decode cX0_enoughAlone 30 = .ok (.iload_n 1, 1) := by decide +kernel
theorem dX0_enoughAlone_31 : decode cX0_enoughAlone 31 = .ok (.iaload, 1) := by decide +kernel
theorem dX0_enoughAlone_32 : decode cX0_enoughAlone 32 = .ok (.iload_n 2, 1) := by decide +kernel
theorem dX0_enoughAlone_33 : decode cX0_enoughAlone 33 = .ok (.iload_n 2, 1) := by decide +kernel
theorem dX0_enoughAlone_34 : decode cX0_enoughAlone 34 = .ok (.imul, 1) := by decide +kernel
theorem dX0_enoughAlone_35 : decode cX0_enoughAlone 35 = .ok (.iadd, 1) := by decide +kernel
theorem dX0_enoughAlone_36 : decode cX0_enoughAlone 36 = .ok (.invokestatic 144, 3) := by decide +kernel
theorem dX0_enoughAlone_39 : decode cX0_enoughAlone 39 = .ok (.iconst 1, 1) := by decide +kernel
theorem dX0_enoughAlone_40 : decode cX0_enoughAlone 40 = .ok (.iadd, 1) := by decide +kernel
theorem dX0_enoughAlone_41 : decode cX0_enoughAlone 41 = .ok (.ireturn, 1) := by decide +kernel
theorem hcX0_enoughAlone : yX0_enoughAlone.cls ≠ "java/lang/invoke/MethodHandle" ∧ yX0_enoughAlone.cls ≠ "java/lang/invoke/VarHandle" ∧ (parseMethodDescriptor yX0_enoughAlone.desc).map (fun d => d.parameters.length) = some 2 := ⟨by decide +kernel, by decide +kernel, by decide +kernel⟩
def fX0_enoughAlone (s0 : sg_M) (x1 : Int) (x2 : Int) (Q : Int → Prop) : Prop := ((2000 ≤ x2 → Q 2000) ∧ (¬ (2000 ≤ x2) → (0 ≤ x1 ∧ x1 < 60) ∧ sg_R ((s0 34 x1) + (x2 * x2)) ∧ ((((s0 34 x1) + (x2 * x2)) < 4000000 → (0 ≤ x1 ∧ x1 < 60) ∧ sg_R ((s0 34 x1) + (x2 * x2)) ∧ fX0_root ((s0 34 x1) + (x2 * x2)) (fun u11 => sg_R (u11 + 1) ∧ Q (u11 + 1))) ∧ (¬ (((s0 34 x1) + (x2 * x2)) < 4000000) → Q 2000))))
set_option maxHeartbeats 4000000 in
set_option maxRecDepth 100000 in
theorem CX0_enoughAlone {l : Launch} {G : sg_G} {La : sg_L} {s0 : sg_M} (hst : sg_St La) {x1 : Int} (r1 : sg_R x1) {x2 : Int} (r2 : sg_R x2) {Q : Int → Prop} (hf : fX0_enoughAlone s0 x1 x2 Q) : sg_C l G yX0_enoughAlone cX0_enoughAlone 3 (some .int) 2 0 0 La s0 [sg_r 32, sg_i x1, sg_i x2] (sg_PI La s0 Q) := by
  refine sg_body (by decide +kernel) (Nat.le_of_ble_eq_true rfl) ?_
  intro p e s m args below meth c F hnm
  unfold fX0_enoughAlone at hf
  show sg_W p l e (sg_rm 2 0 0) s m args below meth c (MQ below (sg_Q (some .int) G La s.heap.size (sg_PI La s0 Q)) args s 0 0 (sg_A La s.heap.size)) 3 G (sg_A La s.heap.size) La s0 0 0 0 [(0, sg_r 32), (1, sg_i x1), (2, sg_i x2)] []
  refine gw_iload_n F 2 rfl rfl dX0_enoughAlone_0 ?_
  refine gw_sipush F rfl dX0_enoughAlone_1 ?_
  refine gw_icmp_ge F (tgt := 22) dX0_enoughAlone_4 (by decide) r2 (by decide) (fun c1 => ?_) (fun c1 => ?_)
  · have hf := hf.1 c1
    refine gw_sipush F rfl dX0_enoughAlone_22 ?_
    exact gr_PI F (by decide) hf (by decide) (by decide) dX0_enoughAlone_25
  · have hf := hf.2 c1
    refine gw_aload_n F 0 rfl rfl (by decide) dX0_enoughAlone_7 ?_
    refine gw_get3 F (so_32 hst) (by decide) rfl sg_lay_RX0 (j := 1) (by decide) (o1 := 34) (by first | rfl | omega) rfl (host := "") (.inl kw_253) dX0_enoughAlone_8 (fun h2 => ?_)
    refine gw_iload_n F 1 rfl rfl dX0_enoughAlone_11 ?_
    obtain ⟨⟨b30, b31⟩, hf⟩ := hf
    refine gw_iald F (sa_34 hst) b30 b31 dX0_enoughAlone_12 (fun h4 => ?_)
    refine gw_iload_n F 2 rfl rfl dX0_enoughAlone_13 ?_
    refine gw_iload_n F 2 rfl rfl dX0_enoughAlone_14 ?_
    refine gw_imul F rfl dX0_enoughAlone_15 ?_
    refine gw_iadd F rfl dX0_enoughAlone_16 ?_
    refine gw_ldc F (n := 4000000) kw_562 rfl dX0_enoughAlone_17 ?_
    obtain ⟨g5, hf⟩ := hf
    refine gw_icmp_lt F (tgt := 26) dX0_enoughAlone_19 (by decide) g5 (by decide) (fun c6 => ?_) (fun c6 => ?_)
    · have hf := hf.1 c6
      refine gw_aload_n F 0 rfl rfl (by decide) dX0_enoughAlone_26 ?_
      refine gw_get3 F (so_32 hst) (by decide) rfl sg_lay_RX0 (j := 1) (by decide) (o1 := 34) (by first | rfl | omega) rfl (host := "") (.inl kw_253) dX0_enoughAlone_27 (fun h7 => ?_)
      refine gw_iload_n F 1 rfl rfl dX0_enoughAlone_30 ?_
      obtain ⟨⟨b80, b81⟩, hf⟩ := hf
      refine gw_iald F (sa_34 hst) b80 b81 dX0_enoughAlone_31 (fun h9 => ?_)
      refine gw_iload_n F 2 rfl rfl dX0_enoughAlone_32 ?_
      refine gw_iload_n F 2 rfl rfl dX0_enoughAlone_33 ?_
      refine gw_imul F rfl dX0_enoughAlone_34 ?_
      refine gw_iadd F rfl dX0_enoughAlone_35 ?_
      obtain ⟨g10, hf⟩ := hf
      refine gk_PI F (gc_S F (S := []) (As := [sg_i ((s0 34 x1) + (x2 * x2))]) (CX0_root g10 hf) kw_565 kw_100 kw_563 kw_564 hcX0_root ⟨by decide, by decide⟩ rfl rfl (Nat.le_of_ble_eq_true rfl) ⟨by decide, by decide⟩ dX0_enoughAlone_36) (fun u11 h12 hf => ?_)
      refine gw_iconst F dX0_enoughAlone_39 ?_
      refine gw_iadd F rfl dX0_enoughAlone_40 ?_
      obtain ⟨g13, hf⟩ := hf
      exact gr_PI F g13 hf (by decide) (by decide) dX0_enoughAlone_41
    · have hf := hf.2 c6
      refine gw_sipush F rfl dX0_enoughAlone_22 ?_
      exact gr_PI F (by decide) hf (by decide) (by decide) dX0_enoughAlone_25

theorem dX9_number_0 : decode cX9_number 0 = .ok (.aload_n 0, 1) := by decide +kernel
theorem dX9_number_1 : decode cX9_number 1 = .ok (.getfield 13, 3) := by decide +kernel
theorem dX9_number_4 : decode cX9_number 4 = .ok (.iconst 2, 1) := by decide +kernel
theorem dX9_number_5 : decode cX9_number 5 = .ok (.if_icmp .eq 11, 3) := by decide +kernel
theorem dX9_number_8 : decode cX9_number 8 = .ok (.aload_n 0, 1) := by decide +kernel
theorem dX9_number_9 : decode cX9_number 9 = .ok (.iconst 1, 1) := by decide +kernel
theorem dX9_number_10 : decode cX9_number 10 = .ok (.invokevirtual 81, 3) := by decide +kernel
theorem dX9_number_13 : decode cX9_number 13 = .ok (.goto 40, 3) := by decide +kernel
theorem dX9_number_16 : decode cX9_number 16 = .ok (.aload_n 0, 1) := by decide +kernel
theorem dX9_number_17 : decode cX9_number 17 = .ok (.getfield 22, 3) := by decide +kernel
theorem dX9_number_20 : decode cX9_number 20 = .ok (.iload_n 1, 1) := by decide +kernel
theorem dX9_number_21 : decode cX9_number 21 = .ok (.if_icmp .lt 11, 3) := by decide +kernel
theorem dX9_number_24 : decode cX9_number 24 = .ok (.aload_n 0, 1) := by decide +kernel
theorem dX9_number_25 : decode cX9_number 25 = .ok (.getfield 22, 3) := by decide +kernel
theorem dX9_number_28 : decode cX9_number 28 = .ok (.iload_n 2, 1) := by decide +kernel
theorem dX9_number_29 : decode cX9_number 29 = .ok (.if_icmp .le 11, 3) := by decide +kernel
theorem dX9_number_32 : decode cX9_number 32 = .ok (.aload_n 0, 1) := by decide +kernel
theorem dX9_number_33 : decode cX9_number 33 = .ok (.iconst 2, 1) := by decide +kernel
theorem dX9_number_34 : decode cX9_number 34 = .ok (.invokevirtual 81, 3) := by decide +kernel
theorem dX9_number_37 : decode cX9_number 37 = .ok (.goto 16, 3) := by decide +kernel
theorem dX9_number_40 : decode cX9_number 40 = .ok (.aload_n 0, 1) := by decide +kernel
theorem dX9_number_41 : decode cX9_number 41 = .ok (.getfield 22, 3) := by decide +kernel
theorem dX9_number_44 : decode cX9_number 44 = .ok (.iload_n 3, 1) := by decide +kernel
theorem dX9_number_45 : decode cX9_number 45 = .ok (.if_icmp .le 8, 3) := by decide +kernel
theorem dX9_number_48 : decode cX9_number 48 = .ok (.aload_n 0, 1) := by decide +kernel
theorem dX9_number_49 : decode cX9_number 49 = .ok (.iconst 4, 1) := by decide +kernel
theorem dX9_number_50 : decode cX9_number 50 = .ok (.invokevirtual 81, 3) := by decide +kernel
theorem dX9_number_53 : decode cX9_number 53 = .ok (.aload_n 0, 1) := by decide +kernel
theorem dX9_number_54 : decode cX9_number 54 = .ok (.getfield 25, 3) := by decide +kernel
theorem dX9_number_57 : decode cX9_number 57 = .ok (.ifCond .eq 5, 3) := by decide +kernel
theorem dX9_number_60 : decode cX9_number 60 = .ok (.iconst 0, 1) := by decide +kernel
theorem dX9_number_61 : decode cX9_number 61 = .ok (.ireturn, 1) := by decide +kernel
theorem dX9_number_62 : decode cX9_number 62 = .ok (.aload_n 0, 1) := by decide +kernel
theorem dX9_number_63 : decode cX9_number 63 = .ok (.getfield 22, 3) := by decide +kernel
theorem dX9_number_66 : decode cX9_number 66 = .ok (.istore 4, 2) := by decide +kernel
theorem dX9_number_68 : decode cX9_number 68 = .ok (.aload_n 0, 1) := by decide +kernel
theorem dX9_number_69 : decode cX9_number 69 = .ok (.invokevirtual 35, 3) := by decide +kernel
theorem dX9_number_72 : decode cX9_number 72 = .ok (.iload 4, 2) := by decide +kernel
theorem dX9_number_74 : decode cX9_number 74 = .ok (.ireturn, 1) := by decide +kernel
theorem hcX9_number : yX9_number.cls ≠ "java/lang/invoke/MethodHandle" ∧ yX9_number.cls ≠ "java/lang/invoke/VarHandle" ∧ (parseMethodDescriptor yX9_number.desc).map (fun d => d.parameters.length) = some 3 := ⟨by decide +kernel, by decide +kernel, by decide +kernel⟩
def fX9_number_j53  (Q : Int → sg_M → Prop) (s_53 : sg_M) : Prop := (((s_53 3 6) = 0 → fX9_advance s_53 (fun s5 => Q (s_53 3 5) s5)) ∧ (¬ ((s_53 3 6) = 0) → Q 0 s_53))
def fX9_number_j32 (s0 : sg_M) (k53 : sg_M → Prop)  : Prop := fX9_fail s0 2 (fun s8 => k53 s8)
def fX9_number (s0 : sg_M) (x1 : Int) (x2 : Int) (x3 : Int) (Q : Int → sg_M → Prop) : Prop := (((s0 3 2) = 2 → (((s0 3 5) < x1 → (fX9_number_j32 s0 (fX9_number_j53  Q))) ∧ (¬ ((s0 3 5) < x1) → (((s0 3 5) ≤ x2 → (((s0 3 5) ≤ x3 → (fX9_number_j53  Q) s0) ∧ (¬ ((s0 3 5) ≤ x3) → fX9_fail s0 4 (fun s14 => (fX9_number_j53  Q) s14)))) ∧ (¬ ((s0 3 5) ≤ x2) → (fX9_number_j32 s0 (fX9_number_j53  Q))))))) ∧ (¬ ((s0 3 2) = 2) → fX9_fail s0 1 (fun s15 => (fX9_number_j53  Q) s15)))
set_option maxHeartbeats 4000000 in
set_option maxRecDepth 100000 in
theorem CX9_number {l : Launch} {G : sg_G} {La : sg_L} {s0 : sg_M} (hst : sg_St La) {x1 : Int} (r1 : sg_R x1) {x2 : Int} (r2 : sg_R x2) {x3 : Int} (r3 : sg_R x3) {Q : Int → sg_M → Prop} (hf : fX9_number s0 x1 x2 x3 Q) : sg_C l G yX9_number cX9_number 5 (some .int) 3 0 0 La s0 [sg_r 3, sg_i x1, sg_i x2, sg_i x3] (sg_HI La Q) := by
  refine sg_body (by decide +kernel) (Nat.le_of_ble_eq_true rfl) ?_
  intro p e s m args below meth c F hnm
  unfold fX9_number at hf
  show sg_W p l e (sg_rm 3 0 0) s m args below meth c (MQ below (sg_Q (some .int) G La s.heap.size (sg_HI La Q)) args s 0 0 (sg_A La s.heap.size)) 5 G (sg_A La s.heap.size) La s0 0 0 0 [(0, sg_r 3), (1, sg_i x1), (2, sg_i x2), (3, sg_i x3)] []
  refine gw_aload_n F 0 rfl rfl (by decide) dX9_number_0 ?_
  refine gw_get0 F (so_3 hst) (by decide) rfl sg_lay_RX9 (j := 2) (by decide) rfl (host := "") (.inl kw_140) dX9_number_1 (fun h1 => ?_)
  refine gw_iconst F dX9_number_4 ?_
  have J53 : ∀ (s_53 : sg_M), (fX9_number_j53  Q) s_53 → sg_W p l e (sg_rm 3 0 0) s m args below meth c (MQ below (sg_Q (some .int) G La s.heap.size (sg_HI La Q)) args s 0 0 (sg_A La s.heap.size)) 5 G (sg_A La s.heap.size) La s_53 0 0 53 [(0, sg_r 3)] [] := by
    intro s_53 hf
    unfold fX9_number_j53 at hf
    refine gw_aload_n F 0 rfl rfl (by decide) dX9_number_53 ?_
    refine gw_get0 F (so_3 hst) (by decide) rfl sg_lay_RX9 (j := 6) (by decide) rfl (host := "") (.inl kw_144) dX9_number_54 (fun h2 => ?_)
    refine gw_if_eq F (tgt := 62) dX9_number_57 (by decide) h2 (fun c3 => ?_) (fun c3 => ?_)
    · have hf := hf.1 c3
      refine gw_aload_n F 0 rfl rfl (by decide) dX9_number_62 ?_
      refine gw_get0 F (so_3 hst) (by decide) rfl sg_lay_RX9 (j := 5) (by decide) rfl (host := "") (.inl kw_143) dX9_number_63 (fun h4 => ?_)
      refine gw_istore F (by decide) rfl dX9_number_66 ?_
      refine gw_aload_n F 1 rfl rfl (by decide) dX9_number_68 ?_
      refine gk_HV F (gc_V F (S := []) (As := []) (T := TX9) (N := 8) (CX9_advance hst hf) (so_3 hst) (by decide) rfl kw_368 kw_92 kw_365 kw_366 kw_367 hcX9_advance ⟨by decide, by decide⟩ rfl rfl (Nat.le_of_ble_eq_true rfl) ⟨by decide, by decide⟩ dX9_number_69) (fun s5 hf => ?_)
      refine gw_iload F 0 rfl dX9_number_72 ?_
      exact gr_HI F h4 hf (by decide) (by decide) dX9_number_74
    · have hf := hf.2 c3
      refine gw_iconst F dX9_number_60 ?_
      exact gr_HI F (by decide) hf (by decide) (by decide) dX9_number_61
  refine gw_icmp_eq F (tgt := 16) dX9_number_5 (by decide) h1 (by decide) (fun c6 => ?_) (fun c6 => ?_)
  · have hf := hf.1 c6
    refine gw_aload_n F 0 rfl rfl (by decide) dX9_number_16 ?_
    refine gw_get0 F (so_3 hst) (by decide) rfl sg_lay_RX9 (j := 5) (by decide) rfl (host := "") (.inl kw_143) dX9_number_17 (fun h7 => ?_)
    refine gw_iload_n F 1 rfl rfl dX9_number_20 ?_
    have J32 : (fX9_number_j32 s0 (fX9_number_j53  Q)) → sg_W p l e (sg_rm 3 0 0) s m args below meth c (MQ below (sg_Q (some .int) G La s.heap.size (sg_HI La Q)) args s 0 0 (sg_A La s.heap.size)) 5 G (sg_A La s.heap.size) La s0 0 0 32 [(0, sg_r 3)] [] := by
      intro hf
      unfold fX9_number_j32 at hf
      refine gw_aload_n F 0 rfl rfl (by decide) dX9_number_32 ?_
      refine gw_iconst F dX9_number_33 ?_
      refine gk_HV F (gc_V F (S := []) (As := [sg_i 2]) (T := TX9) (N := 8) (CX9_fail hst (by decide) hf) (so_3 hst) (by decide) rfl kw_457 kw_92 kw_454 kw_455 kw_456 hcX9_fail ⟨by decide, by decide⟩ rfl rfl (Nat.le_of_ble_eq_true rfl) ⟨by decide, by decide⟩ dX9_number_34) (fun s8 hf => ?_)
      refine gw_goto F (tgt := 53) dX9_number_37 (by decide) ?_
      refine gw_sub [0] rfl ?_
      exact J53 s8 hf
    refine gw_icmp_lt F (tgt := 32) dX9_number_21 (by decide) h7 r1 (fun c9 => ?_) (fun c9 => ?_)
    · have hf := hf.1 c9
      refine gw_sub [0] rfl ?_
      exact J32  hf
    · have hf := hf.2 c9
      refine gw_aload_n F 0 rfl rfl (by decide) dX9_number_24 ?_
      refine gw_get0 F (so_3 hst) (by decide) rfl sg_lay_RX9 (j := 5) (by decide) rfl (host := "") (.inl kw_143) dX9_number_25 (fun h10 => ?_)
      refine gw_iload_n F 2 rfl rfl dX9_number_28 ?_
      refine gw_icmp_le F (tgt := 40) dX9_number_29 (by decide) h10 r2 (fun c11 => ?_) (fun c11 => ?_)
      · have hf := hf.1 c11
        refine gw_aload_n F 0 rfl rfl (by decide) dX9_number_40 ?_
        refine gw_get0 F (so_3 hst) (by decide) rfl sg_lay_RX9 (j := 5) (by decide) rfl (host := "") (.inl kw_143) dX9_number_41 (fun h12 => ?_)
        refine gw_iload_n F 3 rfl rfl dX9_number_44 ?_
        refine gw_icmp_le F (tgt := 53) dX9_number_45 (by decide) h12 r3 (fun c13 => ?_) (fun c13 => ?_)
        · have hf := hf.1 c13
          refine gw_sub [0] rfl ?_
          exact J53 s0 hf
        · have hf := hf.2 c13
          refine gw_aload_n F 0 rfl rfl (by decide) dX9_number_48 ?_
          refine gw_iconst F dX9_number_49 ?_
          refine gk_HV F (gc_V F (S := []) (As := [sg_i 4]) (T := TX9) (N := 8) (CX9_fail hst (by decide) hf) (so_3 hst) (by decide) rfl kw_457 kw_92 kw_454 kw_455 kw_456 hcX9_fail ⟨by decide, by decide⟩ rfl rfl (Nat.le_of_ble_eq_true rfl) ⟨by decide, by decide⟩ dX9_number_50) (fun s14 hf => ?_)
          refine gw_sub [0] rfl ?_
          exact J53 s14 hf
      · have hf := hf.2 c11
        refine gw_sub [0] rfl ?_
        exact J32  hf
  · have hf := hf.2 c6
    refine gw_aload_n F 0 rfl rfl (by decide) dX9_number_8 ?_
    refine gw_iconst F dX9_number_9 ?_
    refine gk_HV F (gc_V F (S := []) (As := [sg_i 1]) (T := TX9) (N := 8) (CX9_fail hst (by decide) hf) (so_3 hst) (by decide) rfl kw_457 kw_92 kw_454 kw_455 kw_456 hcX9_fail ⟨by decide, by decide⟩ rfl rfl (Nat.le_of_ble_eq_true rfl) ⟨by decide, by decide⟩ dX9_number_10) (fun s15 hf => ?_)
    refine gw_goto F (tgt := 53) dX9_number_13 (by decide) ?_
    refine gw_sub [0] rfl ?_
    exact J53 s15 hf

theorem dX1_readOnce_0 : decode cX1_readOnce 0 = .ok (.iload_n 1, 1) := by decide +kernel
theorem dX1_readOnce_1 : decode cX1_readOnce 1 = .ok (.ifCond .eq 10, 3) := by decide +kernel
theorem dX1_readOnce_4 : decode cX1_readOnce 4 = .ok (.aload_n 0, 1) := by decide +kernel
theorem dX1_readOnce_5 : decode cX1_readOnce 5 = .ok (.iconst 3, 1) := by decide +kernel
theorem dX1_readOnce_6 : decode cX1_readOnce 6 = .ok (.invokevirtual 73, 3) := by decide +kernel
theorem dX1_readOnce_9 : decode cX1_readOnce 9 = .ok (.iload_n 1, 1) := by decide +kernel
theorem dX1_readOnce_10 : decode cX1_readOnce 10 = .ok (.ireturn, 1) := by decide +kernel
theorem dX1_readOnce_11 : decode cX1_readOnce 11 = .ok (.aload_n 0, 1) := by decide +kernel
theorem dX1_readOnce_12 : decode cX1_readOnce 12 = .ok (.invokevirtual 97, 3) := by decide +kernel
theorem dX1_readOnce_15 : decode cX1_readOnce 15 = .ok (.aload_n 0, 1) := by decide +kernel
theorem dX1_readOnce_16 : decode cX1_readOnce 16 = .ok (.iconst 1, 1) := by decide +kernel
theorem dX1_readOnce_17 : decode cX1_readOnce 17 = .ok (.sipush 9999, 3) := by decide +kernel
theorem dX1_readOnce_20 : decode cX1_readOnce 20 = .ok (.sipush 9999, 3) := by decide +kernel
theorem dX1_readOnce_23 : decode cX1_readOnce 23 = .ok (.invokevirtual 100, 3) := by decide +kernel
theorem dX1_readOnce_26 : decode cX1_readOnce 26 = .ok (.ireturn, 1) := by decide +kernel
theorem hcX1_readOnce : yX1_readOnce.cls ≠ "java/lang/invoke/MethodHandle" ∧ yX1_readOnce.cls ≠ "java/lang/invoke/VarHandle" ∧ (parseMethodDescriptor yX1_readOnce.desc).map (fun d => d.parameters.length) = some 2 := ⟨by decide +kernel, by decide +kernel, by decide +kernel⟩
def fX1_readOnce (s0 : sg_M) (x1 : Int) (Q : Int → sg_M → Prop) : Prop := ((x1 = 0 → fX9_advance s0 (fun s2 => fX9_number s2 1 9999 9999 (fun u3 s5 => Q u3 s5))) ∧ (¬ (x1 = 0) → fX9_fail s0 3 (fun s6 => Q x1 s6)))
set_option maxHeartbeats 4000000 in
set_option maxRecDepth 100000 in
theorem CX1_readOnce {l : Launch} {G : sg_G} {La : sg_L} {s0 : sg_M} (hst : sg_St La) {x1 : Int} (r1 : sg_R x1) {Q : Int → sg_M → Prop} (hf : fX1_readOnce s0 x1 Q) : sg_C l G yX1_readOnce cX1_readOnce 2 (some .int) 4 0 0 La s0 [sg_r 3, sg_i x1] (sg_HI La Q) := by
  refine sg_body (by decide +kernel) (Nat.le_of_ble_eq_true rfl) ?_
  intro p e s m args below meth c F hnm
  unfold fX1_readOnce at hf
  show sg_W p l e (sg_rm 4 0 0) s m args below meth c (MQ below (sg_Q (some .int) G La s.heap.size (sg_HI La Q)) args s 0 0 (sg_A La s.heap.size)) 2 G (sg_A La s.heap.size) La s0 0 0 0 [(0, sg_r 3), (1, sg_i x1)] []
  refine gw_iload_n F 1 rfl rfl dX1_readOnce_0 ?_
  refine gw_if_eq F (tgt := 11) dX1_readOnce_1 (by decide) r1 (fun c1 => ?_) (fun c1 => ?_)
  · have hf := hf.1 c1
    refine gw_aload_n F 0 rfl rfl (by decide) dX1_readOnce_11 ?_
    refine gk_HV F (gc_V F (S := []) (As := []) (T := TX9) (N := 8) (CX9_advance hst hf) (so_3 hst) (by decide) rfl kw_368 kw_92 kw_478 kw_366 kw_367 hcX9_advance ⟨by decide, by decide⟩ rfl rfl (Nat.le_of_ble_eq_true rfl) ⟨by decide, by decide⟩ dX1_readOnce_12) (fun s2 hf => ?_)
    refine gw_aload_n F 0 rfl rfl (by decide) dX1_readOnce_15 ?_
    refine gw_iconst F dX1_readOnce_16 ?_
    refine gw_sipush F rfl dX1_readOnce_17 ?_
    refine gw_sipush F rfl dX1_readOnce_20 ?_
    refine gk_HI F (gc_V F (S := []) (As := [sg_i 1, sg_i 9999, sg_i 9999]) (T := TX9) (N := 8) (CX9_number hst (by decide) (by decide) (by decide) hf) (so_3 hst) (by decide) rfl kw_453 kw_92 kw_450 kw_451 kw_452 hcX9_number ⟨by decide, by decide⟩ rfl rfl (Nat.le_of_ble_eq_true rfl) ⟨by decide, by decide⟩ dX1_readOnce_23) (fun u3 s5 h4 hf => ?_)
    exact gr_HI F h4 hf (by decide) (by decide) dX1_readOnce_26
  · have hf := hf.2 c1
    refine gw_aload_n F 0 rfl rfl (by decide) dX1_readOnce_4 ?_
    refine gw_iconst F dX1_readOnce_5 ?_
    refine gk_HV F (gc_V F (S := []) (As := [sg_i 3]) (T := TX9) (N := 8) (CX9_fail hst (by decide) hf) (so_3 hst) (by decide) rfl kw_457 kw_92 kw_477 kw_455 kw_456 hcX9_fail ⟨by decide, by decide⟩ rfl rfl (Nat.le_of_ble_eq_true rfl) ⟨by decide, by decide⟩ dX1_readOnce_6) (fun s6 hf => ?_)
    refine gw_iload_n F 1 rfl rfl dX1_readOnce_9 ?_
    exact gr_HI F r1 hf (by decide) (by decide) dX1_readOnce_10

theorem dX1_init_0 : decode cX1_init 0 = .ok (.aload_n 0, 1) := by decide +kernel
theorem dX1_init_1 : decode cX1_init 1 = .ok (.invokespecial 3, 3) := by decide +kernel
theorem dX1_init_4 : decode cX1_init 4 = .ok (.aload_n 0, 1) := by decide +kernel
theorem dX1_init_5 : decode cX1_init 5 = .ok (.bipush 60, 2) := by decide +kernel
theorem dX1_init_7 : decode cX1_init 7 = .ok (.newarray .int, 2) := by decide +kernel
theorem dX1_init_9 : decode cX1_init 9 = .ok (.putfield 9, 3) := by decide +kernel
theorem dX1_init_12 : decode cX1_init 12 = .ok (.aload_n 0, 1) := by decide +kernel
theorem dX1_init_13 : decode cX1_init 13 = .ok (.bipush 60, 2) := by decide +kernel
theorem dX1_init_15 : decode cX1_init 15 = .ok (.newarray .int, 2) := by decide +kernel
theorem dX1_init_17 : decode cX1_init 17 = .ok (.putfield 15, 3) := by decide +kernel
theorem dX1_init_20 : decode cX1_init 20 = .ok (.aload_n 0, 1) := by decide +kernel
theorem dX1_init_21 : decode cX1_init 21 = .ok (.bipush 60, 2) := by decide +kernel
theorem dX1_init_23 : decode cX1_init 23 = .ok (.newarray .int, 2) := by decide +kernel
theorem dX1_init_25 : decode cX1_init 25 = .ok (.putfield 18, 3) := by decide +kernel
theorem dX1_init_28 : decode cX1_init 28 = .ok (.aload_n 0, 1) := by decide +kernel
theorem dX1_init_29 : decode cX1_init 29 = .ok (.bipush 60, 2) := by decide +kernel
theorem dX1_init_31 : decode cX1_init 31 = .ok (.newarray .int, 2) := by decide +kernel
theorem dX1_init_33 : decode cX1_init 33 = .ok (.putfield 21, 3) := by decide +kernel
theorem dX1_init_36 : decode cX1_init 36 = .ok (.aload_n 0, 1) := by decide +kernel
theorem dX1_init_37 : decode cX1_init 37 = .ok (.iconst 0, 1) := by decide +kernel
theorem dX1_init_38 : decode cX1_init 38 = .ok (.putfield 24, 3) := by decide +kernel
theorem dX1_init_41 : decode cX1_init 41 = .ok (.aload_n 0, 1) := by decide +kernel
theorem dX1_init_42 : decode cX1_init 42 = .ok (.iconst 0, 1) := by decide +kernel
theorem dX1_init_43 : decode cX1_init 43 = .ok (.putfield 28, 3) := by decide +kernel
theorem dX1_init_46 : decode cX1_init 46 = .ok (.aload_n 0, 1) := by decide +kernel
theorem dX1_init_47 : decode cX1_init 47 = .ok (.iconst 0, 1) := by decide +kernel
theorem dX1_init_48 : decode cX1_init 48 = .ok (.putfield 31, 3) := by decide +kernel
theorem dX1_init_51 : decode cX1_init 51 = .ok (.return_, 1) := by decide +kernel
theorem hcX1_init : yX1_init.cls ≠ "java/lang/invoke/MethodHandle" ∧ yX1_init.cls ≠ "java/lang/invoke/VarHandle" ∧ (parseMethodDescriptor yX1_init.desc).map (fun d => d.parameters.length) = some 0 := ⟨by decide +kernel, by decide +kernel, by decide +kernel⟩
def fX1_init (La : sg_L) (s0 : sg_M) (o : Int) (Q : sg_L → sg_M → Prop) : Prop := ∀ (q1 : Nat) (La2 : sg_L), La2 = sg_pu La 10060 q1 → ∀ s3 : sg_M, s3 = sg_nw s0 La.1 10060 → ∀ o4 : Int, o4 = (La.1 : Int) → ∀ s14 : sg_M, s14 = sg_up s3 o 0 o4 → ∀ (q16 : Nat) (La17 : sg_L), La17 = sg_pu La2 10060 q16 → ∀ s18 : sg_M, s18 = sg_nw s14 La2.1 10060 → ∀ o19 : Int, o19 = (La2.1 : Int) → ∀ s29 : sg_M, s29 = sg_up s18 o 1 o19 → ∀ (q31 : Nat) (La32 : sg_L), La32 = sg_pu La17 10060 q31 → ∀ s33 : sg_M, s33 = sg_nw s29 La17.1 10060 → ∀ o34 : Int, o34 = (La17.1 : Int) → ∀ s44 : sg_M, s44 = sg_up s33 o 2 o34 → ∀ (q46 : Nat) (La47 : sg_L), La47 = sg_pu La32 10060 q46 → ∀ s48 : sg_M, s48 = sg_nw s44 La32.1 10060 → ∀ o49 : Int, o49 = (La32.1 : Int) → ∀ s59 : sg_M, s59 = sg_up s48 o 3 o49 → ∀ s61 : sg_M, s61 = sg_up s59 o 4 0 → ∀ s63 : sg_M, s63 = sg_up s61 o 5 0 → ∀ s65 : sg_M, s65 = sg_up s63 o 6 0 → sg_sealed La47 s65 o 21 1 ∧ ∀ La67 : sg_L, La67 = sg_se La47 o.toNat 1 → Q La67 s65
set_option maxHeartbeats 4000000 in
set_option maxRecDepth 100000 in
theorem CX1_init {l : Launch} {G : sg_G} {La : sg_L} {s0 : sg_M} {o : Int} (to : sg_O La o 21) {Q : sg_L → sg_M → Prop} (hf : fX1_init La s0 o Q) : sg_C l G yX1_init cX1_init 1 (none) 1 4 240 La s0 [sg_r o] (sg_BV (sg_se La o.toNat 1) Q) := by
  refine sg_body (by decide +kernel) (Nat.le_of_ble_eq_true rfl) ?_
  intro p e s m args below meth c F hnm
  unfold fX1_init at hf
  show sg_W p l e (sg_rm 1 4 240) s m args below meth c (MQ below (sg_Q (none) G La s.heap.size (sg_BV (sg_se La o.toNat 1) Q)) args s 4 240 (sg_A La s.heap.size)) 1 G (sg_A La s.heap.size) La s0 0 0 0 [(0, sg_r o)] []
  have hin : meth.name = "<init>" := hnm
  refine gw_aload_n F 0 rfl rfl to.1 dX1_init_0 ?_
  refine gw_objInit F to.1 kw_157 kw_OI kw_OC (Nat.le_of_ble_eq_true rfl) (by decide) (by decide) dX1_init_1 ?_
  refine gw_aload_n F 0 rfl rfl to.1 dX1_init_4 ?_
  refine gw_bipush F rfl dX1_init_5 ?_
  refine gy_newI F (N := 60) kw_131 rfl (by decide) (by decide) (by decide) (List.forall_mem_cons.mpr ⟨(Or.inl to.2.1), (fun _ h => absurd h List.not_mem_nil)⟩) (List.forall_mem_cons.mpr ⟨(Or.inl to.2.1), (fun _ h => absurd h List.not_mem_nil)⟩) dX1_init_7 (fun q1 La2 s3 o4 e5 e6 e7 t8 hX9 => ?_)
  have hf := hf q1 La2 e5 s3 e6 o4 e7
  have hn10 : La.1 ≤ o4.toNat := by rw [e7, Int.toNat_natCast]; exact (sg_X.rf : sg_X La La).1
  have t11 := to.X hX9
  have hX12 := sg_X.tr (sg_X.rf) hX9
  have t13 := sg_AN_of (n := 60) t8 (by decide) (by decide) (by decide)
  obtain ⟨s14, e15⟩ : ∃ z : sg_M, z = sg_up s3 o 0 o4 := ⟨_, rfl⟩
  have hf := hf s14 e15
  refine gw_put5F F t11 (by decide) rfl sg_lay_RX1 (j := 0) (by decide) (D0 := tyX1 0) (fun _ => ⟨rfl, rfl⟩) t13.1 t13.2.1 e15 tyX1_ok nmX1 rfl hin rfl (tyX1_ok 0 (by decide)) rfl (host := "") kw_158 dX1_init_9 ?_
  refine gw_aload_n F 0 rfl rfl t11.1 dX1_init_12 ?_
  refine gw_bipush F rfl dX1_init_13 ?_
  refine gy_newI F (N := 60) kw_131 rfl (by decide) (by decide) (by decide) (List.forall_mem_cons.mpr ⟨(Or.inl t11.2.1), (fun _ h => absurd h List.not_mem_nil)⟩) (List.forall_mem_cons.mpr ⟨(Or.inl t11.2.1), (fun _ h => absurd h List.not_mem_nil)⟩) dX1_init_15 (fun q16 La17 s18 o19 e20 e21 e22 t23 hX24 => ?_)
  have hf := hf q16 La17 e20 s18 e21 o19 e22
  have hn25 : La.1 ≤ o19.toNat := by rw [e22, Int.toNat_natCast]; exact (hX12 : sg_X La La2).1
  have t26 := t11.X hX24
  have hX27 := sg_X.tr (hX12) hX24
  have t28 := sg_AN_of (n := 60) t23 (by decide) (by decide) (by decide)
  obtain ⟨s29, e30⟩ : ∃ z : sg_M, z = sg_up s18 o 1 o19 := ⟨_, rfl⟩
  have hf := hf s29 e30
  refine gw_put5F F t26 (by decide) rfl sg_lay_RX1 (j := 1) (by decide) (D0 := tyX1 1) (fun _ => ⟨rfl, rfl⟩) t28.1 t28.2.1 e30 tyX1_ok nmX1 rfl hin rfl (tyX1_ok 1 (by decide)) rfl (host := "") kw_159 dX1_init_17 ?_
  refine gw_aload_n F 0 rfl rfl t26.1 dX1_init_20 ?_
  refine gw_bipush F rfl dX1_init_21 ?_
  refine gy_newI F (N := 60) kw_131 rfl (by decide) (by decide) (by decide) (List.forall_mem_cons.mpr ⟨(Or.inl t26.2.1), (fun _ h => absurd h List.not_mem_nil)⟩) (List.forall_mem_cons.mpr ⟨(Or.inl t26.2.1), (fun _ h => absurd h List.not_mem_nil)⟩) dX1_init_23 (fun q31 La32 s33 o34 e35 e36 e37 t38 hX39 => ?_)
  have hf := hf q31 La32 e35 s33 e36 o34 e37
  have hn40 : La.1 ≤ o34.toNat := by rw [e37, Int.toNat_natCast]; exact (hX27 : sg_X La La17).1
  have t41 := t26.X hX39
  have hX42 := sg_X.tr (hX27) hX39
  have t43 := sg_AN_of (n := 60) t38 (by decide) (by decide) (by decide)
  obtain ⟨s44, e45⟩ : ∃ z : sg_M, z = sg_up s33 o 2 o34 := ⟨_, rfl⟩
  have hf := hf s44 e45
  refine gw_put5F F t41 (by decide) rfl sg_lay_RX1 (j := 2) (by decide) (D0 := tyX1 2) (fun _ => ⟨rfl, rfl⟩) t43.1 t43.2.1 e45 tyX1_ok nmX1 rfl hin rfl (tyX1_ok 2 (by decide)) rfl (host := "") kw_161 dX1_init_25 ?_
  refine gw_aload_n F 0 rfl rfl t41.1 dX1_init_28 ?_
  refine gw_bipush F rfl dX1_init_29 ?_
  refine gy_newI F (N := 60) kw_131 rfl (by decide) (by decide) (by decide) (List.forall_mem_cons.mpr ⟨(Or.inl t41.2.1), (fun _ h => absurd h List.not_mem_nil)⟩) (List.forall_mem_cons.mpr ⟨(Or.inl t41.2.1), (fun _ h => absurd h List.not_mem_nil)⟩) dX1_init_31 (fun q46 La47 s48 o49 e50 e51 e52 t53 hX54 => ?_)
  have hf := hf q46 La47 e50 s48 e51 o49 e52
  have hn55 : La.1 ≤ o49.toNat := by rw [e52, Int.toNat_natCast]; exact (hX42 : sg_X La La32).1
  have t56 := t41.X hX54
  have hX57 := sg_X.tr (hX42) hX54
  have t58 := sg_AN_of (n := 60) t53 (by decide) (by decide) (by decide)
  obtain ⟨s59, e60⟩ : ∃ z : sg_M, z = sg_up s48 o 3 o49 := ⟨_, rfl⟩
  have hf := hf s59 e60
  refine gw_put5F F t56 (by decide) rfl sg_lay_RX1 (j := 3) (by decide) (D0 := tyX1 3) (fun _ => ⟨rfl, rfl⟩) t58.1 t58.2.1 e60 tyX1_ok nmX1 rfl hin rfl (tyX1_ok 3 (by decide)) rfl (host := "") kw_162 dX1_init_33 ?_
  refine gw_aload_n F 0 rfl rfl t56.1 dX1_init_36 ?_
  refine gw_iconst F dX1_init_37 ?_
  obtain ⟨s61, e62⟩ : ∃ z : sg_M, z = sg_up s59 o 4 0 := ⟨_, rfl⟩
  have hf := hf s61 e62
  refine gw_put0 F t56 (by decide) rfl sg_lay_RX1 (j := 4) (by decide) (by decide) e62 tyX1_ok nmX1 rfl (tyX1_ok 4 (by decide)) rfl (host := "") (.inl kw_163) dX1_init_38 ?_
  refine gw_aload_n F 0 rfl rfl t56.1 dX1_init_41 ?_
  refine gw_iconst F dX1_init_42 ?_
  obtain ⟨s63, e64⟩ : ∃ z : sg_M, z = sg_up s61 o 5 0 := ⟨_, rfl⟩
  have hf := hf s63 e64
  refine gw_put0 F t56 (by decide) rfl sg_lay_RX1 (j := 5) (by decide) (by decide) e64 tyX1_ok nmX1 rfl (tyX1_ok 5 (by decide)) rfl (host := "") (.inl kw_166) dX1_init_43 ?_
  refine gw_aload_n F 0 rfl rfl t56.1 dX1_init_46 ?_
  refine gw_iconst F dX1_init_47 ?_
  obtain ⟨s65, e66⟩ : ∃ z : sg_M, z = sg_up s63 o 6 0 := ⟨_, rfl⟩
  have hf := hf s65 e66
  refine gw_put0 F t56 (by decide) rfl sg_lay_RX1 (j := 6) (by decide) (by decide) e66 tyX1_ok nmX1 rfl (tyX1_ok 6 (by decide)) rfl (host := "") (.inl kw_169) dX1_init_48 ?_
  obtain ⟨g68, hf⟩ := hf
  obtain ⟨La67, e69⟩ : ∃ z : sg_L, z = sg_se La47 o.toNat 1 := ⟨_, rfl⟩
  have hf := hf La67 e69
  refine gw_seal t56 ⟨by decide, by decide, by decide⟩ (by decide) (by decide) g68.1 g68.2 ?_
  rw [← e69]
  exact gr_BC F hf (e69 ▸ (sg_X.both hX57)) (by decide) (by decide) dX1_init_51

theorem dX9_isWord_0 : decode cX9_isWord 0 = .ok (.aload_n 0, 1) := by decide +kernel
theorem dX9_isWord_1 : decode cX9_isWord 1 = .ok (.getfield 25, 3) := by decide +kernel
theorem dX9_isWord_4 : decode cX9_isWord 4 = .ok (.ifCond .ne 27, 3) := by decide +kernel
theorem dX9_isWord_7 : decode cX9_isWord 7 = .ok (.aload_n 0, 1) := by decide +kernel
theorem dX9_isWord_8 : decode cX9_isWord 8 = .ok (.getfield 13, 3) := by decide +kernel
theorem dX9_isWord_11 : decode cX9_isWord 11 = .ok (.iconst 1, 1) := by decide +kernel
theorem dX9_isWord_12 : decode cX9_isWord 12 = .ok (.if_icmp .ne 19, 3) := by decide +kernel
theorem dX9_isWord_15 : decode cX9_isWord 15 = .ok (.aload_n 0, 1) := by decide +kernel
theorem dX9_isWord_16 : decode cX9_isWord 16 = .ok (.getfield 19, 3) := by decide +kernel
theorem dX9_isWord_19 : decode cX9_isWord 19 = .ok (.aload_n 0, 1) := by decide +kernel
theorem dX9_isWord_20 : decode cX9_isWord 20 = .ok (.getfield 16, 3) := by decide +kernel
theorem dX9_isWord_23 : decode cX9_isWord 23 = .ok (.isub, 1) := by decide +kernel
theorem dX9_isWord_24 : decode cX9_isWord 24 = .ok (.aload_n 1, 1) := by decide +kernel
theorem dX9_isWord_25 : decode cX9_isWord 25 = .ok (.invokevirtual 61, 3) := by decide +kernel
theorem dX9_isWord_28 : decode cX9_isWord 28 = .ok (.if_icmp .eq 5, 3) := by decide +kernel
theorem dX9_isWord_31 : decode cX9_isWord 31 = .ok (.iconst 0, 1) := by decide +kernel
theorem dX9_isWord_32 : decode cX9_isWord 32 = .ok (.ireturn, 1) := by decide +kernel
theorem dX9_isWord_33 : decode cX9_isWord 33 = .ok (.iconst 0, 1) := by decide +kernel
theorem dX9_isWord_34 : decode cX9_isWord 34 = .ok (.istore_n 2, 1) := by decide +kernel
theorem dX9_isWord_35 : decode cX9_isWord 35 = .ok (.iload_n 2, 1) := by decide +kernel
theorem dX9_isWord_36 : decode cX9_isWord 36 = .ok (.aload_n 1, 1) := by decide +kernel
theorem dX9_isWord_37 : decode cX9_isWord 37 = .ok (.invokevirtual 61, 3) := by decide +kernel
theorem dX9_isWord_40 : decode cX9_isWord 40 = .ok (.if_icmp .ge 32, 3) := by decide +kernel
theorem dX9_isWord_43 : decode cX9_isWord 43 = .ok (.aload_n 0, 1) := by decide +kernel
theorem dX9_isWord_44 : decode cX9_isWord 44 = .ok (.getfield 31, 3) := by decide +kernel
theorem dX9_isWord_47 : decode cX9_isWord 47 = .ok (.aload_n 0, 1) := by decide +kernel
theorem dX9_isWord_48 : decode cX9_isWord 48 = .ok (.getfield 16, 3) := by decide +kernel
theorem dX9_isWord_51 : decode cX9_isWord 51 = .ok (.iload_n 2, 1) := by decide +kernel
theorem dX9_isWord_52 : decode cX9_isWord 52 = .ok (.iadd, 1) := by decide +kernel
theorem dX9_isWord_53 : decode cX9_isWord 53 = .ok (.invokevirtual 38, 3) := by decide +kernel
theorem dX9_isWord_56 : decode cX9_isWord 56 = .ok (.aload_n 1, 1) := by decide +kernel
theorem dX9_isWord_57 : decode cX9_isWord 57 = .ok (.iload_n 2, 1) := by decide +kernel
theorem dX9_isWord_58 : decode cX9_isWord 58 = .ok (.invokevirtual 67, 3) := by decide +kernel
theorem dX9_isWord_61 : decode cX9_isWord 61 = .ok (.if_icmp .eq 5, 3) := by decide +kernel
theorem dX9_isWord_64 : decode cX9_isWord 64 = .ok (.iconst 0, 1) := by decide +kernel
theorem dX9_isWord_65 : decode cX9_isWord 65 = .ok (.ireturn, 1) := by decide +kernel
theorem dX9_isWord_66 : decode cX9_isWord 66 = .ok (.iinc 2 1, 3) := by decide +kernel
theorem dX9_isWord_69 : decode cX9_isWord 69 = .ok (.goto (-34), 3) := by decide +kernel
theorem dX9_isWord_72 : decode cX9_isWord 72 = .ok (.iconst 1, 1) := by decide +kernel
theorem dX9_isWord_73 : decode cX9_isWord 73 = .ok (.ireturn, 1) := by decide +kernel
theorem hcX9_isWord : yX9_isWord.cls ≠ "java/lang/invoke/MethodHandle" ∧ yX9_isWord.cls ≠ "java/lang/invoke/VarHandle" ∧ (parseMethodDescriptor yX9_isWord.desc).map (fun d => d.parameters.length) = some 1 := ⟨by decide +kernel, by decide +kernel, by decide +kernel⟩
def fX9_isWord_L35 (s0 : sg_M) (w1 : Nat) (Q : Int → Prop) : Nat → Int → Prop
  | 0, _ => False
  | n_35 + 1, x2_35 => (((sg_sl w1) ≤ x2_35 → Q 1) ∧ (¬ ((sg_sl w1) ≤ x2_35) → sg_R ((s0 3 3) + x2_35) ∧ fX8_byteAt s0 ((s0 3 3) + x2_35) (fun u13 => (0 ≤ x2_35 ∧ x2_35 < (sg_sl w1)) ∧ ((u13 = (sg_sc w1 x2_35) → sg_R (x2_35 + 1) ∧ (fX9_isWord_L35 s0 w1 Q n_35) (x2_35 + 1)) ∧ (¬ (u13 = (sg_sc w1 x2_35)) → Q 0)))))
def fX9_isWord (s0 : sg_M) (w1 : Nat) (Q : Int → Prop) : Prop := (((s0 3 6) ≠ 0 → Q 0) ∧ ((s0 3 6) = 0 → (((s0 3 2) ≠ 1 → Q 0) ∧ ((s0 3 2) = 1 → sg_R ((s0 3 4) - (s0 3 3)) ∧ ((((s0 3 4) - (s0 3 3)) = (sg_sl w1) → (∃ n18 : Nat, fX9_isWord_L35 s0 w1 Q n18 0)) ∧ (¬ (((s0 3 4) - (s0 3 3)) = (sg_sl w1)) → Q 0))))))
set_option maxHeartbeats 4000000 in
set_option maxRecDepth 100000 in
theorem CX9_isWord {l : Launch} {G : sg_G} {La : sg_L} {s0 : sg_M} (hst : sg_St La) {w1 : Nat} (hw1 : w1 < 25) {Q : Int → Prop} (hf : fX9_isWord s0 w1 Q) : sg_C l G yX9_isWord cX9_isWord 3 (some .boolean) 5 0 0 La s0 [sg_r 3, sg_a (G.2.2.1 w1)] (sg_PZ La s0 Q) := by
  refine sg_body (by decide +kernel) (Nat.le_of_ble_eq_true rfl) ?_
  intro p e s m args below meth c F hnm
  unfold fX9_isWord at hf
  show sg_W p l e (sg_rm 5 0 0) s m args below meth c (MQ below (sg_Q (some .boolean) G La s.heap.size (sg_PZ La s0 Q)) args s 0 0 (sg_A La s.heap.size)) 3 G (sg_A La s.heap.size) La s0 0 0 0 [(0, sg_r 3), (1, sg_a (G.2.2.1 w1))] []
  refine gw_aload_n F 0 rfl rfl (by decide) dX9_isWord_0 ?_
  refine gw_get0 F (so_3 hst) (by decide) rfl sg_lay_RX9 (j := 6) (by decide) rfl (host := "") (.inl kw_144) dX9_isWord_1 (fun h1 => ?_)
  refine gw_if_ne F (tgt := 31) dX9_isWord_4 (by decide) h1 (fun c2 => ?_) (fun c2 => ?_)
  · have hf := hf.1 c2
    refine gw_iconst F dX9_isWord_31 ?_
    exact gr_PZ F (by decide) hf (by decide) (by decide) dX9_isWord_32
  · have hf := hf.2 c2
    refine gw_aload_n F 0 rfl rfl (by decide) dX9_isWord_7 ?_
    refine gw_get0 F (so_3 hst) (by decide) rfl sg_lay_RX9 (j := 2) (by decide) rfl (host := "") (.inl kw_140) dX9_isWord_8 (fun h3 => ?_)
    refine gw_iconst F dX9_isWord_11 ?_
    refine gw_icmp_ne F (tgt := 31) dX9_isWord_12 (by decide) h3 (by decide) (fun c4 => ?_) (fun c4 => ?_)
    · have hf := hf.1 c4
      refine gw_iconst F dX9_isWord_31 ?_
      exact gr_PZ F (by decide) hf (by decide) (by decide) dX9_isWord_32
    · have hf := hf.2 c4
      refine gw_aload_n F 0 rfl rfl (by decide) dX9_isWord_15 ?_
      refine gw_get0 F (so_3 hst) (by decide) rfl sg_lay_RX9 (j := 4) (by decide) rfl (host := "") (.inl kw_142) dX9_isWord_16 (fun h5 => ?_)
      refine gw_aload_n F 0 rfl rfl (by decide) dX9_isWord_19 ?_
      refine gw_get0 F (so_3 hst) (by decide) rfl sg_lay_RX9 (j := 3) (by decide) rfl (host := "") (.inl kw_141) dX9_isWord_20 (fun h6 => ?_)
      refine gw_isub F rfl dX9_isWord_23 ?_
      refine gw_aload_na F 1 rfl rfl dX9_isWord_24 ?_
      refine gw_strlen F hw1 (Nat.le_of_ble_eq_true rfl) ⟨by decide, by decide⟩ ⟨by decide, by decide⟩ dX9_isWord_25 ?_
      obtain ⟨g7, hf⟩ := hf
      refine gw_icmp_eq F (tgt := 33) dX9_isWord_28 (by decide) g7 (sg_sl_R _) (fun c8 => ?_) (fun c8 => ?_)
      · have hf := hf.1 c8
        refine gw_iconst F dX9_isWord_33 ?_
        refine gw_istore_n F rfl (by decide) rfl dX9_isWord_34 ?_
        have L35 : ∀ n_35 : Nat, ∀ (x2_35 : Int), sg_R x2_35 → fX9_isWord_L35 s0 w1 Q n_35 x2_35 → sg_W p l e (sg_rm 5 0 0) s m args below meth c (MQ below (sg_Q (some .boolean) G La s.heap.size (sg_PZ La s0 Q)) args s 0 0 (sg_A La s.heap.size)) 3 G (sg_A La s.heap.size) La s0 0 0 35 [(0, sg_r 3), (1, sg_a (G.2.2.1 w1)), (2, sg_i x2_35)] [] := by
          intro n_35
          induction n_35 with
          | zero => intro x2_35 r2_35 hf; exact hf.elim
          | succ n_35 ih =>
            intro x2_35 r2_35 hf
            unfold fX9_isWord_L35 at hf
            refine gw_iload_n F 2 rfl rfl dX9_isWord_35 ?_
            refine gw_aload_na F 1 rfl rfl dX9_isWord_36 ?_
            refine gw_strlen F hw1 (Nat.le_of_ble_eq_true rfl) ⟨by decide, by decide⟩ ⟨by decide, by decide⟩ dX9_isWord_37 ?_
            refine gw_icmp_ge F (tgt := 72) dX9_isWord_40 (by decide) r2_35 (sg_sl_R _) (fun c9 => ?_) (fun c9 => ?_)
            · have hf := hf.1 c9
              refine gw_iconst F dX9_isWord_72 ?_
              exact gr_PZ F (by decide) hf (by decide) (by decide) dX9_isWord_73
            · have hf := hf.2 c9
              refine gw_aload_n F 0 rfl rfl (by decide) dX9_isWord_43 ?_
              refine gw_get7 F (so_3 hst) (by decide) rfl sg_lay_RX9 (j := 0) (by decide) (o1 := 1) (by first | rfl | omega) rfl (host := "") (.inl kw_138) dX9_isWord_44 (fun h10 => ?_)
              refine gw_aload_n F 0 rfl rfl (by decide) dX9_isWord_47 ?_
              refine gw_get0 F (so_3 hst) (by decide) rfl sg_lay_RX9 (j := 3) (by decide) rfl (host := "") (.inl kw_141) dX9_isWord_48 (fun h11 => ?_)
              refine gw_iload_n F 2 rfl rfl dX9_isWord_51 ?_
              refine gw_iadd F rfl dX9_isWord_52 ?_
              obtain ⟨g12, hf⟩ := hf
              refine gk_PI F (gc_V F (S := []) (As := [sg_i ((s0 3 3) + x2_35)]) (T := TX8) (N := 2) (CX8_byteAt hst g12 hf) (so_1 hst) (by decide) rfl kw_372 kw_91 kw_369 kw_370 kw_371 hcX8_byteAt ⟨by decide, by decide⟩ rfl rfl (Nat.le_of_ble_eq_true rfl) ⟨by decide, by decide⟩ dX9_isWord_53) (fun u13 h14 hf => ?_)
              refine gw_aload_na F 1 rfl rfl dX9_isWord_56 ?_
              refine gw_iload_n F 2 rfl rfl dX9_isWord_57 ?_
              obtain ⟨⟨b150, b151⟩, hf⟩ := hf
              refine gw_charAt F hw1 b150 b151 (Nat.le_of_ble_eq_true rfl) ⟨by decide, by decide⟩ ⟨by decide, by decide⟩ dX9_isWord_58 ?_
              refine gw_icmp_eq F (tgt := 66) dX9_isWord_61 (by decide) h14 (sg_sc_R _ _) (fun c16 => ?_) (fun c16 => ?_)
              · have hf := hf.1 c16
                refine gw_iinc F (z := (x2_35 + 1)) 2 rfl (by omega) (by decide) rfl dX9_isWord_66 ?_
                refine gw_goto F (tgt := 35) dX9_isWord_69 (by decide) ?_
                obtain ⟨g17, hf⟩ := hf
                refine gw_sub [1, 2, 0] rfl ?_
                exact ih (x2_35 + 1) g17 hf
              · have hf := hf.2 c16
                refine gw_iconst F dX9_isWord_64 ?_
                exact gr_PZ F (by decide) hf (by decide) (by decide) dX9_isWord_65
        obtain ⟨n18, hf⟩ := hf
        refine gw_sub [1, 2, 0] rfl ?_
        refine L35   n18 0 (by decide) hf
      · have hf := hf.2 c8
        refine gw_iconst F dX9_isWord_31 ?_
        exact gr_PZ F (by decide) hf (by decide) (by decide) dX9_isWord_32

theorem dX1_addAlike_0 : decode cX1_addAlike 0 = .ok (.iconst 0, 1) := by decide +kernel
theorem dX1_addAlike_1 : decode cX1_addAlike 1 = .ok (.istore 6, 2) := by decide +kernel
theorem dX1_addAlike_3 : decode cX1_addAlike 3 = .ok (.iload 6, 2) := by decide +kernel
theorem dX1_addAlike_5 : decode cX1_addAlike 5 = .ok (.iload_n 1, 1) := by decide +kernel
theorem dX1_addAlike_6 : decode cX1_addAlike 6 = .ok (.if_icmp .ge 77, 3) := by decide +kernel
theorem dX1_addAlike_9 : decode cX1_addAlike 9 = .ok (.aload_n 0, 1) := by decide +kernel
theorem dX1_addAlike_10 : decode cX1_addAlike 10 = .ok (.getfield 24, 3) := by decide +kernel
theorem dX1_addAlike_13 : decode cX1_addAlike 13 = .ok (.ifCond .lt 70, 3) := by decide +kernel
theorem dX1_addAlike_16 : decode cX1_addAlike 16 = .ok (.aload_n 0, 1) := by decide +kernel
theorem dX1_addAlike_17 : decode cX1_addAlike 17 = .ok (.getfield 24, 3) := by decide +kernel
theorem dX1_addAlike_20 : decode cX1_addAlike 20 = .ok (.bipush 60, 2) := by decide +kernel
theorem dX1_addAlike_22 : decode cX1_addAlike 22 = .ok (.if_icmp .ge 61, 3) := by decide +kernel
theorem dX1_addAlike_25 : decode cX1_addAlike 25 = .ok (.aload_n 0, 1) := by decide +kernel
theorem dX1_addAlike_26 : decode cX1_addAlike 26 = .ok (.getfield 9, 3) := by decide +kernel
theorem dX1_addAlike_29 : decode cX1_addAlike 29 = .ok (.aload_n 0, 1) := by decide +kernel
theorem dX1_addAlike_30 : decode cX1_addAlike 30 = .ok (.getfield 24, 3) := by decide +kernel
theorem dX1_addAlike_33 : decode cX1_addAlike 33 = .ok (.iload_n 2, 1) := by decide +kernel
theorem dX1_addAlike_34 : decode cX1_addAlike 34 = .ok (.iastore, 1) := by decide +kernel
theorem dX1_addAlike_35 : decode cX1_addAlike 35 = .ok (.aload_n 0, 1) := by decide +kernel
theorem dX1_addAlike_36 : decode cX1_addAlike 36 = .ok (.getfield 15, 3) := by decide +kernel
theorem dX1_addAlike_39 : decode cX1_addAlike 39 = .ok (.aload_n 0, 1) := by decide +kernel
theorem dX1_addAlike_40 : decode cX1_addAlike 40 = .ok (.getfield 24, 3) := by decide +kernel
theorem dX1_addAlike_43 : decode cX1_addAlike 43 = .ok (.iload_n 3, 1) := by decide +kernel
theorem dX1_addAlike_44 : decode cX1_addAlike 44 = .ok (.iastore, 1) := by decide +kernel
theorem dX1_addAlike_45 : decode cX1_addAlike 45 = .ok (.aload_n 0, 1) := by decide +kernel
theorem dX1_addAlike_46 : decode cX1_addAlike 46 = .ok (.getfield 18, 3) := by decide +kernel
theorem dX1_addAlike_49 : decode cX1_addAlike 49 = .ok (.aload_n 0, 1) := by decide +kernel
theorem dX1_addAlike_50 : decode cX1_addAlike 50 = .ok (.getfield 24, 3) := by decide +kernel
theorem dX1_addAlike_53 : decode cX1_addAlike 53 = .ok (.iload 4, 2) := by decide +kernel
theorem dX1_addAlike_55 : decode cX1_addAlike 55 = .ok (.iastore, 1) := by decide +kernel
theorem dX1_addAlike_56 : decode cX1_addAlike 56 = .ok (.aload_n 0, 1) := by decide +kernel
theorem dX1_addAlike_57 : decode cX1_addAlike 57 = .ok (.getfield 21, 3) := by decide +kernel
theorem dX1_addAlike_60 : decode cX1_addAlike 60 = .ok (.aload_n 0, 1) := by decide +kernel
theorem dX1_addAlike_61 : decode cX1_addAlike 61 = .ok (.getfield 24, 3) := by decide +kernel
theorem dX1_addAlike_64 : decode cX1_addAlike 64 = .ok (.iload 5, 2) := by decide +kernel
theorem dX1_addAlike_66 : decode cX1_addAlike 66 = .ok (.iastore, 1) := by decide +kernel
theorem dX1_addAlike_67 : decode cX1_addAlike 67 = .ok (.aload_n 0, 1) := by decide +kernel
theorem dX1_addAlike_68 : decode cX1_addAlike 68 = .ok (.dup, 1) := by decide +kernel
theorem dX1_addAlike_69 : decode cX1_addAlike 69 = .ok (.getfield 24, 3) := by decide +kernel
theorem dX1_addAlike_72 : decode cX1_addAlike 72 = .ok (.iconst 1, 1) := by decide +kernel
theorem dX1_addAlike_73 : decode cX1_addAlike 73 = .ok (.iadd, 1) := by decide +kernel
theorem dX1_addAlike_74 : decode cX1_addAlike 74 = .ok (.putfield 24, 3) := by decide +kernel
theorem dX1_addAlike_77 : decode cX1_addAlike 77 = .ok (.iinc 6 1, 3) := by decide +kernel
theorem dX1_addAlike_80 : decode cX1_addAlike 80 = .ok (.goto (-77), 3) := by decide +kernel
theorem dX1_addAlike_83 : decode cX1_addAlike 83 = .ok (.return_, 1) := by decide +kernel
theorem hcX1_addAlike : yX1_addAlike.cls ≠ "java/lang/invoke/MethodHandle" ∧ yX1_addAlike.cls ≠ "java/lang/invoke/VarHandle" ∧ (parseMethodDescriptor yX1_addAlike.desc).map (fun d => d.parameters.length) = some 5 := ⟨by decide +kernel, by decide +kernel, by decide +kernel⟩
def fX1_addAlike_L3 (o : Int) (x1 : Int) (x2 : Int) (x3 : Int) (x4 : Int) (x5 : Int) (Q : sg_M → Prop) : Nat → sg_M → Int → Prop
  | 0, _, _ => False
  | n_3 + 1, s_3, x6_3 => ((x1 ≤ x6_3 → Q s_3) ∧ (¬ (x1 ≤ x6_3) → (((s_3 o 4) < 0 → Q s_3) ∧ (¬ ((s_3 o 4) < 0) → ((60 ≤ (s_3 o 4) → Q s_3) ∧ (¬ (60 ≤ (s_3 o 4)) → (0 ≤ (s_3 o 4) ∧ (s_3 o 4) < 60) ∧ ∀ s9 : sg_M, s9 = sg_up s_3 (o + 1) (s_3 o 4) x2 → (0 ≤ (s9 o 4) ∧ (s9 o 4) < 60) ∧ ∀ s14 : sg_M, s14 = sg_up s9 (o + 2) (s9 o 4) x3 → (0 ≤ (s14 o 4) ∧ (s14 o 4) < 60) ∧ ∀ s19 : sg_M, s19 = sg_up s14 (o + 3) (s14 o 4) x4 → (0 ≤ (s19 o 4) ∧ (s19 o 4) < 60) ∧ ∀ s24 : sg_M, s24 = sg_up s19 (o + 4) (s19 o 4) x5 → sg_R ((s24 o 4) + 1) ∧ ∀ s28 : sg_M, s28 = sg_up s24 o 4 ((s24 o 4) + 1) → sg_R (x6_3 + 1) ∧ (fX1_addAlike_L3 o x1 x2 x3 x4 x5 Q n_3) s28 (x6_3 + 1)))))))
def fX1_addAlike (s0 : sg_M) (o : Int) (x1 : Int) (x2 : Int) (x3 : Int) (x4 : Int) (x5 : Int) (Q : sg_M → Prop) : Prop := (∃ n31 : Nat, fX1_addAlike_L3 o x1 x2 x3 x4 x5 Q n31 s0 0)
set_option maxHeartbeats 4000000 in
set_option maxRecDepth 100000 in
theorem CX1_addAlike {l : Launch} {G : sg_G} {La : sg_L} {s0 : sg_M} {o : Int} (to : sg_O La o 1) {x1 : Int} (r1 : sg_R x1) {x2 : Int} (r2 : sg_R x2) {x3 : Int} (r3 : sg_R x3) {x4 : Int} (r4 : sg_R x4) {x5 : Int} (r5 : sg_R x5) {Q : sg_M → Prop} (hf : fX1_addAlike s0 o x1 x2 x3 x4 x5 Q) : sg_C l G yX1_addAlike cX1_addAlike 7 (none) 1 0 0 La s0 [sg_r o, sg_i x1, sg_i x2, sg_i x3, sg_i x4, sg_i x5] (sg_HV La Q) := by
  refine sg_body (by decide +kernel) (Nat.le_of_ble_eq_true rfl) ?_
  intro p e s m args below meth c F hnm
  unfold fX1_addAlike at hf
  show sg_W p l e (sg_rm 1 0 0) s m args below meth c (MQ below (sg_Q (none) G La s.heap.size (sg_HV La Q)) args s 0 0 (sg_A La s.heap.size)) 7 G (sg_A La s.heap.size) La s0 0 0 0 [(0, sg_r o), (1, sg_i x1), (2, sg_i x2), (3, sg_i x3), (4, sg_i x4), (5, sg_i x5)] []
  refine gw_iconst F dX1_addAlike_0 ?_
  refine gw_istore F (by decide) rfl dX1_addAlike_1 ?_
  have L3 : ∀ n_3 : Nat, ∀ (s_3 : sg_M) (x6_3 : Int), sg_R x6_3 → fX1_addAlike_L3 o x1 x2 x3 x4 x5 Q n_3 s_3 x6_3 → sg_W p l e (sg_rm 1 0 0) s m args below meth c (MQ below (sg_Q (none) G La s.heap.size (sg_HV La Q)) args s 0 0 (sg_A La s.heap.size)) 7 G (sg_A La s.heap.size) La s_3 0 0 3 [(0, sg_r o), (1, sg_i x1), (2, sg_i x2), (3, sg_i x3), (4, sg_i x4), (5, sg_i x5), (6, sg_i x6_3)] [] := by
    intro n_3
    induction n_3 with
    | zero => intro s_3 x6_3 r6_3 hf; exact hf.elim
    | succ n_3 ih =>
      intro s_3 x6_3 r6_3 hf
      unfold fX1_addAlike_L3 at hf
      refine gw_iload F 6 rfl dX1_addAlike_3 ?_
      refine gw_iload_n F 1 rfl rfl dX1_addAlike_5 ?_
      refine gw_icmp_ge F (tgt := 83) dX1_addAlike_6 (by decide) r6_3 r1 (fun c1 => ?_) (fun c1 => ?_)
      · have hf := hf.1 c1
        exact gr_HV F hf (by decide) (by decide) dX1_addAlike_83
      · have hf := hf.2 c1
        refine gw_aload_n F 0 rfl rfl to.1 dX1_addAlike_9 ?_
        refine gw_get0 F to (by decide) rfl sg_lay_RX1 (j := 4) (by decide) rfl (host := "") (.inl kw_163) dX1_addAlike_10 (fun h2 => ?_)
        refine gw_if_lt F (tgt := 83) dX1_addAlike_13 (by decide) h2 (fun c3 => ?_) (fun c3 => ?_)
        · have hf := hf.1 c3
          exact gr_HV F hf (by decide) (by decide) dX1_addAlike_83
        · have hf := hf.2 c3
          refine gw_aload_n F 0 rfl rfl to.1 dX1_addAlike_16 ?_
          refine gw_get0 F to (by decide) rfl sg_lay_RX1 (j := 4) (by decide) rfl (host := "") (.inl kw_163) dX1_addAlike_17 (fun h4 => ?_)
          refine gw_bipush F rfl dX1_addAlike_20 ?_
          refine gw_icmp_ge F (tgt := 83) dX1_addAlike_22 (by decide) h4 (by decide) (fun c5 => ?_) (fun c5 => ?_)
          · have hf := hf.1 c5
            exact gr_HV F hf (by decide) (by decide) dX1_addAlike_83
          · have hf := hf.2 c5
            refine gw_aload_n F 0 rfl rfl to.1 dX1_addAlike_25 ?_
            refine gw_get3 F to (by decide) rfl sg_lay_RX1 (j := 0) (by decide) (o1 := (o + 1)) (by first | rfl | omega) rfl (host := "") (.inl kw_158) dX1_addAlike_26 (fun h6 => ?_)
            refine gw_aload_n F 0 rfl rfl to.1 dX1_addAlike_29 ?_
            refine gw_get0 F to (by decide) rfl sg_lay_RX1 (j := 4) (by decide) rfl (host := "") (.inl kw_163) dX1_addAlike_30 (fun h7 => ?_)
            refine gw_iload_n F 2 rfl rfl dX1_addAlike_33 ?_
            obtain ⟨⟨b80, b81⟩, hf⟩ := hf
            obtain ⟨s9, e10⟩ : ∃ z : sg_M, z = sg_up s_3 (o + 1) (s_3 o 4) x2 := ⟨_, rfl⟩
            have hf := hf s9 e10
            refine gw_iast F (sg_AN_of (sg_O_of h6 (by decide)) (by decide) (by decide) (by decide)) b80 b81 r2 e10 dX1_addAlike_34 ?_
            refine gw_aload_n F 0 rfl rfl to.1 dX1_addAlike_35 ?_
            refine gw_get3 F to (by decide) rfl sg_lay_RX1 (j := 1) (by decide) (o1 := (o + 2)) (by first | rfl | omega) rfl (host := "") (.inl kw_159) dX1_addAlike_36 (fun h11 => ?_)
            refine gw_aload_n F 0 rfl rfl to.1 dX1_addAlike_39 ?_
            refine gw_get0 F to (by decide) rfl sg_lay_RX1 (j := 4) (by decide) rfl (host := "") (.inl kw_163) dX1_addAlike_40 (fun h12 => ?_)
            refine gw_iload_n F 3 rfl rfl dX1_addAlike_43 ?_
            obtain ⟨⟨b130, b131⟩, hf⟩ := hf
            obtain ⟨s14, e15⟩ : ∃ z : sg_M, z = sg_up s9 (o + 2) (s9 o 4) x3 := ⟨_, rfl⟩
            have hf := hf s14 e15
            refine gw_iast F (sg_AN_of (sg_O_of h11 (by decide)) (by decide) (by decide) (by decide)) b130 b131 r3 e15 dX1_addAlike_44 ?_
            refine gw_aload_n F 0 rfl rfl to.1 dX1_addAlike_45 ?_
            refine gw_get3 F to (by decide) rfl sg_lay_RX1 (j := 2) (by decide) (o1 := (o + 3)) (by first | rfl | omega) rfl (host := "") (.inl kw_161) dX1_addAlike_46 (fun h16 => ?_)
            refine gw_aload_n F 0 rfl rfl to.1 dX1_addAlike_49 ?_
            refine gw_get0 F to (by decide) rfl sg_lay_RX1 (j := 4) (by decide) rfl (host := "") (.inl kw_163) dX1_addAlike_50 (fun h17 => ?_)
            refine gw_iload F 4 rfl dX1_addAlike_53 ?_
            obtain ⟨⟨b180, b181⟩, hf⟩ := hf
            obtain ⟨s19, e20⟩ : ∃ z : sg_M, z = sg_up s14 (o + 3) (s14 o 4) x4 := ⟨_, rfl⟩
            have hf := hf s19 e20
            refine gw_iast F (sg_AN_of (sg_O_of h16 (by decide)) (by decide) (by decide) (by decide)) b180 b181 r4 e20 dX1_addAlike_55 ?_
            refine gw_aload_n F 0 rfl rfl to.1 dX1_addAlike_56 ?_
            refine gw_get3 F to (by decide) rfl sg_lay_RX1 (j := 3) (by decide) (o1 := (o + 4)) (by first | rfl | omega) rfl (host := "") (.inl kw_162) dX1_addAlike_57 (fun h21 => ?_)
            refine gw_aload_n F 0 rfl rfl to.1 dX1_addAlike_60 ?_
            refine gw_get0 F to (by decide) rfl sg_lay_RX1 (j := 4) (by decide) rfl (host := "") (.inl kw_163) dX1_addAlike_61 (fun h22 => ?_)
            refine gw_iload F 5 rfl dX1_addAlike_64 ?_
            obtain ⟨⟨b230, b231⟩, hf⟩ := hf
            obtain ⟨s24, e25⟩ : ∃ z : sg_M, z = sg_up s19 (o + 4) (s19 o 4) x5 := ⟨_, rfl⟩
            have hf := hf s24 e25
            refine gw_iast F (sg_AN_of (sg_O_of h21 (by decide)) (by decide) (by decide) (by decide)) b230 b231 r5 e25 dX1_addAlike_66 ?_
            refine gw_aload_n F 0 rfl rfl to.1 dX1_addAlike_67 ?_
            refine gw_dup F rfl dX1_addAlike_68 ?_
            refine gw_get0 F to (by decide) rfl sg_lay_RX1 (j := 4) (by decide) rfl (host := "") (.inl kw_163) dX1_addAlike_69 (fun h26 => ?_)
            refine gw_iconst F dX1_addAlike_72 ?_
            refine gw_iadd F rfl dX1_addAlike_73 ?_
            obtain ⟨g27, hf⟩ := hf
            obtain ⟨s28, e29⟩ : ∃ z : sg_M, z = sg_up s24 o 4 ((s24 o 4) + 1) := ⟨_, rfl⟩
            have hf := hf s28 e29
            refine gw_put0 F to (by decide) rfl sg_lay_RX1 (j := 4) (by decide) g27 e29 tyX1_ok nmX1 rfl (tyX1_ok 4 (by decide)) rfl (host := "") (.inl kw_163) dX1_addAlike_74 ?_
            refine gw_iinc F (z := (x6_3 + 1)) 6 rfl (by omega) (by decide) rfl dX1_addAlike_77 ?_
            refine gw_goto F (tgt := 3) dX1_addAlike_80 (by decide) ?_
            obtain ⟨g30, hf⟩ := hf
            refine gw_sub [1, 2, 3, 4, 5, 6, 0] rfl ?_
            exact ih s28 (x6_3 + 1) g30 hf
  obtain ⟨n31, hf⟩ := hf
  refine gw_sub [1, 2, 3, 4, 5, 6, 0] rfl ?_
  refine L3   n31 s0 0 (by decide) hf

theorem dX1_copyFrom_0 : decode cX1_copyFrom 0 = .ok (.aload_n 0, 1) := by decide +kernel
theorem dX1_copyFrom_1 : decode cX1_copyFrom 1 = .ok (.iconst 0, 1) := by decide +kernel
theorem dX1_copyFrom_2 : decode cX1_copyFrom 2 = .ok (.putfield 24, 3) := by decide +kernel
theorem dX1_copyFrom_5 : decode cX1_copyFrom 5 = .ok (.iconst 0, 1) := by decide +kernel
theorem dX1_copyFrom_6 : decode cX1_copyFrom 6 = .ok (.istore_n 2, 1) := by decide +kernel
theorem dX1_copyFrom_7 : decode cX1_copyFrom 7 = .ok (.iload_n 2, 1) := by decide +kernel
theorem dX1_copyFrom_8 : decode cX1_copyFrom 8 = .ok (.aload_n 1, 1) := by decide +kernel
theorem dX1_copyFrom_9 : decode cX1_copyFrom 9 = .ok (.getfield 24, 3) := by decide +kernel
theorem dX1_copyFrom_12 : decode cX1_copyFrom 12 = .ok (.if_icmp .ge 44, 3) := by decide +kernel
theorem dX1_copyFrom_15 : decode cX1_copyFrom 15 = .ok (.iload_n 2, 1) := by decide +kernel
theorem dX1_copyFrom_16 : decode cX1_copyFrom 16 = .ok (.bipush 60, 2) := by decide +kernel
theorem dX1_copyFrom_18 : decode cX1_copyFrom 18 = .ok (.if_icmp .ge 38, 3) := by decide +kernel
theorem dX1_copyFrom_21 : decode cX1_copyFrom 21 = .ok (.aload_n 0, 1) := by decide +kernel
theorem dX1_copyFrom_22 : decode cX1_copyFrom 22 = .ok (.iconst 1, 1) := by decide +kernel
theorem dX1_copyFrom_23 : decode cX1_copyFrom 23 = .ok (.aload_n 1, 1) := by decide +kernel
theorem dX1_copyFrom_24 : decode cX1_copyFrom 24 = .ok (.getfield 9, 3) := by decide +kernel
theorem dX1_copyFrom_27 : decode cX1_copyFrom 27 = .ok (.iload_n 2, 1) := by decide +kernel
theorem dX1_copyFrom_28 : decode cX1_copyFrom 28 = .ok (.iaload, 1) := by decide +kernel
theorem dX1_copyFrom_29 : decode cX1_copyFrom 29 = .ok (.aload_n 1, 1) := by decide +kernel
theorem dX1_copyFrom_30 : decode cX1_copyFrom 30 = .ok (.getfield 15, 3) := by decide +kernel
theorem dX1_copyFrom_33 : decode cX1_copyFrom 33 = .ok (.iload_n 2, 1) := by decide +kernel
theorem dX1_copyFrom_34 : decode cX1_copyFrom 34 = .ok (.iaload, 1) := by decide +kernel
theorem dX1_copyFrom_35 : decode cX1_copyFrom 35 = .ok (.aload_n 1, 1) := by decide +kernel
theorem dX1_copyFrom_36 : decode cX1_copyFrom 36 = .ok (.getfield 18, 3) := by decide +kernel
theorem dX1_copyFrom_39 : decode cX1_copyFrom 39 = .ok (.iload_n 2, 1) := by decide +kernel
theorem dX1_copyFrom_40 : decode cX1_copyFrom 40 = .ok (.iaload, 1) := by decide +kernel
theorem dX1_copyFrom_41 : decode cX1_copyFrom 41 = .ok (.aload_n 1, 1) := by decide +kernel
theorem dX1_copyFrom_42 : decode cX1_copyFrom 42 = .ok (.getfield 21, 3) := by decide +kernel
theorem dX1_copyFrom_45 : decode cX1_copyFrom 45 = .ok (.iload_n 2, 1) := by decide +kernel
theorem dX1_copyFrom_46 : decode cX1_copyFrom 46 = .ok (.iaload, 1) := by decide +kernel
theorem dX1_copyFrom_47 : decode cX1_copyFrom 47 = .ok (.invokevirtual 34, 3) := by decide +kernel
theorem dX1_copyFrom_50 : decode cX1_copyFrom 50 = .ok (.iinc 2 1, 3) := by decide +kernel
theorem dX1_copyFrom_53 : decode cX1_copyFrom 53 = .ok (.goto (-46), 3) := by decide +kernel
theorem dX1_copyFrom_56 : decode cX1_copyFrom 56 = .ok (.aload_n 0, 1) := by decide +kernel
theorem dX1_copyFrom_57 : decode cX1_copyFrom 57 = .ok (.aload_n 1, 1) := by decide +kernel
theorem dX1_copyFrom_58 : decode cX1_copyFrom 58 = .ok (.getfield 28, 3) := by decide +kernel
theorem dX1_copyFrom_61 : decode cX1_copyFrom 61 = .ok (.putfield 28, 3) := by decide +kernel
theorem dX1_copyFrom_64 : decode cX1_copyFrom 64 = .ok (.aload_n 0, 1) := by decide +kernel
theorem dX1_copyFrom_65 : decode cX1_copyFrom 65 = .ok (.aload_n 1, 1) := by decide +kernel
theorem dX1_copyFrom_66 : decode cX1_copyFrom 66 = .ok (.getfield 31, 3) := by decide +kernel
theorem dX1_copyFrom_69 : decode cX1_copyFrom 69 = .ok (.putfield 31, 3) := by decide +kernel
theorem dX1_copyFrom_72 : decode cX1_copyFrom 72 = .ok (.return_, 1) := by decide +kernel
theorem hcX1_copyFrom : yX1_copyFrom.cls ≠ "java/lang/invoke/MethodHandle" ∧ yX1_copyFrom.cls ≠ "java/lang/invoke/VarHandle" ∧ (parseMethodDescriptor yX1_copyFrom.desc).map (fun d => d.parameters.length) = some 1 := ⟨by decide +kernel, by decide +kernel, by decide +kernel⟩
def fX1_copyFrom_L7 (o : Int) (o1 : Int) (Q : sg_M → Prop) : Nat → sg_M → Int → Prop
  | 0, _, _ => False
  | n_7 + 1, s_7, x2_7 => (((s_7 o1 4) ≤ x2_7 → ∀ s6 : sg_M, s6 = sg_up s_7 o 5 (s_7 o1 5) → ∀ s9 : sg_M, s9 = sg_up s6 o 6 (s6 o1 6) → Q s9) ∧ (¬ ((s_7 o1 4) ≤ x2_7) → ((60 ≤ x2_7 → ∀ s13 : sg_M, s13 = sg_up s_7 o 5 (s_7 o1 5) → ∀ s16 : sg_M, s16 = sg_up s13 o 6 (s13 o1 6) → Q s16) ∧ (¬ (60 ≤ x2_7) → (0 ≤ x2_7 ∧ x2_7 < 60) ∧ (0 ≤ x2_7 ∧ x2_7 < 60) ∧ (0 ≤ x2_7 ∧ x2_7 < 60) ∧ (0 ≤ x2_7 ∧ x2_7 < 60) ∧ fX1_addAlike s_7 o 1 (s_7 (o1 + 1) x2_7) (s_7 (o1 + 2) x2_7) (s_7 (o1 + 3) x2_7) (s_7 (o1 + 4) x2_7) (fun s30 => sg_R (x2_7 + 1) ∧ (fX1_copyFrom_L7 o o1 Q n_7) s30 (x2_7 + 1))))))
def fX1_copyFrom (s0 : sg_M) (o : Int) (o1 : Int) (Q : sg_M → Prop) : Prop := ∀ s1 : sg_M, s1 = sg_up s0 o 4 0 → (∃ n32 : Nat, fX1_copyFrom_L7 o o1 Q n32 s1 0)
set_option maxHeartbeats 4000000 in
set_option maxRecDepth 100000 in
theorem CX1_copyFrom {l : Launch} {G : sg_G} {La : sg_L} {s0 : sg_M} {o : Int} (to : sg_O La o 1) {o1 : Int} (t1 : sg_O La o1 1) {Q : sg_M → Prop} (hf : fX1_copyFrom s0 o o1 Q) : sg_C l G yX1_copyFrom cX1_copyFrom 3 (none) 2 0 0 La s0 [sg_r o, sg_r o1] (sg_HV La Q) := by
  refine sg_body (by decide +kernel) (Nat.le_of_ble_eq_true rfl) ?_
  intro p e s m args below meth c F hnm
  unfold fX1_copyFrom at hf
  show sg_W p l e (sg_rm 2 0 0) s m args below meth c (MQ below (sg_Q (none) G La s.heap.size (sg_HV La Q)) args s 0 0 (sg_A La s.heap.size)) 3 G (sg_A La s.heap.size) La s0 0 0 0 [(0, sg_r o), (1, sg_r o1)] []
  refine gw_aload_n F 0 rfl rfl to.1 dX1_copyFrom_0 ?_
  refine gw_iconst F dX1_copyFrom_1 ?_
  obtain ⟨s1, e2⟩ : ∃ z : sg_M, z = sg_up s0 o 4 0 := ⟨_, rfl⟩
  have hf := hf s1 e2
  refine gw_put0 F to (by decide) rfl sg_lay_RX1 (j := 4) (by decide) (by decide) e2 tyX1_ok nmX1 rfl (tyX1_ok 4 (by decide)) rfl (host := "") (.inl kw_163) dX1_copyFrom_2 ?_
  refine gw_iconst F dX1_copyFrom_5 ?_
  refine gw_istore_n F rfl (by decide) rfl dX1_copyFrom_6 ?_
  have L7 : ∀ n_7 : Nat, ∀ (s_7 : sg_M) (x2_7 : Int), sg_R x2_7 → fX1_copyFrom_L7 o o1 Q n_7 s_7 x2_7 → sg_W p l e (sg_rm 2 0 0) s m args below meth c (MQ below (sg_Q (none) G La s.heap.size (sg_HV La Q)) args s 0 0 (sg_A La s.heap.size)) 3 G (sg_A La s.heap.size) La s_7 0 0 7 [(0, sg_r o), (1, sg_r o1), (2, sg_i x2_7)] [] := by
    intro n_7
    induction n_7 with
    | zero => intro s_7 x2_7 r2_7 hf; exact hf.elim
    | succ n_7 ih =>
      intro s_7 x2_7 r2_7 hf
      unfold fX1_copyFrom_L7 at hf
      refine gw_iload_n F 2 rfl rfl dX1_copyFrom_7 ?_
      refine gw_aload_n F 1 rfl rfl t1.1 dX1_copyFrom_8 ?_
      refine gw_get0 F t1 (by decide) rfl sg_lay_RX1 (j := 4) (by decide) rfl (host := "") (.inl kw_163) dX1_copyFrom_9 (fun h3 => ?_)
      refine gw_icmp_ge F (tgt := 56) dX1_copyFrom_12 (by decide) r2_7 h3 (fun c4 => ?_) (fun c4 => ?_)
      · have hf := hf.1 c4
        refine gw_aload_n F 0 rfl rfl to.1 dX1_copyFrom_56 ?_
        refine gw_aload_n F 1 rfl rfl t1.1 dX1_copyFrom_57 ?_
        refine gw_get0 F t1 (by decide) rfl sg_lay_RX1 (j := 5) (by decide) rfl (host := "") (.inl kw_166) dX1_copyFrom_58 (fun h5 => ?_)
        obtain ⟨s6, e7⟩ : ∃ z : sg_M, z = sg_up s_7 o 5 (s_7 o1 5) := ⟨_, rfl⟩
        have hf := hf s6 e7
        refine gw_put0 F to (by decide) rfl sg_lay_RX1 (j := 5) (by decide) h5 e7 tyX1_ok nmX1 rfl (tyX1_ok 5 (by decide)) rfl (host := "") (.inl kw_166) dX1_copyFrom_61 ?_
        refine gw_aload_n F 0 rfl rfl to.1 dX1_copyFrom_64 ?_
        refine gw_aload_n F 1 rfl rfl t1.1 dX1_copyFrom_65 ?_
        refine gw_get0 F t1 (by decide) rfl sg_lay_RX1 (j := 6) (by decide) rfl (host := "") (.inl kw_169) dX1_copyFrom_66 (fun h8 => ?_)
        obtain ⟨s9, e10⟩ : ∃ z : sg_M, z = sg_up s6 o 6 (s6 o1 6) := ⟨_, rfl⟩
        have hf := hf s9 e10
        refine gw_put0 F to (by decide) rfl sg_lay_RX1 (j := 6) (by decide) h8 e10 tyX1_ok nmX1 rfl (tyX1_ok 6 (by decide)) rfl (host := "") (.inl kw_169) dX1_copyFrom_69 ?_
        exact gr_HV F hf (by decide) (by decide) dX1_copyFrom_72
      · have hf := hf.2 c4
        refine gw_iload_n F 2 rfl rfl dX1_copyFrom_15 ?_
        refine gw_bipush F rfl dX1_copyFrom_16 ?_
        refine gw_icmp_ge F (tgt := 56) dX1_copyFrom_18 (by decide) r2_7 (by decide) (fun c11 => ?_) (fun c11 => ?_)
        · have hf := hf.1 c11
          refine gw_aload_n F 0 rfl rfl to.1 dX1_copyFrom_56 ?_
          refine gw_aload_n F 1 rfl rfl t1.1 dX1_copyFrom_57 ?_
          refine gw_get0 F t1 (by decide) rfl sg_lay_RX1 (j := 5) (by decide) rfl (host := "") (.inl kw_166) dX1_copyFrom_58 (fun h12 => ?_)
          obtain ⟨s13, e14⟩ : ∃ z : sg_M, z = sg_up s_7 o 5 (s_7 o1 5) := ⟨_, rfl⟩
          have hf := hf s13 e14
          refine gw_put0 F to (by decide) rfl sg_lay_RX1 (j := 5) (by decide) h12 e14 tyX1_ok nmX1 rfl (tyX1_ok 5 (by decide)) rfl (host := "") (.inl kw_166) dX1_copyFrom_61 ?_
          refine gw_aload_n F 0 rfl rfl to.1 dX1_copyFrom_64 ?_
          refine gw_aload_n F 1 rfl rfl t1.1 dX1_copyFrom_65 ?_
          refine gw_get0 F t1 (by decide) rfl sg_lay_RX1 (j := 6) (by decide) rfl (host := "") (.inl kw_169) dX1_copyFrom_66 (fun h15 => ?_)
          obtain ⟨s16, e17⟩ : ∃ z : sg_M, z = sg_up s13 o 6 (s13 o1 6) := ⟨_, rfl⟩
          have hf := hf s16 e17
          refine gw_put0 F to (by decide) rfl sg_lay_RX1 (j := 6) (by decide) h15 e17 tyX1_ok nmX1 rfl (tyX1_ok 6 (by decide)) rfl (host := "") (.inl kw_169) dX1_copyFrom_69 ?_
          exact gr_HV F hf (by decide) (by decide) dX1_copyFrom_72
        · have hf := hf.2 c11
          refine gw_aload_n F 0 rfl rfl to.1 dX1_copyFrom_21 ?_
          refine gw_iconst F dX1_copyFrom_22 ?_
          refine gw_aload_n F 1 rfl rfl t1.1 dX1_copyFrom_23 ?_
          refine gw_get3 F t1 (by decide) rfl sg_lay_RX1 (j := 0) (by decide) (o1 := (o1 + 1)) (by first | rfl | omega) rfl (host := "") (.inl kw_158) dX1_copyFrom_24 (fun h18 => ?_)
          refine gw_iload_n F 2 rfl rfl dX1_copyFrom_27 ?_
          obtain ⟨⟨b190, b191⟩, hf⟩ := hf
          refine gw_iald F (sg_AN_of (sg_O_of h18 (by decide)) (by decide) (by decide) (by decide)) b190 b191 dX1_copyFrom_28 (fun h20 => ?_)
          refine gw_aload_n F 1 rfl rfl t1.1 dX1_copyFrom_29 ?_
          refine gw_get3 F t1 (by decide) rfl sg_lay_RX1 (j := 1) (by decide) (o1 := (o1 + 2)) (by first | rfl | omega) rfl (host := "") (.inl kw_159) dX1_copyFrom_30 (fun h21 => ?_)
          refine gw_iload_n F 2 rfl rfl dX1_copyFrom_33 ?_
          obtain ⟨⟨b220, b221⟩, hf⟩ := hf
          refine gw_iald F (sg_AN_of (sg_O_of h21 (by decide)) (by decide) (by decide) (by decide)) b220 b221 dX1_copyFrom_34 (fun h23 => ?_)
          refine gw_aload_n F 1 rfl rfl t1.1 dX1_copyFrom_35 ?_
          refine gw_get3 F t1 (by decide) rfl sg_lay_RX1 (j := 2) (by decide) (o1 := (o1 + 3)) (by first | rfl | omega) rfl (host := "") (.inl kw_161) dX1_copyFrom_36 (fun h24 => ?_)
          refine gw_iload_n F 2 rfl rfl dX1_copyFrom_39 ?_
          obtain ⟨⟨b250, b251⟩, hf⟩ := hf
          refine gw_iald F (sg_AN_of (sg_O_of h24 (by decide)) (by decide) (by decide) (by decide)) b250 b251 dX1_copyFrom_40 (fun h26 => ?_)
          refine gw_aload_n F 1 rfl rfl t1.1 dX1_copyFrom_41 ?_
          refine gw_get3 F t1 (by decide) rfl sg_lay_RX1 (j := 3) (by decide) (o1 := (o1 + 4)) (by first | rfl | omega) rfl (host := "") (.inl kw_162) dX1_copyFrom_42 (fun h27 => ?_)
          refine gw_iload_n F 2 rfl rfl dX1_copyFrom_45 ?_
          obtain ⟨⟨b280, b281⟩, hf⟩ := hf
          refine gw_iald F (sg_AN_of (sg_O_of h27 (by decide)) (by decide) (by decide) (by decide)) b280 b281 dX1_copyFrom_46 (fun h29 => ?_)
          refine gk_HV F (gc_V F (S := []) (As := [sg_i 1, sg_i (s_7 (o1 + 1) x2_7), sg_i (s_7 (o1 + 2) x2_7), sg_i (s_7 (o1 + 3) x2_7), sg_i (s_7 (o1 + 4) x2_7)]) (T := TX1) (N := 7) (CX1_addAlike to (by decide) h20 h23 h26 h29 hf) to (by decide) rfl kw_321 kw_94 kw_472 kw_319 kw_320 hcX1_addAlike ⟨by decide, by decide⟩ rfl rfl (Nat.le_of_ble_eq_true rfl) ⟨by decide, by decide⟩ dX1_copyFrom_47) (fun s30 hf => ?_)
          refine gw_iinc F (z := (x2_7 + 1)) 2 rfl (by omega) (by decide) rfl dX1_copyFrom_50 ?_
          refine gw_goto F (tgt := 7) dX1_copyFrom_53 (by decide) ?_
          obtain ⟨g31, hf⟩ := hf
          refine gw_sub [1, 2, 0] rfl ?_
          exact ih s30 (x2_7 + 1) g31 hf
  obtain ⟨n32, hf⟩ := hf
  refine gw_sub [1, 2, 0] rfl ?_
  refine L7   n32 s1 0 (by decide) hf

theorem dX1_thicken_0 : decode cX1_thicken 0 = .ok (.aload_n 0, 1) := by decide +kernel
theorem dX1_thicken_1 : decode cX1_thicken 1 = .ok (.getfield 24, 3) := by decide +kernel
theorem dX1_thicken_4 : decode cX1_thicken 4 = .ok (.iconst 1, 1) := by decide +kernel
theorem dX1_thicken_5 : decode cX1_thicken 5 = .ok (.isub, 1) := by decide +kernel
theorem dX1_thicken_6 : decode cX1_thicken 6 = .ok (.istore_n 3, 1) := by decide +kernel
theorem dX1_thicken_7 : decode cX1_thicken 7 = .ok (.iload_n 3, 1) := by decide +kernel
theorem dX1_thicken_8 : decode cX1_thicken 8 = .ok (.iconst 1, 1) := by decide +kernel
theorem dX1_thicken_9 : decode cX1_thicken 9 = .ok (.if_icmp .ge 4, 3) := by decide +kernel
theorem dX1_thicken_12 : decode cX1_thicken 12 = .ok (.return_, 1) := by decide +kernel
theorem dX1_thicken_13 : decode cX1_thicken 13 = .ok (.iconst 0, 1) := by decide +kernel
theorem dX1_thicken_14 : decode cX1_thicken 14 = .ok (.istore 4, 2) := by decide +kernel
theorem dX1_thicken_16 : decode cX1_thicken 16 = .ok (.iload 4, 2) := by decide +kernel
theorem dX1_thicken_18 : decode cX1_thicken 18 = .ok (.aload_n 0, 1) := by decide +kernel
theorem dX1_thicken_19 : decode cX1_thicken 19 = .ok (.getfield 24, 3) := by decide +kernel
theorem dX1_thicken_22 : decode cX1_thicken 22 = .ok (.if_icmp .ge 33, 3) := by decide +kernel
theorem dX1_thicken_25 : decode cX1_thicken 25 = .ok (.iload 4, 2) := by decide +kernel
theorem dX1_thicken_27 : decode cX1_thicken 27 = .ok (.bipush 60, 2) := by decide +kernel
theorem dX1_thicken_29 : decode cX1_thicken 29 = .ok (.if_icmp .ge 26, 3) := by decide +kernel
theorem dX1_thicken_32 : decode cX1_thicken 32 = .ok (.aload_n 0, 1) := by decide +kernel
theorem dX1_thicken_33 : decode cX1_thicken 33 = .ok (.getfield 15, 3) := by decide +kernel
theorem dX1_thicken_36 : decode cX1_thicken 36 = .ok (.iload 4, 2) := by decide +kernel
theorem dX1_thicken_38 : decode cX1_thicken 38 = .ok (.iload_n 1, 1) := by decide +kernel
theorem dX1_thicken_39 : decode cX1_thicken 39 = .ok (.iload_n 2, 1) := by decide +kernel
theorem dX1_thicken_40 : decode cX1_thicken 40 = .ok (.iload_n 1, 1) := by decide +kernel
theorem dX1_thicken_41 : decode cX1_thicken 41 = .ok (.isub, 1) := by decide +kernel
theorem dX1_thicken_42 : decode cX1_thicken 42 = .ok (.iload 4, 2) := by decide +kernel
theorem dX1_thicken_44 : decode cX1_thicken 44 = .ok (.imul, 1) := by decide +kernel
theorem dX1_thicken_45 : decode cX1_thicken 45 = .ok (.iload_n 3, 1) := by decide +kernel
theorem dX1_thicken_46 : decode cX1_thicken 46 = .ok (.idiv, 1) := by decide +kernel
theorem dX1_thicken_47 : decode cX1_thicken 47 = .ok (.iadd, 1) := by decide +kernel
theorem dX1_thicken_48 : decode cX1_thicken 48 = .ok (.iastore, 1) := by decide +kernel
theorem dX1_thicken_49 : decode cX1_thicken 49 = .ok (.iinc 4 1, 3) := by decide +kernel
theorem dX1_thicken_52 : decode cX1_thicken 52 = .ok (.goto (-36), 3) := by decide +kernel
theorem dX1_thicken_55 : decode cX1_thicken 55 = .ok (.return_, 1) := by decide +kernel
theorem hcX1_thicken : yX1_thicken.cls ≠ "java/lang/invoke/MethodHandle" ∧ yX1_thicken.cls ≠ "java/lang/invoke/VarHandle" ∧ (parseMethodDescriptor yX1_thicken.desc).map (fun d => d.parameters.length) = some 2 := ⟨by decide +kernel, by decide +kernel, by decide +kernel⟩
def fX1_thicken_L16 (s0 : sg_M) (o : Int) (x1 : Int) (x2 : Int) (Q : sg_M → Prop) : Nat → sg_M → Int → Prop
  | 0, _, _ => False
  | n_16 + 1, s_16, x4_16 => (((s_16 o 4) ≤ x4_16 → Q s_16) ∧ (¬ ((s_16 o 4) ≤ x4_16) → ((60 ≤ x4_16 → Q s_16) ∧ (¬ (60 ≤ x4_16) → sg_R ((x2 - x1) * x4_16) ∧ (((s0 o 4) - 1) ≠ 0) ∧ (0 ≤ x4_16 ∧ x4_16 < 60) ∧ sg_R (x1 + (Int.tdiv ((x2 - x1) * x4_16) ((s0 o 4) - 1))) ∧ ∀ v12 : Int, v12 = (x1 + (Int.tdiv ((x2 - x1) * x4_16) ((s0 o 4) - 1))) → ∀ s14 : sg_M, s14 = sg_up s_16 (o + 2) x4_16 v12 → sg_R (x4_16 + 1) ∧ (fX1_thicken_L16 s0 o x1 x2 Q n_16) s14 (x4_16 + 1)))))
def fX1_thicken (s0 : sg_M) (o : Int) (x1 : Int) (x2 : Int) (Q : sg_M → Prop) : Prop := sg_R ((s0 o 4) - 1) ∧ ((1 ≤ ((s0 o 4) - 1) → (∃ n17 : Nat, fX1_thicken_L16 s0 o x1 x2 Q n17 s0 0)) ∧ (¬ (1 ≤ ((s0 o 4) - 1)) → Q s0))
set_option maxHeartbeats 4000000 in
set_option maxRecDepth 100000 in
theorem CX1_thicken {l : Launch} {G : sg_G} {La : sg_L} {s0 : sg_M} {o : Int} (to : sg_O La o 1) {x1 : Int} (r1 : sg_R x1) {x2 : Int} (r2 : sg_R x2) {Q : sg_M → Prop} (hf : fX1_thicken s0 o x1 x2 Q) : sg_C l G yX1_thicken cX1_thicken 5 (none) 1 0 0 La s0 [sg_r o, sg_i x1, sg_i x2] (sg_HV La Q) := by
  refine sg_body (by decide +kernel) (Nat.le_of_ble_eq_true rfl) ?_
  intro p e s m args below meth c F hnm
  unfold fX1_thicken at hf
  show sg_W p l e (sg_rm 1 0 0) s m args below meth c (MQ below (sg_Q (none) G La s.heap.size (sg_HV La Q)) args s 0 0 (sg_A La s.heap.size)) 5 G (sg_A La s.heap.size) La s0 0 0 0 [(0, sg_r o), (1, sg_i x1), (2, sg_i x2)] []
  refine gw_aload_n F 0 rfl rfl to.1 dX1_thicken_0 ?_
  refine gw_get0 F to (by decide) rfl sg_lay_RX1 (j := 4) (by decide) rfl (host := "") (.inl kw_163) dX1_thicken_1 (fun h1 => ?_)
  refine gw_iconst F dX1_thicken_4 ?_
  refine gw_isub F rfl dX1_thicken_5 ?_
  refine gw_istore_n F rfl (by decide) rfl dX1_thicken_6 ?_
  refine gw_iload_n F 0 rfl rfl dX1_thicken_7 ?_
  refine gw_iconst F dX1_thicken_8 ?_
  obtain ⟨g2, hf⟩ := hf
  refine gw_icmp_ge F (tgt := 13) dX1_thicken_9 (by decide) g2 (by decide) (fun c3 => ?_) (fun c3 => ?_)
  · have hf := hf.1 c3
    refine gw_iconst F dX1_thicken_13 ?_
    refine gw_istore F (by decide) rfl dX1_thicken_14 ?_
    have L16 : ∀ n_16 : Nat, ∀ (s_16 : sg_M) (x4_16 : Int), sg_R x4_16 → fX1_thicken_L16 s0 o x1 x2 Q n_16 s_16 x4_16 → sg_W p l e (sg_rm 1 0 0) s m args below meth c (MQ below (sg_Q (none) G La s.heap.size (sg_HV La Q)) args s 0 0 (sg_A La s.heap.size)) 5 G (sg_A La s.heap.size) La s_16 0 0 16 [(0, sg_r o), (1, sg_i x1), (2, sg_i x2), (3, sg_i ((s0 o 4) - 1)), (4, sg_i x4_16)] [] := by
      intro n_16
      induction n_16 with
      | zero => intro s_16 x4_16 r4_16 hf; exact hf.elim
      | succ n_16 ih =>
        intro s_16 x4_16 r4_16 hf
        unfold fX1_thicken_L16 at hf
        refine gw_iload F 4 rfl dX1_thicken_16 ?_
        refine gw_aload_n F 0 rfl rfl to.1 dX1_thicken_18 ?_
        refine gw_get0 F to (by decide) rfl sg_lay_RX1 (j := 4) (by decide) rfl (host := "") (.inl kw_163) dX1_thicken_19 (fun h4 => ?_)
        refine gw_icmp_ge F (tgt := 55) dX1_thicken_22 (by decide) r4_16 h4 (fun c5 => ?_) (fun c5 => ?_)
        · have hf := hf.1 c5
          exact gr_HV F hf (by decide) (by decide) dX1_thicken_55
        · have hf := hf.2 c5
          refine gw_iload F 4 rfl dX1_thicken_25 ?_
          refine gw_bipush F rfl dX1_thicken_27 ?_
          refine gw_icmp_ge F (tgt := 55) dX1_thicken_29 (by decide) r4_16 (by decide) (fun c6 => ?_) (fun c6 => ?_)
          · have hf := hf.1 c6
            exact gr_HV F hf (by decide) (by decide) dX1_thicken_55
          · have hf := hf.2 c6
            refine gw_aload_n F 0 rfl rfl to.1 dX1_thicken_32 ?_
            refine gw_get3 F to (by decide) rfl sg_lay_RX1 (j := 1) (by decide) (o1 := (o + 2)) (by first | rfl | omega) rfl (host := "") (.inl kw_159) dX1_thicken_33 (fun h7 => ?_)
            refine gw_iload F 4 rfl dX1_thicken_36 ?_
            refine gw_iload_n F 1 rfl rfl dX1_thicken_38 ?_
            refine gw_iload_n F 2 rfl rfl dX1_thicken_39 ?_
            refine gw_iload_n F 1 rfl rfl dX1_thicken_40 ?_
            refine gw_isub F rfl dX1_thicken_41 ?_
            refine gw_iload F 4 rfl dX1_thicken_42 ?_
            refine gw_imul F rfl dX1_thicken_44 ?_
            refine gw_iload_n F 3 rfl rfl dX1_thicken_45 ?_
            obtain ⟨g8, hf⟩ := hf
            obtain ⟨g9, hf⟩ := hf
            refine gw_idiv F g8 g2 g9 rfl dX1_thicken_46 ?_
            refine gw_iadd F rfl dX1_thicken_47 ?_
            obtain ⟨⟨b100, b101⟩, hf⟩ := hf
            obtain ⟨g11, hf⟩ := hf
            obtain ⟨v12, e13⟩ : ∃ z : Int, z = (x1 + (Int.tdiv ((x2 - x1) * x4_16) ((s0 o 4) - 1))) := ⟨_, rfl⟩
            have hf := hf v12 e13
            refine gw_nmI e13 ?_
            obtain ⟨s14, e15⟩ : ∃ z : sg_M, z = sg_up s_16 (o + 2) x4_16 v12 := ⟨_, rfl⟩
            have hf := hf s14 e15
            refine gw_iast F (sg_AN_of (sg_O_of h7 (by decide)) (by decide) (by decide) (by decide)) b100 b101 (e13 ▸ g11) e15 dX1_thicken_48 ?_
            refine gw_iinc F (z := (x4_16 + 1)) 4 rfl (by omega) (by decide) rfl dX1_thicken_49 ?_
            refine gw_goto F (tgt := 16) dX1_thicken_52 (by decide) ?_
            obtain ⟨g16, hf⟩ := hf
            refine gw_sub [1, 2, 3, 4, 0] rfl ?_
            exact ih s14 (x4_16 + 1) g16 hf
    obtain ⟨n17, hf⟩ := hf
    refine gw_sub [2, 3, 4, 1, 0] rfl ?_
    refine L16   n17 s0 0 (by decide) hf
  · have hf := hf.2 c3
    exact gr_HV F hf (by decide) (by decide) dX1_thicken_12

theorem dX11_forge_0 : decode cX11_forge 0 = .ok (.iload_n 1, 1) := by decide +kernel
theorem dX11_forge_1 : decode cX11_forge 1 = .ok (.iconst 1, 1) := by decide +kernel
theorem dX11_forge_2 : decode cX11_forge 2 = .ok (.if_icmp .lt 20, 3) := by decide +kernel
theorem dX11_forge_5 : decode cX11_forge 5 = .ok (.iload_n 1, 1) := by decide +kernel
theorem dX11_forge_6 : decode cX11_forge 6 = .ok (.bipush 20, 2) := by decide +kernel
theorem dX11_forge_8 : decode cX11_forge 8 = .ok (.if_icmp .gt 14, 3) := by decide +kernel
theorem dX11_forge_11 : decode cX11_forge 11 = .ok (.iload_n 2, 1) := by decide +kernel
theorem dX11_forge_12 : decode cX11_forge 12 = .ok (.iconst 1, 1) := by decide +kernel
theorem dX11_forge_13 : decode cX11_forge 13 = .ok (.if_icmp .lt 9, 3) := by decide +kernel
theorem dX11_forge_16 : decode cX11_forge 16 = .ok (.iload_n 2, 1) := by decide +kernel
theorem dX11_forge_17 : decode cX11_forge 17 = .ok (.bipush 20, 2) := by decide +kernel
theorem dX11_forge_19 : decode cX11_forge 19 = .ok (.if_icmp .le 5, 3) := by decide +kernel
theorem dX11_forge_22 : decode cX11_forge 22 = .ok (.iconst 0, 1) := by decide +kernel
theorem dX11_forge_23 : decode cX11_forge 23 = .ok (.ireturn, 1) := by decide +kernel
theorem dX11_forge_24 : decode cX11_forge 24 = .ok (.new 27, 3) := by decide +kernel
theorem dX11_forge_27 : decode cX11_forge 27 = .ok (.dup, 1) := by decide +kernel
theorem dX11_forge_28 : decode cX11_forge 28 = .ok (.invokespecial 29, 3) := by decide +kernel
theorem dX11_forge_31 : decode cX11_forge 31 = .ok (.astore_n 3, 1) := by decide +kernel
theorem dX11_forge_32 : decode cX11_forge 32 = .ok (.aload_n 3, 1) := by decide +kernel
theorem dX11_forge_33 : decode cX11_forge 33 = .ok (.aload_n 0, 1) := by decide +kernel
theorem dX11_forge_34 : decode cX11_forge 34 = .ok (.getfield 39, 3) := by decide +kernel
theorem dX11_forge_37 : decode cX11_forge 37 = .ok (.getfield 112, 3) := by decide +kernel
theorem dX11_forge_40 : decode cX11_forge 40 = .ok (.invokevirtual 312, 3) := by decide +kernel
theorem dX11_forge_43 : decode cX11_forge 43 = .ok (.aload_n 3, 1) := by decide +kernel
theorem dX11_forge_44 : decode cX11_forge 44 = .ok (.iload_n 1, 1) := by decide +kernel
theorem dX11_forge_45 : decode cX11_forge 45 = .ok (.iload_n 2, 1) := by decide +kernel
theorem dX11_forge_46 : decode cX11_forge 46 = .ok (.invokevirtual 316, 3) := by decide +kernel
theorem dX11_forge_49 : decode cX11_forge 49 = .ok (.aload_n 0, 1) := by decide +kernel
theorem dX11_forge_50 : decode cX11_forge 50 = .ok (.getfield 39, 3) := by decide +kernel
theorem dX11_forge_53 : decode cX11_forge 53 = .ok (.aload_n 3, 1) := by decide +kernel
theorem dX11_forge_54 : decode cX11_forge 54 = .ok (.putfield 112, 3) := by decide +kernel
theorem dX11_forge_57 : decode cX11_forge 57 = .ok (.aload_n 0, 1) := by decide +kernel
theorem dX11_forge_58 : decode cX11_forge 58 = .ok (.invokevirtual 248, 3) := by decide +kernel
theorem dX11_forge_61 : decode cX11_forge 61 = .ok (.iconst 1, 1) := by decide +kernel
theorem dX11_forge_62 : decode cX11_forge 62 = .ok (.ireturn, 1) := by decide +kernel
theorem hcX11_forge : yX11_forge.cls ≠ "java/lang/invoke/MethodHandle" ∧ yX11_forge.cls ≠ "java/lang/invoke/VarHandle" ∧ (parseMethodDescriptor yX11_forge.desc).map (fun d => d.parameters.length) = some 2 := ⟨by decide +kernel, by decide +kernel, by decide +kernel⟩
def fX11_forge (La : sg_L) (s0 : sg_M) (x1 : Int) (x2 : Int) (Q : Int → sg_L → sg_M → Prop) : Prop := ((x1 < 1 → Q 0 La s0) ∧ (¬ (x1 < 1) → ((20 < x1 → Q 0 La s0) ∧ (¬ (20 < x1) → ((x2 < 1 → Q 0 La s0) ∧ (¬ (x2 < 1) → ((x2 ≤ 20 → ∀ (q5 : Nat) (La6 : sg_L), La6 = sg_pu La 21 q5 → ∀ s7 : sg_M, s7 = sg_nw s0 La.1 21 → ∀ o8 : Int, o8 = (La.1 : Int) → fX1_init La6 s7 o8 (fun La17 s18 => (0 ≤ (s18 4 0)) ∧ fX1_copyFrom s18 o8 (s18 4 0) (fun s27 => fX1_thicken s27 o8 x1 x2 (fun s28 => ∀ s30 : sg_M, s30 = sg_up s28 4 0 o8 → fX11_forgetAnswers s30 (fun s32 => Q 1 La17 s32))))) ∧ (¬ (x2 ≤ 20) → Q 0 La s0))))))))
set_option maxHeartbeats 4000000 in
set_option maxRecDepth 100000 in
theorem CX11_forge {l : Launch} {G : sg_G} {La : sg_L} {s0 : sg_M} (hst : sg_St La) {x1 : Int} (r1 : sg_R x1) {x2 : Int} (r2 : sg_R x2) {Q : Int → sg_L → sg_M → Prop} (hf : fX11_forge La s0 x1 x2 Q) : sg_C l G yX11_forge cX11_forge 4 (some .boolean) 3 5 247 La s0 [sg_r 0, sg_i x1, sg_i x2] (sg_BZ La Q) := by
  refine sg_body (by decide +kernel) (Nat.le_of_ble_eq_true rfl) ?_
  intro p e s m args below meth c F hnm
  unfold fX11_forge at hf
  show sg_W p l e (sg_rm 3 5 247) s m args below meth c (MQ below (sg_Q (some .boolean) G La s.heap.size (sg_BZ La Q)) args s 5 247 (sg_A La s.heap.size)) 4 G (sg_A La s.heap.size) La s0 0 0 0 [(0, sg_r 0), (1, sg_i x1), (2, sg_i x2)] []
  refine gw_iload_n F 1 rfl rfl dX11_forge_0 ?_
  refine gw_iconst F dX11_forge_1 ?_
  refine gw_icmp_lt F (tgt := 22) dX11_forge_2 (by decide) r1 (by decide) (fun c1 => ?_) (fun c1 => ?_)
  · have hf := hf.1 c1
    refine gw_iconst F dX11_forge_22 ?_
    exact gr_BZ F (by decide) hf (sg_X.rf) (by decide) (by decide) dX11_forge_23
  · have hf := hf.2 c1
    refine gw_iload_n F 1 rfl rfl dX11_forge_5 ?_
    refine gw_bipush F rfl dX11_forge_6 ?_
    refine gw_icmp_gt F (tgt := 22) dX11_forge_8 (by decide) r1 (by decide) (fun c2 => ?_) (fun c2 => ?_)
    · have hf := hf.1 c2
      refine gw_iconst F dX11_forge_22 ?_
      exact gr_BZ F (by decide) hf (sg_X.rf) (by decide) (by decide) dX11_forge_23
    · have hf := hf.2 c2
      refine gw_iload_n F 2 rfl rfl dX11_forge_11 ?_
      refine gw_iconst F dX11_forge_12 ?_
      refine gw_icmp_lt F (tgt := 22) dX11_forge_13 (by decide) r2 (by decide) (fun c3 => ?_) (fun c3 => ?_)
      · have hf := hf.1 c3
        refine gw_iconst F dX11_forge_22 ?_
        exact gr_BZ F (by decide) hf (sg_X.rf) (by decide) (by decide) dX11_forge_23
      · have hf := hf.2 c3
        refine gw_iload_n F 2 rfl rfl dX11_forge_16 ?_
        refine gw_bipush F rfl dX11_forge_17 ?_
        refine gw_icmp_le F (tgt := 24) dX11_forge_19 (by decide) r2 (by decide) (fun c4 => ?_) (fun c4 => ?_)
        · have hf := hf.1 c4
          refine gy_new F (kd := 21) (T := TX1) (by decide) rfl sg_lay_RX1 tyX1_ok kw_152 kw_153 kw_94 ns_X1 nf_X1 nr_X1 (by decide) (by decide) (List.forall_mem_cons.mpr ⟨(Or.inl (so_0 hst).2.1), (List.forall_mem_cons.mpr ⟨True.intro, (List.forall_mem_cons.mpr ⟨True.intro, (fun _ h => absurd h List.not_mem_nil)⟩)⟩)⟩) (fun _ h => absurd h List.not_mem_nil) dX11_forge_24 (fun q5 La6 s7 o8 e9 e10 e11 t12 hX13 => ?_)
          have hf := hf q5 La6 e9 s7 e10 o8 e11
          have hn14 : La.1 ≤ o8.toNat := by rw [e11, Int.toNat_natCast]; exact (sg_X.rf : sg_X La La).1
          have hst15 := hst.X hX13
          have hX16 := sg_X.tr (sg_X.rf) hX13
          refine gw_dup F rfl dX11_forge_27 ?_
          refine gk_BV F (gc_IN F (S := [sg_r o8]) (As := []) (CX1_init t12 hf) t12.1 kw_156 kw_94 kw_154 kw_155 rfl hcX1_init ⟨by decide, by decide⟩ rfl rfl (Nat.le_of_ble_eq_true rfl) ⟨by decide, by decide⟩ dX11_forge_28) (List.forall_mem_cons.mpr ⟨(Or.inl (so_0 hst15).2.1), (List.forall_mem_cons.mpr ⟨True.intro, (List.forall_mem_cons.mpr ⟨True.intro, (fun _ h => absurd h List.not_mem_nil)⟩)⟩)⟩) (List.forall_mem_cons.mpr ⟨(Or.inl t12.2.1), (fun _ h => absurd h List.not_mem_nil)⟩) (fun La17 s18 hX19 hf => ?_)
          have t20 := (sg_O_sealed t12).X hX19
          have hst21 := (sg_St_sx hst15 t12 ⟨by decide, by decide, by decide⟩).X hX19
          have hX22 := (sg_X_sx (hX16) hn14).tr hX19
          refine gw_astore_n F rfl t20.1 (by decide) rfl dX11_forge_31 ?_
          refine gw_aload_n F 0 rfl rfl t20.1 dX11_forge_32 ?_
          refine gw_aload_n F 1 rfl rfl (by decide) dX11_forge_33 ?_
          refine gw_get7 F (so_0 hst21) (by decide) rfl sg_lay_RX11 (j := 2) (by decide) (o1 := 4) (by first | rfl | omega) rfl (host := "") (.inl kw_328) dX11_forge_34 (fun h23 => ?_)
          refine gw_get4 F (so_4 hst21) (by decide) rfl sg_lay_RX7 (j := 0) (by decide) rfl (.inr kw_234) dX11_forge_37 (fun h24 => ?_)
          obtain ⟨g25, hf⟩ := hf
          have t26 := sg_nn h24 g25
          refine gk_HV F (gc_V F (S := []) (As := [sg_r (s18 4 0)]) (T := TX1) (N := 7) (CX1_copyFrom t20 t26 hf) t20 (by decide) rfl kw_776 kw_94 kw_773 kw_774 kw_775 hcX1_copyFrom ⟨by decide, by decide⟩ rfl rfl (Nat.le_of_ble_eq_true rfl) ⟨by decide, by decide⟩ dX11_forge_40) (fun s27 hf => ?_)
          refine gw_aload_n F 0 rfl rfl t20.1 dX11_forge_43 ?_
          refine gw_iload_n F 2 rfl rfl dX11_forge_44 ?_
          refine gw_iload_n F 3 rfl rfl dX11_forge_45 ?_
          refine gk_HV F (gc_V F (S := []) (As := [sg_i x1, sg_i x2]) (T := TX1) (N := 7) (CX1_thicken t20 r1 r2 hf) t20 (by decide) rfl kw_780 kw_94 kw_777 kw_778 kw_779 hcX1_thicken ⟨by decide, by decide⟩ rfl rfl (Nat.le_of_ble_eq_true rfl) ⟨by decide, by decide⟩ dX11_forge_46) (fun s28 hf => ?_)
          refine gw_aload_n F 1 rfl rfl (by decide) dX11_forge_49 ?_
          refine gw_get7 F (so_0 hst21) (by decide) rfl sg_lay_RX11 (j := 2) (by decide) (o1 := 4) (by first | rfl | omega) rfl (host := "") (.inl kw_328) dX11_forge_50 (fun h29 => ?_)
          refine gw_aload_n F 0 rfl rfl t20.1 dX11_forge_53 ?_
          obtain ⟨s30, e31⟩ : ∃ z : sg_M, z = sg_up s28 4 0 o8 := ⟨_, rfl⟩
          have hf := hf s30 e31
          refine gw_put4 F (so_4 hst21) (by decide) rfl sg_lay_RX7 (j := 0) (by decide) t20.1 t20 e31 tyX7_ok nmX7 rfl (tyX7_ok 0 (by decide)) rfl (.inr kw_234) dX11_forge_54 ?_
          refine gw_aload_n F 1 rfl rfl (by decide) dX11_forge_57 ?_
          refine gk_HV F (gc_V F (S := []) (As := []) (T := TX11) (N := 19) (CX11_forgetAnswers hst21 hf) (so_0 hst21) (by decide) rfl kw_490 kw_90 kw_488 kw_489 kw_3 hcX11_forgetAnswers ⟨by decide, by decide⟩ rfl rfl (Nat.le_of_ble_eq_true rfl) ⟨by decide, by decide⟩ dX11_forge_58) (fun s32 hf => ?_)
          refine gw_iconst F dX11_forge_61 ?_
          exact gr_BZ F (by decide) hf (hX22) (by decide) (by decide) dX11_forge_62
        · have hf := hf.2 c4
          refine gw_iconst F dX11_forge_22 ?_
          exact gr_BZ F (by decide) hf (sg_X.rf) (by decide) (by decide) dX11_forge_23

theorem dX4_at_0 : decode cX4_at 0 = .ok (.iload_n 1, 1) := by decide +kernel
theorem dX4_at_1 : decode cX4_at 1 = .ok (.ifCond .lt 20, 3) := by decide +kernel
theorem dX4_at_4 : decode cX4_at 4 = .ok (.iload_n 1, 1) := by decide +kernel
theorem dX4_at_5 : decode cX4_at 5 = .ok (.aload_n 0, 1) := by decide +kernel
theorem dX4_at_6 : decode cX4_at 6 = .ok (.getfield 9, 3) := by decide +kernel
theorem dX4_at_9 : decode cX4_at 9 = .ok (.if_icmp .ge 12, 3) := by decide +kernel
theorem dX4_at_12 : decode cX4_at 12 = .ok (.iload_n 1, 1) := by decide +kernel
theorem dX4_at_13 : decode cX4_at 13 = .ok (.aload_n 0, 1) := by decide +kernel
theorem dX4_at_14 : decode cX4_at 14 = .ok (.getfield 25, 3) := by decide +kernel
theorem dX4_at_17 : decode cX4_at 17 = .ok (.arraylength, 1) := by decide +kernel
theorem dX4_at_18 : decode cX4_at 18 = .ok (.if_icmp .lt 7, 3) := by decide +kernel
theorem dX4_at_21 : decode cX4_at 21 = .ok (.iconst (-1), 1) := by decide +kernel
theorem dX4_at_22 : decode cX4_at 22 = .ok (.goto 9, 3) := by decide +kernel
theorem dX4_at_25 : decode cX4_at 25 = .ok (.aload_n 0, 1) := by decide +kernel
theorem dX4_at_26 : decode cX4_at 26 = .ok (.getfield 25, 3) := by decide +kernel
theorem dX4_at_29 : decode cX4_at 29 = .ok (.iload_n 1, 1) := by decide +kernel
theorem dX4_at_30 : decode cX4_at 30 = .ok (.iaload, 1) := by decide +kernel
theorem dX4_at_31 : decode cX4_at 31 = .ok (.ireturn, 1) := by decide +kernel
theorem hcX4_at : yX4_at.cls ≠ "java/lang/invoke/MethodHandle" ∧ yX4_at.cls ≠ "java/lang/invoke/VarHandle" ∧ (parseMethodDescriptor yX4_at.desc).map (fun d => d.parameters.length) = some 1 := ⟨by decide +kernel, by decide +kernel, by decide +kernel⟩
def fX4_at (La : sg_L) (s0 : sg_M) (o : Int) (x1 : Int) (Q : Int → Prop) : Prop := ((x1 < 0 → Q (-1)) ∧ (¬ (x1 < 0) → (((s0 o 1) ≤ x1 → Q (-1)) ∧ (¬ ((s0 o 1) ≤ x1) → sg_R (sg_ln La (o + 1)) ∧ ((x1 < (sg_ln La (o + 1)) → (0 ≤ x1 ∧ x1 < (sg_ln La (o + 1))) ∧ Q (s0 (o + 1) x1)) ∧ (¬ (x1 < (sg_ln La (o + 1))) → Q (-1)))))))
set_option maxHeartbeats 4000000 in
set_option maxRecDepth 100000 in
theorem CX4_at {l : Launch} {G : sg_G} {La : sg_L} {s0 : sg_M} {o : Int} (to : sg_O La o 4) {x1 : Int} (r1 : sg_R x1) {Q : Int → Prop} (hf : fX4_at La s0 o x1 Q) : sg_C l G yX4_at cX4_at 2 (some .int) 1 0 0 La s0 [sg_r o, sg_i x1] (sg_PI La s0 Q) := by
  refine sg_body (by decide +kernel) (Nat.le_of_ble_eq_true rfl) ?_
  intro p e s m args below meth c F hnm
  unfold fX4_at at hf
  show sg_W p l e (sg_rm 1 0 0) s m args below meth c (MQ below (sg_Q (some .int) G La s.heap.size (sg_PI La s0 Q)) args s 0 0 (sg_A La s.heap.size)) 2 G (sg_A La s.heap.size) La s0 0 0 0 [(0, sg_r o), (1, sg_i x1)] []
  refine gw_iload_n F 1 rfl rfl dX4_at_0 ?_
  refine gw_if_lt F (tgt := 21) dX4_at_1 (by decide) r1 (fun c1 => ?_) (fun c1 => ?_)
  · have hf := hf.1 c1
    refine gw_iconst F dX4_at_21 ?_
    refine gw_goto F (tgt := 31) dX4_at_22 (by decide) ?_
    exact gr_PI F (by decide) hf (by decide) (by decide) dX4_at_31
  · have hf := hf.2 c1
    refine gw_iload_n F 1 rfl rfl dX4_at_4 ?_
    refine gw_aload_n F 0 rfl rfl to.1 dX4_at_5 ?_
    refine gw_get0 F to (by decide) rfl sg_lay_RX4 (j := 1) (by decide) rfl (host := "") (.inl kw_200) dX4_at_6 (fun h2 => ?_)
    refine gw_icmp_ge F (tgt := 21) dX4_at_9 (by decide) r1 h2 (fun c3 => ?_) (fun c3 => ?_)
    · have hf := hf.1 c3
      refine gw_iconst F dX4_at_21 ?_
      refine gw_goto F (tgt := 31) dX4_at_22 (by decide) ?_
      exact gr_PI F (by decide) hf (by decide) (by decide) dX4_at_31
    · have hf := hf.2 c3
      refine gw_iload_n F 1 rfl rfl dX4_at_12 ?_
      refine gw_aload_n F 0 rfl rfl to.1 dX4_at_13 ?_
      refine gw_get3 F to (by decide) rfl sg_lay_RX4 (j := 0) (by decide) (o1 := (o + 1)) (by first | rfl | omega) rfl (host := "") (.inl kw_199) dX4_at_14 (fun h4 => ?_)
      refine gw_alen F (sg_AN_any h4) dX4_at_17 ?_
      obtain ⟨g5, hf⟩ := hf
      refine gw_icmp_lt F (tgt := 25) dX4_at_18 (by decide) r1 g5 (fun c6 => ?_) (fun c6 => ?_)
      · have hf := hf.1 c6
        refine gw_aload_n F 0 rfl rfl to.1 dX4_at_25 ?_
        refine gw_get3 F to (by decide) rfl sg_lay_RX4 (j := 0) (by decide) (o1 := (o + 1)) (by first | rfl | omega) rfl (host := "") (.inl kw_199) dX4_at_26 (fun h7 => ?_)
        refine gw_iload_n F 1 rfl rfl dX4_at_29 ?_
        obtain ⟨⟨b80, b81⟩, hf⟩ := hf
        refine gw_iald F (sg_AN_any h7) b80 b81 dX4_at_30 (fun h9 => ?_)
        exact gr_PI F h9 hf (by decide) (by decide) dX4_at_31
      · have hf := hf.2 c6
        refine gw_iconst F dX4_at_21 ?_
        refine gw_goto F (tgt := 31) dX4_at_22 (by decide) ?_
        exact gr_PI F (by decide) hf (by decide) (by decide) dX4_at_31

theorem dX2_way_0 : decode cX2_way 0 = .ok (.aload_n 0, 1) := by decide +kernel
theorem dX2_way_1 : decode cX2_way 1 = .ok (.getfield 14, 3) := by decide +kernel
theorem dX2_way_4 : decode cX2_way 4 = .ok (.iload_n 1, 1) := by decide +kernel
theorem dX2_way_5 : decode cX2_way 5 = .ok (.invokevirtual 34, 3) := by decide +kernel
theorem dX2_way_8 : decode cX2_way 8 = .ok (.aload_n 0, 1) := by decide +kernel
theorem dX2_way_9 : decode cX2_way 9 = .ok (.getfield 14, 3) := by decide +kernel
theorem dX2_way_12 : decode cX2_way 12 = .ok (.iload_n 2, 1) := by decide +kernel
theorem dX2_way_13 : decode cX2_way 13 = .ok (.invokevirtual 34, 3) := by decide +kernel
theorem dX2_way_16 : decode cX2_way 16 = .ok (.isub, 1) := by decide +kernel
theorem dX2_way_17 : decode cX2_way 17 = .ok (.invokestatic 38, 3) := by decide +kernel
theorem dX2_way_20 : decode cX2_way 20 = .ok (.aload_n 0, 1) := by decide +kernel
theorem dX2_way_21 : decode cX2_way 21 = .ok (.getfield 20, 3) := by decide +kernel
theorem dX2_way_24 : decode cX2_way 24 = .ok (.iload_n 1, 1) := by decide +kernel
theorem dX2_way_25 : decode cX2_way 25 = .ok (.invokevirtual 34, 3) := by decide +kernel
theorem dX2_way_28 : decode cX2_way 28 = .ok (.aload_n 0, 1) := by decide +kernel
theorem dX2_way_29 : decode cX2_way 29 = .ok (.getfield 20, 3) := by decide +kernel
theorem dX2_way_32 : decode cX2_way 32 = .ok (.iload_n 2, 1) := by decide +kernel
theorem dX2_way_33 : decode cX2_way 33 = .ok (.invokevirtual 34, 3) := by decide +kernel
theorem dX2_way_36 : decode cX2_way 36 = .ok (.isub, 1) := by decide +kernel
theorem dX2_way_37 : decode cX2_way 37 = .ok (.invokestatic 38, 3) := by decide +kernel
theorem dX2_way_40 : decode cX2_way 40 = .ok (.iadd, 1) := by decide +kernel
theorem dX2_way_41 : decode cX2_way 41 = .ok (.ireturn, 1) := by decide +kernel
theorem hcX2_way : yX2_way.cls ≠ "java/lang/invoke/MethodHandle" ∧ yX2_way.cls ≠ "java/lang/invoke/VarHandle" ∧ (parseMethodDescriptor yX2_way.desc).map (fun d => d.parameters.length) = some 2 := ⟨by decide +kernel, by decide +kernel, by decide +kernel⟩
def fX2_way (La : sg_L) (s0 : sg_M) (o : Int) (x1 : Int) (x2 : Int) (Q : Int → Prop) : Prop := fX4_at La s0 (o + 1) x1 (fun u2 => fX4_at La s0 (o + 1) x2 (fun u5 => sg_R (u2 - u5) ∧ fX4_at La s0 (o + 3) x1 (fun u9 => fX4_at La s0 (o + 3) x2 (fun u12 => sg_R (u9 - u12) ∧ sg_R ((sg_abs (u2 - u5)) + (sg_abs (u9 - u12))) ∧ Q ((sg_abs (u2 - u5)) + (sg_abs (u9 - u12)))))))
set_option maxHeartbeats 4000000 in
set_option maxRecDepth 100000 in
theorem CX2_way {l : Launch} {G : sg_G} {La : sg_L} {s0 : sg_M} {o : Int} (to : sg_O La o 2) {x1 : Int} (r1 : sg_R x1) {x2 : Int} (r2 : sg_R x2) {Q : Int → Prop} (hf : fX2_way La s0 o x1 x2 Q) : sg_C l G yX2_way cX2_way 3 (some .int) 2 0 0 La s0 [sg_r o, sg_i x1, sg_i x2] (sg_PI La s0 Q) := by
  refine sg_body (by decide +kernel) (Nat.le_of_ble_eq_true rfl) ?_
  intro p e s m args below meth c F hnm
  unfold fX2_way at hf
  show sg_W p l e (sg_rm 2 0 0) s m args below meth c (MQ below (sg_Q (some .int) G La s.heap.size (sg_PI La s0 Q)) args s 0 0 (sg_A La s.heap.size)) 3 G (sg_A La s.heap.size) La s0 0 0 0 [(0, sg_r o), (1, sg_i x1), (2, sg_i x2)] []
  refine gw_aload_n F 0 rfl rfl to.1 dX2_way_0 ?_
  refine gw_get3 F to (by decide) rfl sg_lay_RX2 (j := 0) (by decide) (o1 := (o + 1)) (by first | rfl | omega) rfl (host := "") (.inl kw_224) dX2_way_1 (fun h1 => ?_)
  refine gw_iload_n F 1 rfl rfl dX2_way_4 ?_
  refine gk_PI F (gc_V F (S := []) (As := [sg_i x1]) (T := TX4) (N := 3) (CX4_at (sg_O_of h1 (by decide)) r1 hf) (sg_O_of h1 (by decide)) (by decide) rfl kw_546 kw_97 kw_711 kw_544 kw_545 hcX4_at ⟨by decide, by decide⟩ rfl rfl (Nat.le_of_ble_eq_true rfl) ⟨by decide, by decide⟩ dX2_way_5) (fun u2 h3 hf => ?_)
  refine gw_aload_n F 0 rfl rfl to.1 dX2_way_8 ?_
  refine gw_get3 F to (by decide) rfl sg_lay_RX2 (j := 0) (by decide) (o1 := (o + 1)) (by first | rfl | omega) rfl (host := "") (.inl kw_224) dX2_way_9 (fun h4 => ?_)
  refine gw_iload_n F 2 rfl rfl dX2_way_12 ?_
  refine gk_PI F (gc_V F (S := [sg_i u2]) (As := [sg_i x2]) (T := TX4) (N := 3) (CX4_at (sg_O_of h4 (by decide)) r2 hf) (sg_O_of h4 (by decide)) (by decide) rfl kw_546 kw_97 kw_711 kw_544 kw_545 hcX4_at ⟨by decide, by decide⟩ rfl rfl (Nat.le_of_ble_eq_true rfl) ⟨by decide, by decide⟩ dX2_way_13) (fun u5 h6 hf => ?_)
  refine gw_isub F rfl dX2_way_16 ?_
  obtain ⟨g7, hf⟩ := hf
  refine gw_abs F g7 rfl kw_712 kw_abs1 kw_math kw_abs2 (Nat.le_of_ble_eq_true rfl) (by decide) (by decide) (by decide) (by decide) dX2_way_17 ?_
  refine gw_aload_n F 0 rfl rfl to.1 dX2_way_20 ?_
  refine gw_get3 F to (by decide) rfl sg_lay_RX2 (j := 1) (by decide) (o1 := (o + 3)) (by first | rfl | omega) rfl (host := "") (.inl kw_226) dX2_way_21 (fun h8 => ?_)
  refine gw_iload_n F 1 rfl rfl dX2_way_24 ?_
  refine gk_PI F (gc_V F (S := [sg_i (sg_abs (u2 - u5))]) (As := [sg_i x1]) (T := TX4) (N := 3) (CX4_at (sg_O_of h8 (by decide)) r1 hf) (sg_O_of h8 (by decide)) (by decide) rfl kw_546 kw_97 kw_711 kw_544 kw_545 hcX4_at ⟨by decide, by decide⟩ rfl rfl (Nat.le_of_ble_eq_true rfl) ⟨by decide, by decide⟩ dX2_way_25) (fun u9 h10 hf => ?_)
  refine gw_aload_n F 0 rfl rfl to.1 dX2_way_28 ?_
  refine gw_get3 F to (by decide) rfl sg_lay_RX2 (j := 1) (by decide) (o1 := (o + 3)) (by first | rfl | omega) rfl (host := "") (.inl kw_226) dX2_way_29 (fun h11 => ?_)
  refine gw_iload_n F 2 rfl rfl dX2_way_32 ?_
  refine gk_PI F (gc_V F (S := [sg_i u9, sg_i (sg_abs (u2 - u5))]) (As := [sg_i x2]) (T := TX4) (N := 3) (CX4_at (sg_O_of h11 (by decide)) r2 hf) (sg_O_of h11 (by decide)) (by decide) rfl kw_546 kw_97 kw_711 kw_544 kw_545 hcX4_at ⟨by decide, by decide⟩ rfl rfl (Nat.le_of_ble_eq_true rfl) ⟨by decide, by decide⟩ dX2_way_33) (fun u12 h13 hf => ?_)
  refine gw_isub F rfl dX2_way_36 ?_
  obtain ⟨g14, hf⟩ := hf
  refine gw_abs F g14 rfl kw_712 kw_abs1 kw_math kw_abs2 (Nat.le_of_ble_eq_true rfl) (by decide) (by decide) (by decide) (by decide) dX2_way_37 ?_
  refine gw_iadd F rfl dX2_way_40 ?_
  obtain ⟨g15, hf⟩ := hf
  exact gr_PI F g15 hf (by decide) (by decide) dX2_way_41

theorem dX6_costAt_0 : decode cX6_costAt 0 = .ok (.iload_n 1, 1) := by decide +kernel
theorem dX6_costAt_1 : decode cX6_costAt 1 = .ok (.bipush 40, 2) := by decide +kernel
theorem dX6_costAt_3 : decode cX6_costAt 3 = .ok (.imul, 1) := by decide +kernel
theorem dX6_costAt_4 : decode cX6_costAt 4 = .ok (.iload_n 2, 1) := by decide +kernel
theorem dX6_costAt_5 : decode cX6_costAt 5 = .ok (.iadd, 1) := by decide +kernel
theorem dX6_costAt_6 : decode cX6_costAt 6 = .ok (.istore_n 3, 1) := by decide +kernel
theorem dX6_costAt_7 : decode cX6_costAt 7 = .ok (.iload_n 3, 1) := by decide +kernel
theorem dX6_costAt_8 : decode cX6_costAt 8 = .ok (.ifCond .lt 12, 3) := by decide +kernel
theorem dX6_costAt_11 : decode cX6_costAt 11 = .ok (.iload_n 3, 1) := by decide +kernel
theorem dX6_costAt_12 : decode cX6_costAt 12 = .ok (.aload_n 0, 1) := by decide +kernel
theorem dX6_costAt_13 : decode cX6_costAt 13 = .ok (.getfield 9, 3) := by decide +kernel
theorem dX6_costAt_16 : decode cX6_costAt 16 = .ok (.arraylength, 1) := by decide +kernel
theorem dX6_costAt_17 : decode cX6_costAt 17 = .ok (.if_icmp .lt 7, 3) := by decide +kernel
theorem dX6_costAt_20 : decode cX6_costAt 20 = .ok (.iconst (-1), 1) := by decide +kernel
theorem dX6_costAt_21 : decode cX6_costAt 21 = .ok (.goto 9, 3) := by decide +kernel
theorem dX6_costAt_24 : decode cX6_costAt 24 = .ok (.aload_n 0, 1) := by decide +kernel
theorem dX6_costAt_25 : decode cX6_costAt 25 = .ok (.getfield 9, 3) := by decide +kernel
theorem dX6_costAt_28 : decode cX6_costAt 28 = .ok (.iload_n 3, 1) := by decide +kernel
theorem dX6_costAt_29 : decode cX6_costAt 29 = .ok (.iaload, 1) := by decide +kernel
theorem dX6_costAt_30 : decode cX6_costAt 30 = .ok (.ireturn, 1) := by decide +kernel
theorem hcX6_costAt : yX6_costAt.cls ≠ "java/lang/invoke/MethodHandle" ∧ yX6_costAt.cls ≠ "java/lang/invoke/VarHandle" ∧ (parseMethodDescriptor yX6_costAt.desc).map (fun d => d.parameters.length) = some 2 := ⟨by decide +kernel, by decide +kernel, by decide +kernel⟩
def fX6_costAt (s0 : sg_M) (x1 : Int) (x2 : Int) (Q : Int → Prop) : Prop := sg_R ((x1 * 40) + x2) ∧ ((((x1 * 40) + x2) < 0 → Q (-1)) ∧ (¬ (((x1 * 40) + x2) < 0) → sg_R 2400 ∧ ((((x1 * 40) + x2) < 2400 → (0 ≤ ((x1 * 40) + x2) ∧ ((x1 * 40) + x2) < 2400) ∧ Q (s0 47 ((x1 * 40) + x2))) ∧ (¬ (((x1 * 40) + x2) < 2400) → Q (-1)))))
set_option maxHeartbeats 4000000 in
set_option maxRecDepth 100000 in
theorem CX6_costAt {l : Launch} {G : sg_G} {La : sg_L} {s0 : sg_M} (hst : sg_St La) {x1 : Int} (r1 : sg_R x1) {x2 : Int} (r2 : sg_R x2) {Q : Int → Prop} (hf : fX6_costAt s0 x1 x2 Q) : sg_C l G yX6_costAt cX6_costAt 4 (some .int) 1 0 0 La s0 [sg_r 46, sg_i x1, sg_i x2] (sg_PI La s0 Q) := by
  refine sg_body (by decide +kernel) (Nat.le_of_ble_eq_true rfl) ?_
  intro p e s m args below meth c F hnm
  unfold fX6_costAt at hf
  show sg_W p l e (sg_rm 1 0 0) s m args below meth c (MQ below (sg_Q (some .int) G La s.heap.size (sg_PI La s0 Q)) args s 0 0 (sg_A La s.heap.size)) 4 G (sg_A La s.heap.size) La s0 0 0 0 [(0, sg_r 46), (1, sg_i x1), (2, sg_i x2)] []
  refine gw_iload_n F 1 rfl rfl dX6_costAt_0 ?_
  refine gw_bipush F rfl dX6_costAt_1 ?_
  refine gw_imul F rfl dX6_costAt_3 ?_
  refine gw_iload_n F 2 rfl rfl dX6_costAt_4 ?_
  refine gw_iadd F rfl dX6_costAt_5 ?_
  refine gw_istore_n F rfl (by decide) rfl dX6_costAt_6 ?_
  refine gw_iload_n F 0 rfl rfl dX6_costAt_7 ?_
  obtain ⟨g1, hf⟩ := hf
  refine gw_if_lt F (tgt := 20) dX6_costAt_8 (by decide) g1 (fun c2 => ?_) (fun c2 => ?_)
  · have hf := hf.1 c2
    refine gw_iconst F dX6_costAt_20 ?_
    refine gw_goto F (tgt := 30) dX6_costAt_21 (by decide) ?_
    exact gr_PI F (by decide) hf (by decide) (by decide) dX6_costAt_30
  · have hf := hf.2 c2
    refine gw_iload_n F 0 rfl rfl dX6_costAt_11 ?_
    refine gw_aload_n F 1 rfl rfl (by decide) dX6_costAt_12 ?_
    refine gw_get3 F (so_46 hst) (by decide) rfl sg_lay_RX6 (j := 0) (by decide) (o1 := 47) (by first | rfl | omega) rfl (host := "") (.inl kw_312) dX6_costAt_13 (fun h3 => ?_)
    refine gw_alen F (sa_47 hst) dX6_costAt_16 ?_
    obtain ⟨g4, hf⟩ := hf
    refine gw_icmp_lt F (tgt := 24) dX6_costAt_17 (by decide) g1 g4 (fun c5 => ?_) (fun c5 => ?_)
    · have hf := hf.1 c5
      refine gw_aload_n F 1 rfl rfl (by decide) dX6_costAt_24 ?_
      refine gw_get3 F (so_46 hst) (by decide) rfl sg_lay_RX6 (j := 0) (by decide) (o1 := 47) (by first | rfl | omega) rfl (host := "") (.inl kw_312) dX6_costAt_25 (fun h6 => ?_)
      refine gw_iload_n F 0 rfl rfl dX6_costAt_28 ?_
      obtain ⟨⟨b70, b71⟩, hf⟩ := hf
      refine gw_iald F (sa_47 hst) b70 b71 dX6_costAt_29 (fun h8 => ?_)
      exact gr_PI F h8 hf (by decide) (by decide) dX6_costAt_30
    · have hf := hf.2 c5
      refine gw_iconst F dX6_costAt_20 ?_
      refine gw_goto F (tgt := 30) dX6_costAt_21 (by decide) ?_
      exact gr_PI F (by decide) hf (by decide) (by decide) dX6_costAt_30

theorem dX6_cheapestNext_0 : decode cX6_cheapestNext 0 = .ok (.iconst (-1), 1) := by decide +kernel
theorem dX6_cheapestNext_1 : decode cX6_cheapestNext 1 = .ok (.istore 4, 2) := by decide +kernel
theorem dX6_cheapestNext_3 : decode cX6_cheapestNext 3 = .ok (.iconst 0, 1) := by decide +kernel
theorem dX6_cheapestNext_4 : decode cX6_cheapestNext 4 = .ok (.istore 5, 2) := by decide +kernel
theorem dX6_cheapestNext_6 : decode cX6_cheapestNext 6 = .ok (.iconst 0, 1) := by decide +kernel
theorem dX6_cheapestNext_7 : decode cX6_cheapestNext 7 = .ok (.istore 6, 2) := by decide +kernel
theorem dX6_cheapestNext_9 : decode cX6_cheapestNext 9 = .ok (.iload 6, 2) := by decide +kernel
theorem dX6_cheapestNext_11 : decode cX6_cheapestNext 11 = .ok (.aload_n 1, 1) := by decide +kernel
theorem dX6_cheapestNext_12 : decode cX6_cheapestNext 12 = .ok (.getfield 48, 3) := by decide +kernel
theorem dX6_cheapestNext_15 : decode cX6_cheapestNext 15 = .ok (.if_icmp .ge 68, 3) := by decide +kernel
theorem dX6_cheapestNext_18 : decode cX6_cheapestNext 18 = .ok (.aload_n 0, 1) := by decide +kernel
theorem dX6_cheapestNext_19 : decode cX6_cheapestNext 19 = .ok (.iload_n 2, 1) := by decide +kernel
theorem dX6_cheapestNext_20 : decode cX6_cheapestNext 20 = .ok (.iconst 1, 1) := by decide +kernel
theorem dX6_cheapestNext_21 : decode cX6_cheapestNext 21 = .ok (.iadd, 1) := by decide +kernel
theorem dX6_cheapestNext_22 : decode cX6_cheapestNext 22 = .ok (.iload 6, 2) := by decide +kernel
theorem dX6_cheapestNext_24 : decode cX6_cheapestNext 24 = .ok (.invokevirtual 69, 3) := by decide +kernel
theorem dX6_cheapestNext_27 : decode cX6_cheapestNext 27 = .ok (.istore 7, 2) := by decide +kernel
theorem dX6_cheapestNext_29 : decode cX6_cheapestNext 29 = .ok (.iload 7, 2) := by decide +kernel
theorem dX6_cheapestNext_31 : decode cX6_cheapestNext 31 = .ok (.iconst (-1), 1) := by decide +kernel
theorem dX6_cheapestNext_32 : decode cX6_cheapestNext 32 = .ok (.if_icmp .eq 45, 3) := by decide +kernel
theorem dX6_cheapestNext_35 : decode cX6_cheapestNext 35 = .ok (.iload 7, 2) := by decide +kernel
theorem dX6_cheapestNext_37 : decode cX6_cheapestNext 37 = .ok (.iload_n 3, 1) := by decide +kernel
theorem dX6_cheapestNext_38 : decode cX6_cheapestNext 38 = .ok (.iconst (-1), 1) := by decide +kernel
theorem dX6_cheapestNext_39 : decode cX6_cheapestNext 39 = .ok (.if_icmp .ne 7, 3) := by decide +kernel
theorem dX6_cheapestNext_42 : decode cX6_cheapestNext 42 = .ok (.iconst 0, 1) := by decide +kernel
theorem dX6_cheapestNext_43 : decode cX6_cheapestNext 43 = .ok (.goto 10, 3) := by decide +kernel
theorem dX6_cheapestNext_46 : decode cX6_cheapestNext 46 = .ok (.aload_n 1, 1) := by decide +kernel
theorem dX6_cheapestNext_47 : decode cX6_cheapestNext 47 = .ok (.iload_n 3, 1) := by decide +kernel
theorem dX6_cheapestNext_48 : decode cX6_cheapestNext 48 = .ok (.iload 6, 2) := by decide +kernel
theorem dX6_cheapestNext_50 : decode cX6_cheapestNext 50 = .ok (.invokevirtual 73, 3) := by decide +kernel
theorem dX6_cheapestNext_53 : decode cX6_cheapestNext 53 = .ok (.iadd, 1) := by decide +kernel
theorem dX6_cheapestNext_54 : decode cX6_cheapestNext 54 = .ok (.istore 8, 2) := by decide +kernel
theorem dX6_cheapestNext_56 : decode cX6_cheapestNext 56 = .ok (.iload 4, 2) := by decide +kernel
theorem dX6_cheapestNext_58 : decode cX6_cheapestNext 58 = .ok (.iconst (-1), 1) := by decide +kernel
theorem dX6_cheapestNext_59 : decode cX6_cheapestNext 59 = .ok (.if_icmp .eq 10, 3) := by decide +kernel
theorem dX6_cheapestNext_62 : decode cX6_cheapestNext 62 = .ok (.iload 8, 2) := by decide +kernel
theorem dX6_cheapestNext_64 : decode cX6_cheapestNext 64 = .ok (.iload 5, 2) := by decide +kernel
theorem dX6_cheapestNext_66 : decode cX6_cheapestNext 66 = .ok (.if_icmp .ge 11, 3) := by decide +kernel
theorem dX6_cheapestNext_69 : decode cX6_cheapestNext 69 = .ok (.iload 6, 2) := by decide +kernel
theorem dX6_cheapestNext_71 : decode cX6_cheapestNext 71 = .ok (.istore 4, 2) := by decide +kernel
theorem dX6_cheapestNext_73 : decode cX6_cheapestNext 73 = .ok (.iload 8, 2) := by decide +kernel
theorem dX6_cheapestNext_75 : decode cX6_cheapestNext 75 = .ok (.istore 5, 2) := by decide +kernel
theorem dX6_cheapestNext_77 : decode cX6_cheapestNext 77 = .ok (.iinc 6 1, 3) := by decide +kernel
theorem dX6_cheapestNext_80 : decode cX6_cheapestNext 80 = .ok (.goto (-71), 3) := by decide +kernel
theorem dX6_cheapestNext_83 : decode cX6_cheapestNext 83 = .ok (.iload 4, 2) := by decide +kernel
theorem dX6_cheapestNext_85 : decode cX6_cheapestNext 85 = .ok (.ireturn, 1) := by decide +kernel
theorem hcX6_cheapestNext : yX6_cheapestNext.cls ≠ "java/lang/invoke/MethodHandle" ∧ yX6_cheapestNext.cls ≠ "java/lang/invoke/VarHandle" ∧ (parseMethodDescriptor yX6_cheapestNext.desc).map (fun d => d.parameters.length) = some 3 := ⟨by decide +kernel, by decide +kernel, by decide +kernel⟩
def fX6_cheapestNext_j77 (x6_9 : Int) (k9 : Int → Int → Int → Prop) (x4_77 : Int) (x5_77 : Int) : Prop := sg_R (x6_9 + 1) ∧ k9 x4_77 x5_77 (x6_9 + 1)
def fX6_cheapestNext_j69 (x6_9 : Int) (u4 : Int) (y0_53 : Int) (k77 : Int → Int → Prop)  : Prop := sg_R (u4 + y0_53) ∧ k77 x6_9 (u4 + y0_53)
def fX6_cheapestNext_j53 (x4_9 : Int) (x5_9 : Int) (x6_9 : Int) (u4 : Int) (k77 : Int → Int → Prop) (y0_53 : Int) : Prop := ((x4_9 = (-1) → (fX6_cheapestNext_j69 x6_9 u4 y0_53 k77)) ∧ (¬ (x4_9 = (-1)) → sg_R (u4 + y0_53) ∧ ((x5_9 ≤ (u4 + y0_53) → k77 x4_9 x5_9) ∧ (¬ (x5_9 ≤ (u4 + y0_53)) → (fX6_cheapestNext_j69 x6_9 u4 y0_53 k77)))))
def fX6_cheapestNext_L9 (La : sg_L) (s0 : sg_M) (o1 : Int) (x2 : Int) (x3 : Int) (Q : Int → Prop) : Nat → Int → Int → Int → Prop
  | 0, _, _, _ => False
  | n_9 + 1, x4_9, x5_9, x6_9 => (((s0 o1 2) ≤ x6_9 → Q x4_9) ∧ (¬ ((s0 o1 2) ≤ x6_9) → sg_R (x2 + 1) ∧ fX6_costAt s0 (x2 + 1) x6_9 (fun u4 => ((u4 = (-1) → (fX6_cheapestNext_j77 x6_9 (fX6_cheapestNext_L9 La s0 o1 x2 x3 Q n_9)) x4_9 x5_9) ∧ (¬ (u4 = (-1)) → ((x3 ≠ (-1) → fX2_way La s0 o1 x3 x6_9 (fun u13 => (fX6_cheapestNext_j53 x4_9 x5_9 x6_9 u4 (fX6_cheapestNext_j77 x6_9 (fX6_cheapestNext_L9 La s0 o1 x2 x3 Q n_9))) u13)) ∧ (x3 = (-1) → (fX6_cheapestNext_j53 x4_9 x5_9 x6_9 u4 (fX6_cheapestNext_j77 x6_9 (fX6_cheapestNext_L9 La s0 o1 x2 x3 Q n_9))) 0)))))))
def fX6_cheapestNext (La : sg_L) (s0 : sg_M) (o1 : Int) (x2 : Int) (x3 : Int) (Q : Int → Prop) : Prop := (∃ n15 : Nat, fX6_cheapestNext_L9 La s0 o1 x2 x3 Q n15 (-1) 0 0)
set_option maxHeartbeats 4000000 in
set_option maxRecDepth 100000 in
theorem CX6_cheapestNext {l : Launch} {G : sg_G} {La : sg_L} {s0 : sg_M} (hst : sg_St La) {o1 : Int} (t1 : sg_O La o1 2) {x2 : Int} (r2 : sg_R x2) {x3 : Int} (r3 : sg_R x3) {Q : Int → Prop} (hf : fX6_cheapestNext La s0 o1 x2 x3 Q) : sg_C l G yX6_cheapestNext cX6_cheapestNext 9 (some .int) 3 0 0 La s0 [sg_r 46, sg_r o1, sg_i x2, sg_i x3] (sg_PI La s0 Q) := by
  refine sg_body (by decide +kernel) (Nat.le_of_ble_eq_true rfl) ?_
  intro p e s m args below meth c F hnm
  unfold fX6_cheapestNext at hf
  show sg_W p l e (sg_rm 3 0 0) s m args below meth c (MQ below (sg_Q (some .int) G La s.heap.size (sg_PI La s0 Q)) args s 0 0 (sg_A La s.heap.size)) 9 G (sg_A La s.heap.size) La s0 0 0 0 [(0, sg_r 46), (1, sg_r o1), (2, sg_i x2), (3, sg_i x3)] []
  refine gw_iconst F dX6_cheapestNext_0 ?_
  refine gw_istore F (by decide) rfl dX6_cheapestNext_1 ?_
  refine gw_iconst F dX6_cheapestNext_3 ?_
  refine gw_istore F (by decide) rfl dX6_cheapestNext_4 ?_
  refine gw_iconst F dX6_cheapestNext_6 ?_
  refine gw_istore F (by decide) rfl dX6_cheapestNext_7 ?_
  have L9 : ∀ n_9 : Nat, ∀ (x4_9 : Int) (x5_9 : Int) (x6_9 : Int), sg_R x4_9 → sg_R x5_9 → sg_R x6_9 → fX6_cheapestNext_L9 La s0 o1 x2 x3 Q n_9 x4_9 x5_9 x6_9 → sg_W p l e (sg_rm 3 0 0) s m args below meth c (MQ below (sg_Q (some .int) G La s.heap.size (sg_PI La s0 Q)) args s 0 0 (sg_A La s.heap.size)) 9 G (sg_A La s.heap.size) La s0 0 0 9 [(0, sg_r 46), (1, sg_r o1), (2, sg_i x2), (3, sg_i x3), (4, sg_i x4_9), (5, sg_i x5_9), (6, sg_i x6_9)] [] := by
    intro n_9
    induction n_9 with
    | zero => intro x4_9 x5_9 x6_9 r4_9 r5_9 r6_9 hf; exact hf.elim
    | succ n_9 ih =>
      intro x4_9 x5_9 x6_9 r4_9 r5_9 r6_9 hf
      unfold fX6_cheapestNext_L9 at hf
      refine gw_iload F 6 rfl dX6_cheapestNext_9 ?_
      refine gw_aload_n F 1 rfl rfl t1.1 dX6_cheapestNext_11 ?_
      refine gw_get0 F t1 (by decide) rfl sg_lay_RX2 (j := 2) (by decide) rfl (.inr kw_229) dX6_cheapestNext_12 (fun h1 => ?_)
      refine gw_icmp_ge F (tgt := 83) dX6_cheapestNext_15 (by decide) r6_9 h1 (fun c2 => ?_) (fun c2 => ?_)
      · have hf := hf.1 c2
        refine gw_iload F 4 rfl dX6_cheapestNext_83 ?_
        exact gr_PI F r4_9 hf (by decide) (by decide) dX6_cheapestNext_85
      · have hf := hf.2 c2
        refine gw_aload_n F 0 rfl rfl (by decide) dX6_cheapestNext_18 ?_
        refine gw_iload_n F 2 rfl rfl dX6_cheapestNext_19 ?_
        refine gw_iconst F dX6_cheapestNext_20 ?_
        refine gw_iadd F rfl dX6_cheapestNext_21 ?_
        refine gw_iload F 6 rfl dX6_cheapestNext_22 ?_
        obtain ⟨g3, hf⟩ := hf
        refine gk_PI F (gc_V F (S := []) (As := [sg_i (x2 + 1), sg_i x6_9]) (T := TX6) (N := 3) (CX6_costAt hst g3 r6_9 hf) (so_46 hst) (by decide) rfl kw_706 kw_102 kw_704 kw_705 kw_24 hcX6_costAt ⟨by decide, by decide⟩ rfl rfl (Nat.le_of_ble_eq_true rfl) ⟨by decide, by decide⟩ dX6_cheapestNext_24) (fun u4 h5 hf => ?_)
        refine gw_istore F (by decide) rfl dX6_cheapestNext_27 ?_
        refine gw_iload F 0 rfl dX6_cheapestNext_29 ?_
        refine gw_iconst F dX6_cheapestNext_31 ?_
        have J77 : ∀ (x4_77 : Int) (x5_77 : Int), sg_R x4_77 → sg_R x5_77 → (fX6_cheapestNext_j77 x6_9 (fX6_cheapestNext_L9 La s0 o1 x2 x3 Q n_9)) x4_77 x5_77 → sg_W p l e (sg_rm 3 0 0) s m args below meth c (MQ below (sg_Q (some .int) G La s.heap.size (sg_PI La s0 Q)) args s 0 0 (sg_A La s.heap.size)) 9 G (sg_A La s.heap.size) La s0 0 0 77 [(0, sg_r 46), (1, sg_r o1), (2, sg_i x2), (3, sg_i x3), (4, sg_i x4_77), (5, sg_i x5_77), (6, sg_i x6_9)] [] := by
          intro x4_77 x5_77 r4_77 r5_77 hf
          unfold fX6_cheapestNext_j77 at hf
          refine gw_iinc F (z := (x6_9 + 1)) 6 rfl (by omega) (by decide) rfl dX6_cheapestNext_77 ?_
          refine gw_goto F (tgt := 9) dX6_cheapestNext_80 (by decide) ?_
          obtain ⟨g6, hf⟩ := hf
          refine gw_sub [1, 2, 3, 4, 5, 6, 0] rfl ?_
          exact ih x4_77 x5_77 (x6_9 + 1) r4_77 r5_77 g6 hf
        refine gw_icmp_eq F (tgt := 77) dX6_cheapestNext_32 (by decide) h5 (by decide) (fun c7 => ?_) (fun c7 => ?_)
        · have hf := hf.1 c7
          refine gw_sub [1, 2, 3, 4, 5, 6, 7] rfl ?_
          exact J77 x4_9 x5_9 r4_9 r5_9 hf
        · have hf := hf.2 c7
          refine gw_iload F 0 rfl dX6_cheapestNext_35 ?_
          refine gw_iload_n F 4 rfl rfl dX6_cheapestNext_37 ?_
          refine gw_iconst F dX6_cheapestNext_38 ?_
          have J53 : ∀ (y0_53 : Int), sg_R y0_53 → (fX6_cheapestNext_j53 x4_9 x5_9 x6_9 u4 (fX6_cheapestNext_j77 x6_9 (fX6_cheapestNext_L9 La s0 o1 x2 x3 Q n_9))) y0_53 → sg_W p l e (sg_rm 3 0 0) s m args below meth c (MQ below (sg_Q (some .int) G La s.heap.size (sg_PI La s0 Q)) args s 0 0 (sg_A La s.heap.size)) 9 G (sg_A La s.heap.size) La s0 0 0 53 [(0, sg_r 46), (1, sg_r o1), (2, sg_i x2), (3, sg_i x3), (4, sg_i x4_9), (5, sg_i x5_9), (6, sg_i x6_9)] [sg_i y0_53, sg_i u4] := by
            intro y0_53 ry0_53 hf
            unfold fX6_cheapestNext_j53 at hf
            refine gw_iadd F rfl dX6_cheapestNext_53 ?_
            refine gw_istore F (by decide) rfl dX6_cheapestNext_54 ?_
            refine gw_iload F 5 rfl dX6_cheapestNext_56 ?_
            refine gw_iconst F dX6_cheapestNext_58 ?_
            have J69 : (fX6_cheapestNext_j69 x6_9 u4 y0_53 (fX6_cheapestNext_j77 x6_9 (fX6_cheapestNext_L9 La s0 o1 x2 x3 Q n_9))) → sg_W p l e (sg_rm 3 0 0) s m args below meth c (MQ below (sg_Q (some .int) G La s.heap.size (sg_PI La s0 Q)) args s 0 0 (sg_A La s.heap.size)) 9 G (sg_A La s.heap.size) La s0 0 0 69 [(0, sg_r 46), (1, sg_r o1), (2, sg_i x2), (3, sg_i x3), (6, sg_i x6_9), (8, sg_i (u4 + y0_53))] [] := by
              intro hf
              unfold fX6_cheapestNext_j69 at hf
              refine gw_iload F 4 rfl dX6_cheapestNext_69 ?_
              refine gw_istore F (by decide) rfl dX6_cheapestNext_71 ?_
              refine gw_iload F 6 rfl dX6_cheapestNext_73 ?_
              refine gw_istore F (by decide) rfl dX6_cheapestNext_75 ?_
              obtain ⟨g8, hf⟩ := hf
              refine gw_sub [2, 3, 4, 5, 1, 0, 6] rfl ?_
              exact J77 x6_9 (u4 + y0_53) r6_9 g8 hf
            refine gw_icmp_eq F (tgt := 69) dX6_cheapestNext_59 (by decide) r4_9 (by decide) (fun c9 => ?_) (fun c9 => ?_)
            · have hf := hf.1 c9
              refine gw_sub [1, 2, 3, 4, 7, 0] rfl ?_
              exact J69  hf
            · have hf := hf.2 c9
              refine gw_iload F 0 rfl dX6_cheapestNext_62 ?_
              refine gw_iload F 6 rfl dX6_cheapestNext_64 ?_
              obtain ⟨g10, hf⟩ := hf
              refine gw_icmp_ge F (tgt := 77) dX6_cheapestNext_66 (by decide) g10 r5_9 (fun c11 => ?_) (fun c11 => ?_)
              · have hf := hf.1 c11
                refine gw_sub [1, 2, 3, 4, 5, 6, 7] rfl ?_
                exact J77 x4_9 x5_9 r4_9 r5_9 hf
              · have hf := hf.2 c11
                refine gw_sub [1, 2, 3, 4, 7, 0] rfl ?_
                exact J69  hf
          refine gw_icmp_ne F (tgt := 46) dX6_cheapestNext_39 (by decide) r3 (by decide) (fun c12 => ?_) (fun c12 => ?_)
          · have hf := hf.1 c12
            refine gw_aload_n F 2 rfl rfl t1.1 dX6_cheapestNext_46 ?_
            refine gw_iload_n F 4 rfl rfl dX6_cheapestNext_47 ?_
            refine gw_iload F 7 rfl dX6_cheapestNext_48 ?_
            refine gk_PI F (gc_V F (S := [sg_i u4]) (As := [sg_i x3, sg_i x6_9]) (T := TX2) (N := 3) (CX2_way t1 r3 r6_9 hf) t1 (by decide) rfl kw_710 kw_99 kw_707 kw_708 kw_709 hcX2_way ⟨by decide, by decide⟩ rfl rfl (Nat.le_of_ble_eq_true rfl) ⟨by decide, by decide⟩ dX6_cheapestNext_50) (fun u13 h14 hf => ?_)
            refine gw_sub [1, 2, 3, 4, 5, 6, 7] rfl ?_
            exact J53 u13 h14 hf
          · have hf := hf.2 c12
            refine gw_iconst F dX6_cheapestNext_42 ?_
            refine gw_goto F (tgt := 53) dX6_cheapestNext_43 (by decide) ?_
            refine gw_sub [1, 2, 3, 4, 5, 6, 7] rfl ?_
            exact J53 0 (by decide) hf
  obtain ⟨n15, hf⟩ := hf
  refine gw_sub [3, 4, 5, 6, 2, 1, 0] rfl ?_
  refine L9   n15 (-1) 0 0 (by decide) (by decide) (by decide) hf

theorem dX4_add_0 : decode cX4_add 0 = .ok (.aload_n 0, 1) := by decide +kernel
theorem dX4_add_1 : decode cX4_add 1 = .ok (.getfield 9, 3) := by decide +kernel
theorem dX4_add_4 : decode cX4_add 4 = .ok (.ifCond .lt 35, 3) := by decide +kernel
theorem dX4_add_7 : decode cX4_add 7 = .ok (.aload_n 0, 1) := by decide +kernel
theorem dX4_add_8 : decode cX4_add 8 = .ok (.getfield 9, 3) := by decide +kernel
theorem dX4_add_11 : decode cX4_add 11 = .ok (.aload_n 0, 1) := by decide +kernel
theorem dX4_add_12 : decode cX4_add 12 = .ok (.getfield 25, 3) := by decide +kernel
theorem dX4_add_15 : decode cX4_add 15 = .ok (.arraylength, 1) := by decide +kernel
theorem dX4_add_16 : decode cX4_add 16 = .ok (.if_icmp .ge 23, 3) := by decide +kernel
theorem dX4_add_19 : decode cX4_add 19 = .ok (.aload_n 0, 1) := by decide +kernel
theorem dX4_add_20 : decode cX4_add 20 = .ok (.getfield 25, 3) := by decide +kernel
theorem dX4_add_23 : decode cX4_add 23 = .ok (.aload_n 0, 1) := by decide +kernel
theorem dX4_add_24 : decode cX4_add 24 = .ok (.getfield 9, 3) := by decide +kernel
theorem dX4_add_27 : decode cX4_add 27 = .ok (.iload_n 1, 1) := by decide +kernel
theorem dX4_add_28 : decode cX4_add 28 = .ok (.iastore, 1) := by decide +kernel
theorem dX4_add_29 : decode cX4_add 29 = .ok (.aload_n 0, 1) := by decide +kernel
theorem dX4_add_30 : decode cX4_add 30 = .ok (.dup, 1) := by decide +kernel
theorem dX4_add_31 : decode cX4_add 31 = .ok (.getfield 9, 3) := by decide +kernel
theorem dX4_add_34 : decode cX4_add 34 = .ok (.iconst 1, 1) := by decide +kernel
theorem dX4_add_35 : decode cX4_add 35 = .ok (.iadd, 1) := by decide +kernel
theorem dX4_add_36 : decode cX4_add 36 = .ok (.putfield 9, 3) := by decide +kernel
theorem dX4_add_39 : decode cX4_add 39 = .ok (.return_, 1) := by decide +kernel
theorem hcX4_add : yX4_add.cls ≠ "java/lang/invoke/MethodHandle" ∧ yX4_add.cls ≠ "java/lang/invoke/VarHandle" ∧ (parseMethodDescriptor yX4_add.desc).map (fun d => d.parameters.length) = some 1 := ⟨by decide +kernel, by decide +kernel, by decide +kernel⟩
def fX4_add (La : sg_L) (s0 : sg_M) (o : Int) (x1 : Int) (Q : sg_M → Prop) : Prop := (((s0 o 1) < 0 → Q s0) ∧ (¬ ((s0 o 1) < 0) → sg_R (sg_ln La (o + 1)) ∧ (((sg_ln La (o + 1)) ≤ (s0 o 1) → Q s0) ∧ (¬ ((sg_ln La (o + 1)) ≤ (s0 o 1)) → (0 ≤ (s0 o 1) ∧ (s0 o 1) < (sg_ln La (o + 1))) ∧ ∀ s10 : sg_M, s10 = sg_up s0 (o + 1) (s0 o 1) x1 → sg_R ((s10 o 1) + 1) ∧ ∀ s14 : sg_M, s14 = sg_up s10 o 1 ((s10 o 1) + 1) → Q s14))))
set_option maxHeartbeats 4000000 in
set_option maxRecDepth 100000 in
theorem CX4_add {l : Launch} {G : sg_G} {La : sg_L} {s0 : sg_M} {o : Int} (to : sg_O La o 4) {x1 : Int} (r1 : sg_R x1) {Q : sg_M → Prop} (hf : fX4_add La s0 o x1 Q) : sg_C l G yX4_add cX4_add 2 (none) 1 0 0 La s0 [sg_r o, sg_i x1] (sg_HV La Q) := by
  refine sg_body (by decide +kernel) (Nat.le_of_ble_eq_true rfl) ?_
  intro p e s m args below meth c F hnm
  unfold fX4_add at hf
  show sg_W p l e (sg_rm 1 0 0) s m args below meth c (MQ below (sg_Q (none) G La s.heap.size (sg_HV La Q)) args s 0 0 (sg_A La s.heap.size)) 2 G (sg_A La s.heap.size) La s0 0 0 0 [(0, sg_r o), (1, sg_i x1)] []
  refine gw_aload_n F 0 rfl rfl to.1 dX4_add_0 ?_
  refine gw_get0 F to (by decide) rfl sg_lay_RX4 (j := 1) (by decide) rfl (host := "") (.inl kw_200) dX4_add_1 (fun h1 => ?_)
  refine gw_if_lt F (tgt := 39) dX4_add_4 (by decide) h1 (fun c2 => ?_) (fun c2 => ?_)
  · have hf := hf.1 c2
    exact gr_HV F hf (by decide) (by decide) dX4_add_39
  · have hf := hf.2 c2
    refine gw_aload_n F 0 rfl rfl to.1 dX4_add_7 ?_
    refine gw_get0 F to (by decide) rfl sg_lay_RX4 (j := 1) (by decide) rfl (host := "") (.inl kw_200) dX4_add_8 (fun h3 => ?_)
    refine gw_aload_n F 0 rfl rfl to.1 dX4_add_11 ?_
    refine gw_get3 F to (by decide) rfl sg_lay_RX4 (j := 0) (by decide) (o1 := (o + 1)) (by first | rfl | omega) rfl (host := "") (.inl kw_199) dX4_add_12 (fun h4 => ?_)
    refine gw_alen F (sg_AN_any h4) dX4_add_15 ?_
    obtain ⟨g5, hf⟩ := hf
    refine gw_icmp_ge F (tgt := 39) dX4_add_16 (by decide) h3 g5 (fun c6 => ?_) (fun c6 => ?_)
    · have hf := hf.1 c6
      exact gr_HV F hf (by decide) (by decide) dX4_add_39
    · have hf := hf.2 c6
      refine gw_aload_n F 0 rfl rfl to.1 dX4_add_19 ?_
      refine gw_get3 F to (by decide) rfl sg_lay_RX4 (j := 0) (by decide) (o1 := (o + 1)) (by first | rfl | omega) rfl (host := "") (.inl kw_199) dX4_add_20 (fun h7 => ?_)
      refine gw_aload_n F 0 rfl rfl to.1 dX4_add_23 ?_
      refine gw_get0 F to (by decide) rfl sg_lay_RX4 (j := 1) (by decide) rfl (host := "") (.inl kw_200) dX4_add_24 (fun h8 => ?_)
      refine gw_iload_n F 1 rfl rfl dX4_add_27 ?_
      obtain ⟨⟨b90, b91⟩, hf⟩ := hf
      obtain ⟨s10, e11⟩ : ∃ z : sg_M, z = sg_up s0 (o + 1) (s0 o 1) x1 := ⟨_, rfl⟩
      have hf := hf s10 e11
      refine gw_iast F (sg_AN_any h7) b90 b91 r1 e11 dX4_add_28 ?_
      refine gw_aload_n F 0 rfl rfl to.1 dX4_add_29 ?_
      refine gw_dup F rfl dX4_add_30 ?_
      refine gw_get0 F to (by decide) rfl sg_lay_RX4 (j := 1) (by decide) rfl (host := "") (.inl kw_200) dX4_add_31 (fun h12 => ?_)
      refine gw_iconst F dX4_add_34 ?_
      refine gw_iadd F rfl dX4_add_35 ?_
      obtain ⟨g13, hf⟩ := hf
      obtain ⟨s14, e15⟩ : ∃ z : sg_M, z = sg_up s10 o 1 ((s10 o 1) + 1) := ⟨_, rfl⟩
      have hf := hf s14 e15
      refine gw_put0 F to (by decide) rfl sg_lay_RX4 (j := 1) (by decide) g13 e15 tyX4_ok nmX4 rfl (tyX4_ok 1 (by decide)) rfl (host := "") (.inl kw_200) dX4_add_36 ?_
      exact gr_HV F hf (by decide) (by decide) dX4_add_39

theorem dX4_clear_0 : decode cX4_clear 0 = .ok (.aload_n 0, 1) := by decide +kernel
theorem dX4_clear_1 : decode cX4_clear 1 = .ok (.iconst 0, 1) := by decide +kernel
theorem dX4_clear_2 : decode cX4_clear 2 = .ok (.putfield 9, 3) := by decide +kernel
theorem dX4_clear_5 : decode cX4_clear 5 = .ok (.return_, 1) := by decide +kernel
theorem hcX4_clear : yX4_clear.cls ≠ "java/lang/invoke/MethodHandle" ∧ yX4_clear.cls ≠ "java/lang/invoke/VarHandle" ∧ (parseMethodDescriptor yX4_clear.desc).map (fun d => d.parameters.length) = some 0 := ⟨by decide +kernel, by decide +kernel, by decide +kernel⟩
def fX4_clear (s0 : sg_M) (o : Int) (Q : sg_M → Prop) : Prop := ∀ s1 : sg_M, s1 = sg_up s0 o 1 0 → Q s1
set_option maxHeartbeats 4000000 in
set_option maxRecDepth 100000 in
theorem CX4_clear {l : Launch} {G : sg_G} {La : sg_L} {s0 : sg_M} {o : Int} (to : sg_O La o 4) {Q : sg_M → Prop} (hf : fX4_clear s0 o Q) : sg_C l G yX4_clear cX4_clear 1 (none) 1 0 0 La s0 [sg_r o] (sg_HV La Q) := by
  refine sg_body (by decide +kernel) (Nat.le_of_ble_eq_true rfl) ?_
  intro p e s m args below meth c F hnm
  unfold fX4_clear at hf
  show sg_W p l e (sg_rm 1 0 0) s m args below meth c (MQ below (sg_Q (none) G La s.heap.size (sg_HV La Q)) args s 0 0 (sg_A La s.heap.size)) 1 G (sg_A La s.heap.size) La s0 0 0 0 [(0, sg_r o)] []
  refine gw_aload_n F 0 rfl rfl to.1 dX4_clear_0 ?_
  refine gw_iconst F dX4_clear_1 ?_
  obtain ⟨s1, e2⟩ : ∃ z : sg_M, z = sg_up s0 o 1 0 := ⟨_, rfl⟩
  have hf := hf s1 e2
  refine gw_put0 F to (by decide) rfl sg_lay_RX4 (j := 1) (by decide) (by decide) e2 tyX4_ok nmX4 rfl (tyX4_ok 1 (by decide)) rfl (host := "") (.inl kw_200) dX4_clear_2 ?_
  exact gr_HV F hf (by decide) (by decide) dX4_clear_5

theorem dX4_copyFrom_0 : decode cX4_copyFrom 0 = .ok (.aload_n 0, 1) := by decide +kernel
theorem dX4_copyFrom_1 : decode cX4_copyFrom 1 = .ok (.invokevirtual 29, 3) := by decide +kernel
theorem dX4_copyFrom_4 : decode cX4_copyFrom 4 = .ok (.iconst 0, 1) := by decide +kernel
theorem dX4_copyFrom_5 : decode cX4_copyFrom 5 = .ok (.istore_n 2, 1) := by decide +kernel
theorem dX4_copyFrom_6 : decode cX4_copyFrom 6 = .ok (.iload_n 2, 1) := by decide +kernel
theorem dX4_copyFrom_7 : decode cX4_copyFrom 7 = .ok (.aload_n 1, 1) := by decide +kernel
theorem dX4_copyFrom_8 : decode cX4_copyFrom 8 = .ok (.getfield 9, 3) := by decide +kernel
theorem dX4_copyFrom_11 : decode cX4_copyFrom 11 = .ok (.if_icmp .ge 18, 3) := by decide +kernel
theorem dX4_copyFrom_14 : decode cX4_copyFrom 14 = .ok (.aload_n 0, 1) := by decide +kernel
theorem dX4_copyFrom_15 : decode cX4_copyFrom 15 = .ok (.aload_n 1, 1) := by decide +kernel
theorem dX4_copyFrom_16 : decode cX4_copyFrom 16 = .ok (.iload_n 2, 1) := by decide +kernel
theorem dX4_copyFrom_17 : decode cX4_copyFrom 17 = .ok (.invokevirtual 32, 3) := by decide +kernel
theorem dX4_copyFrom_20 : decode cX4_copyFrom 20 = .ok (.invokevirtual 36, 3) := by decide +kernel
theorem dX4_copyFrom_23 : decode cX4_copyFrom 23 = .ok (.iinc 2 1, 3) := by decide +kernel
theorem dX4_copyFrom_26 : decode cX4_copyFrom 26 = .ok (.goto (-20), 3) := by decide +kernel
theorem dX4_copyFrom_29 : decode cX4_copyFrom 29 = .ok (.return_, 1) := by decide +kernel
theorem hcX4_copyFrom : yX4_copyFrom.cls ≠ "java/lang/invoke/MethodHandle" ∧ yX4_copyFrom.cls ≠ "java/lang/invoke/VarHandle" ∧ (parseMethodDescriptor yX4_copyFrom.desc).map (fun d => d.parameters.length) = some 1 := ⟨by decide +kernel, by decide +kernel, by decide +kernel⟩
def fX4_copyFrom_L6 (La : sg_L) (o : Int) (o1 : Int) (Q : sg_M → Prop) : Nat → sg_M → Int → Prop
  | 0, _, _ => False
  | n_6 + 1, s_6, x2_6 => (((s_6 o1 1) ≤ x2_6 → Q s_6) ∧ (¬ ((s_6 o1 1) ≤ x2_6) → fX4_at La s_6 o1 x2_6 (fun u4 => fX4_add La s_6 o u4 (fun s6 => sg_R (x2_6 + 1) ∧ (fX4_copyFrom_L6 La o o1 Q n_6) s6 (x2_6 + 1)))))
def fX4_copyFrom (La : sg_L) (s0 : sg_M) (o : Int) (o1 : Int) (Q : sg_M → Prop) : Prop := fX4_clear s0 o (fun s1 => (∃ n8 : Nat, fX4_copyFrom_L6 La o o1 Q n8 s1 0))
set_option maxHeartbeats 4000000 in
set_option maxRecDepth 100000 in
theorem CX4_copyFrom {l : Launch} {G : sg_G} {La : sg_L} {s0 : sg_M} {o : Int} (to : sg_O La o 4) {o1 : Int} (t1 : sg_O La o1 4) {Q : sg_M → Prop} (hf : fX4_copyFrom La s0 o o1 Q) : sg_C l G yX4_copyFrom cX4_copyFrom 3 (none) 2 0 0 La s0 [sg_r o, sg_r o1] (sg_HV La Q) := by
  refine sg_body (by decide +kernel) (Nat.le_of_ble_eq_true rfl) ?_
  intro p e s m args below meth c F hnm
  unfold fX4_copyFrom at hf
  show sg_W p l e (sg_rm 2 0 0) s m args below meth c (MQ below (sg_Q (none) G La s.heap.size (sg_HV La Q)) args s 0 0 (sg_A La s.heap.size)) 3 G (sg_A La s.heap.size) La s0 0 0 0 [(0, sg_r o), (1, sg_r o1)] []
  refine gw_aload_n F 0 rfl rfl to.1 dX4_copyFrom_0 ?_
  refine gk_HV F (gc_V F (S := []) (As := []) (T := TX4) (N := 3) (CX4_clear to hf) to (by decide) rfl kw_531 kw_97 kw_870 kw_529 kw_530 hcX4_clear ⟨by decide, by decide⟩ rfl rfl (Nat.le_of_ble_eq_true rfl) ⟨by decide, by decide⟩ dX4_copyFrom_1) (fun s1 hf => ?_)
  refine gw_iconst F dX4_copyFrom_4 ?_
  refine gw_istore_n F rfl (by decide) rfl dX4_copyFrom_5 ?_
  have L6 : ∀ n_6 : Nat, ∀ (s_6 : sg_M) (x2_6 : Int), sg_R x2_6 → fX4_copyFrom_L6 La o o1 Q n_6 s_6 x2_6 → sg_W p l e (sg_rm 2 0 0) s m args below meth c (MQ below (sg_Q (none) G La s.heap.size (sg_HV La Q)) args s 0 0 (sg_A La s.heap.size)) 3 G (sg_A La s.heap.size) La s_6 0 0 6 [(0, sg_r o), (1, sg_r o1), (2, sg_i x2_6)] [] := by
    intro n_6
    induction n_6 with
    | zero => intro s_6 x2_6 r2_6 hf; exact hf.elim
    | succ n_6 ih =>
      intro s_6 x2_6 r2_6 hf
      unfold fX4_copyFrom_L6 at hf
      refine gw_iload_n F 2 rfl rfl dX4_copyFrom_6 ?_
      refine gw_aload_n F 1 rfl rfl t1.1 dX4_copyFrom_7 ?_
      refine gw_get0 F t1 (by decide) rfl sg_lay_RX4 (j := 1) (by decide) rfl (host := "") (.inl kw_200) dX4_copyFrom_8 (fun h2 => ?_)
      refine gw_icmp_ge F (tgt := 29) dX4_copyFrom_11 (by decide) r2_6 h2 (fun c3 => ?_) (fun c3 => ?_)
      · have hf := hf.1 c3
        exact gr_HV F hf (by decide) (by decide) dX4_copyFrom_29
      · have hf := hf.2 c3
        refine gw_aload_n F 0 rfl rfl to.1 dX4_copyFrom_14 ?_
        refine gw_aload_n F 1 rfl rfl t1.1 dX4_copyFrom_15 ?_
        refine gw_iload_n F 2 rfl rfl dX4_copyFrom_16 ?_
        refine gk_PI F (gc_V F (S := [sg_r o]) (As := [sg_i x2_6]) (T := TX4) (N := 3) (CX4_at t1 r2_6 hf) t1 (by decide) rfl kw_546 kw_97 kw_871 kw_544 kw_545 hcX4_at ⟨by decide, by decide⟩ rfl rfl (Nat.le_of_ble_eq_true rfl) ⟨by decide, by decide⟩ dX4_copyFrom_17) (fun u4 h5 hf => ?_)
        refine gk_HV F (gc_V F (S := []) (As := [sg_i u4]) (T := TX4) (N := 3) (CX4_add to h5 hf) to (by decide) rfl kw_538 kw_97 kw_872 kw_536 kw_537 hcX4_add ⟨by decide, by decide⟩ rfl rfl (Nat.le_of_ble_eq_true rfl) ⟨by decide, by decide⟩ dX4_copyFrom_20) (fun s6 hf => ?_)
        refine gw_iinc F (z := (x2_6 + 1)) 2 rfl (by omega) (by decide) rfl dX4_copyFrom_23 ?_
        refine gw_goto F (tgt := 6) dX4_copyFrom_26 (by decide) ?_
        obtain ⟨g7, hf⟩ := hf
        refine gw_sub [1, 2, 0] rfl ?_
        exact ih s6 (x2_6 + 1) g7 hf
  obtain ⟨n8, hf⟩ := hf
  refine gw_sub [1, 2, 0] rfl ?_
  refine L6   n8 s1 0 (by decide) hf

theorem dX2_copyFrom_0 : decode cX2_copyFrom 0 = .ok (.aload_n 0, 1) := by decide +kernel
theorem dX2_copyFrom_1 : decode cX2_copyFrom 1 = .ok (.getfield 14, 3) := by decide +kernel
theorem dX2_copyFrom_4 : decode cX2_copyFrom 4 = .ok (.aload_n 1, 1) := by decide +kernel
theorem dX2_copyFrom_5 : decode cX2_copyFrom 5 = .ok (.getfield 14, 3) := by decide +kernel
theorem dX2_copyFrom_8 : decode cX2_copyFrom 8 = .ok (.invokevirtual 30, 3) := by decide +kernel
theorem dX2_copyFrom_11 : decode cX2_copyFrom 11 = .ok (.aload_n 0, 1) := by decide +kernel
theorem dX2_copyFrom_12 : decode cX2_copyFrom 12 = .ok (.getfield 20, 3) := by decide +kernel
theorem dX2_copyFrom_15 : decode cX2_copyFrom 15 = .ok (.aload_n 1, 1) := by decide +kernel
theorem dX2_copyFrom_16 : decode cX2_copyFrom 16 = .ok (.getfield 20, 3) := by decide +kernel
theorem dX2_copyFrom_19 : decode cX2_copyFrom 19 = .ok (.invokevirtual 30, 3) := by decide +kernel
theorem dX2_copyFrom_22 : decode cX2_copyFrom 22 = .ok (.aload_n 0, 1) := by decide +kernel
theorem dX2_copyFrom_23 : decode cX2_copyFrom 23 = .ok (.aload_n 1, 1) := by decide +kernel
theorem dX2_copyFrom_24 : decode cX2_copyFrom 24 = .ok (.getfield 23, 3) := by decide +kernel
theorem dX2_copyFrom_27 : decode cX2_copyFrom 27 = .ok (.putfield 23, 3) := by decide +kernel
theorem dX2_copyFrom_30 : decode cX2_copyFrom 30 = .ok (.return_, 1) := by decide +kernel
theorem hcX2_copyFrom : yX2_copyFrom.cls ≠ "java/lang/invoke/MethodHandle" ∧ yX2_copyFrom.cls ≠ "java/lang/invoke/VarHandle" ∧ (parseMethodDescriptor yX2_copyFrom.desc).map (fun d => d.parameters.length) = some 1 := ⟨by decide +kernel, by decide +kernel, by decide +kernel⟩
def fX2_copyFrom (La : sg_L) (s0 : sg_M) (o : Int) (o1 : Int) (Q : sg_M → Prop) : Prop := fX4_copyFrom La s0 (o + 1) (o1 + 1) (fun s3 => fX4_copyFrom La s3 (o + 3) (o1 + 3) (fun s6 => ∀ s8 : sg_M, s8 = sg_up s6 o 2 (s6 o1 2) → Q s8))
set_option maxHeartbeats 4000000 in
set_option maxRecDepth 100000 in
theorem CX2_copyFrom {l : Launch} {G : sg_G} {La : sg_L} {s0 : sg_M} {o : Int} (to : sg_O La o 2) {o1 : Int} (t1 : sg_O La o1 2) {Q : sg_M → Prop} (hf : fX2_copyFrom La s0 o o1 Q) : sg_C l G yX2_copyFrom cX2_copyFrom 2 (none) 3 0 0 La s0 [sg_r o, sg_r o1] (sg_HV La Q) := by
  refine sg_body (by decide +kernel) (Nat.le_of_ble_eq_true rfl) ?_
  intro p e s m args below meth c F hnm
  unfold fX2_copyFrom at hf
  show sg_W p l e (sg_rm 3 0 0) s m args below meth c (MQ below (sg_Q (none) G La s.heap.size (sg_HV La Q)) args s 0 0 (sg_A La s.heap.size)) 2 G (sg_A La s.heap.size) La s0 0 0 0 [(0, sg_r o), (1, sg_r o1)] []
  refine gw_aload_n F 0 rfl rfl to.1 dX2_copyFrom_0 ?_
  refine gw_get3 F to (by decide) rfl sg_lay_RX2 (j := 0) (by decide) (o1 := (o + 1)) (by first | rfl | omega) rfl (host := "") (.inl kw_224) dX2_copyFrom_1 (fun h1 => ?_)
  refine gw_aload_n F 1 rfl rfl t1.1 dX2_copyFrom_4 ?_
  refine gw_get3 F t1 (by decide) rfl sg_lay_RX2 (j := 0) (by decide) (o1 := (o1 + 1)) (by first | rfl | omega) rfl (host := "") (.inl kw_224) dX2_copyFrom_5 (fun h2 => ?_)
  refine gk_HV F (gc_V F (S := []) (As := [sg_r (o1 + 1)]) (T := TX4) (N := 3) (CX4_copyFrom (sg_O_of h1 (by decide)) (sg_O_of h2 (by decide)) hf) (sg_O_of h1 (by decide)) (by decide) rfl kw_869 kw_97 kw_866 kw_867 kw_868 hcX4_copyFrom ⟨by decide, by decide⟩ rfl rfl (Nat.le_of_ble_eq_true rfl) ⟨by decide, by decide⟩ dX2_copyFrom_8) (fun s3 hf => ?_)
  refine gw_aload_n F 0 rfl rfl to.1 dX2_copyFrom_11 ?_
  refine gw_get3 F to (by decide) rfl sg_lay_RX2 (j := 1) (by decide) (o1 := (o + 3)) (by first | rfl | omega) rfl (host := "") (.inl kw_226) dX2_copyFrom_12 (fun h4 => ?_)
  refine gw_aload_n F 1 rfl rfl t1.1 dX2_copyFrom_15 ?_
  refine gw_get3 F t1 (by decide) rfl sg_lay_RX2 (j := 1) (by decide) (o1 := (o1 + 3)) (by first | rfl | omega) rfl (host := "") (.inl kw_226) dX2_copyFrom_16 (fun h5 => ?_)
  refine gk_HV F (gc_V F (S := []) (As := [sg_r (o1 + 3)]) (T := TX4) (N := 3) (CX4_copyFrom (sg_O_of h4 (by decide)) (sg_O_of h5 (by decide)) hf) (sg_O_of h4 (by decide)) (by decide) rfl kw_869 kw_97 kw_866 kw_867 kw_868 hcX4_copyFrom ⟨by decide, by decide⟩ rfl rfl (Nat.le_of_ble_eq_true rfl) ⟨by decide, by decide⟩ dX2_copyFrom_19) (fun s6 hf => ?_)
  refine gw_aload_n F 0 rfl rfl to.1 dX2_copyFrom_22 ?_
  refine gw_aload_n F 1 rfl rfl t1.1 dX2_copyFrom_23 ?_
  refine gw_get0 F t1 (by decide) rfl sg_lay_RX2 (j := 2) (by decide) rfl (host := "") (.inl kw_228) dX2_copyFrom_24 (fun h7 => ?_)
  obtain ⟨s8, e9⟩ : ∃ z : sg_M, z = sg_up s6 o 2 (s6 o1 2) := ⟨_, rfl⟩
  have hf := hf s8 e9
  refine gw_put0 F to (by decide) rfl sg_lay_RX2 (j := 2) (by decide) h7 e9 tyX2_ok nmX2 rfl (tyX2_ok 2 (by decide)) rfl (host := "") (.inl kw_228) dX2_copyFrom_27 ?_
  exact gr_HV F hf (by decide) (by decide) dX2_copyFrom_30

theorem dX7_copyFrom_0 : decode cX7_copyFrom 0 = .ok (.aload_n 0, 1) := by decide +kernel
theorem dX7_copyFrom_1 : decode cX7_copyFrom 1 = .ok (.aload_n 1, 1) := by decide +kernel
theorem dX7_copyFrom_2 : decode cX7_copyFrom 2 = .ok (.getfield 24, 3) := by decide +kernel
theorem dX7_copyFrom_5 : decode cX7_copyFrom 5 = .ok (.putfield 24, 3) := by decide +kernel
theorem dX7_copyFrom_8 : decode cX7_copyFrom 8 = .ok (.aload_n 0, 1) := by decide +kernel
theorem dX7_copyFrom_9 : decode cX7_copyFrom 9 = .ok (.aload_n 1, 1) := by decide +kernel
theorem dX7_copyFrom_10 : decode cX7_copyFrom 10 = .ok (.getfield 28, 3) := by decide +kernel
theorem dX7_copyFrom_13 : decode cX7_copyFrom 13 = .ok (.putfield 28, 3) := by decide +kernel
theorem dX7_copyFrom_16 : decode cX7_copyFrom 16 = .ok (.aload_n 0, 1) := by decide +kernel
theorem dX7_copyFrom_17 : decode cX7_copyFrom 17 = .ok (.aload_n 1, 1) := by decide +kernel
theorem dX7_copyFrom_18 : decode cX7_copyFrom 18 = .ok (.getfield 32, 3) := by decide +kernel
theorem dX7_copyFrom_21 : decode cX7_copyFrom 21 = .ok (.putfield 32, 3) := by decide +kernel
theorem dX7_copyFrom_24 : decode cX7_copyFrom 24 = .ok (.aload_n 0, 1) := by decide +kernel
theorem dX7_copyFrom_25 : decode cX7_copyFrom 25 = .ok (.getfield 12, 3) := by decide +kernel
theorem dX7_copyFrom_28 : decode cX7_copyFrom 28 = .ok (.aload_n 1, 1) := by decide +kernel
theorem dX7_copyFrom_29 : decode cX7_copyFrom 29 = .ok (.getfield 12, 3) := by decide +kernel
theorem dX7_copyFrom_32 : decode cX7_copyFrom 32 = .ok (.invokevirtual 36, 3) := by decide +kernel
theorem dX7_copyFrom_35 : decode cX7_copyFrom 35 = .ok (.iconst 0, 1) := by decide +kernel
theorem dX7_copyFrom_36 : decode cX7_copyFrom 36 = .ok (.istore_n 2, 1) := by decide +kernel
theorem dX7_copyFrom_37 : decode cX7_copyFrom 37 = .ok (.iload_n 2, 1) := by decide +kernel
theorem dX7_copyFrom_38 : decode cX7_copyFrom 38 = .ok (.iconst 4, 1) := by decide +kernel
theorem dX7_copyFrom_39 : decode cX7_copyFrom 39 = .ok (.if_icmp .ge 21, 3) := by decide +kernel
theorem dX7_copyFrom_42 : decode cX7_copyFrom 42 = .ok (.aload_n 0, 1) := by decide +kernel
theorem dX7_copyFrom_43 : decode cX7_copyFrom 43 = .ok (.getfield 20, 3) := by decide +kernel
theorem dX7_copyFrom_46 : decode cX7_copyFrom 46 = .ok (.iload_n 2, 1) := by decide +kernel
theorem dX7_copyFrom_47 : decode cX7_copyFrom 47 = .ok (.aload_n 1, 1) := by decide +kernel
theorem dX7_copyFrom_48 : decode cX7_copyFrom 48 = .ok (.getfield 20, 3) := by decide +kernel
theorem dX7_copyFrom_51 : decode cX7_copyFrom 51 = .ok (.iload_n 2, 1) := by decide +kernel
theorem dX7_copyFrom_52 : decode cX7_copyFrom 52 = .ok (.aaload, 1) := by decide +kernel
theorem dX7_copyFrom_53 : decode cX7_copyFrom 53 = .ok (.aastore, 1) := by decide +kernel
theorem dX7_copyFrom_54 : decode cX7_copyFrom 54 = .ok (.iinc 2 1, 3) := by decide +kernel
theorem dX7_copyFrom_57 : decode cX7_copyFrom 57 = .ok (.goto (-20), 3) := by decide +kernel
theorem dX7_copyFrom_60 : decode cX7_copyFrom 60 = .ok (.return_, 1) := by decide +kernel
theorem hcX7_copyFrom : yX7_copyFrom.cls ≠ "java/lang/invoke/MethodHandle" ∧ yX7_copyFrom.cls ≠ "java/lang/invoke/VarHandle" ∧ (parseMethodDescriptor yX7_copyFrom.desc).map (fun d => d.parameters.length) = some 1 := ⟨by decide +kernel, by decide +kernel, by decide +kernel⟩
def fX7_copyFrom_A_L37 (o1 : Int) (Q : sg_M → Prop) : Nat → sg_M → Int → Prop
  | 0, _, _ => False
  | n_37 + 1, s_37, x2_37 => ((4 ≤ x2_37 → Q s_37) ∧ (¬ (4 ≤ x2_37) → (0 ≤ x2_37 ∧ x2_37 < 4) ∧ (0 ≤ x2_37 ∧ x2_37 < 4) ∧ ∀ s25 : sg_M, s25 = sg_up s_37 25 x2_37 (s_37 (o1 + 6) x2_37) → sg_R (x2_37 + 1) ∧ (fX7_copyFrom_A_L37 o1 Q n_37) s25 (x2_37 + 1)))
def fX7_copyFrom_A (La : sg_L) (s0 : sg_M) (o1 : Int) (Q : sg_M → Prop) : Prop := (0 ≤ (s0 o1 0)) ∧ ∀ s4 : sg_M, s4 = sg_up s0 4 0 (s0 o1 0) → (0 ≤ (s4 o1 1)) ∧ ∀ s9 : sg_M, s9 = sg_up s4 4 1 (s4 o1 1) → (0 ≤ (s9 o1 2)) ∧ ∀ s14 : sg_M, s14 = sg_up s9 4 2 (s9 o1 2) → fX2_copyFrom La s14 20 (o1 + 1) (fun s18 => (∃ n28 : Nat, fX7_copyFrom_A_L37 o1 Q n28 s18 0))
set_option maxHeartbeats 4000000 in
set_option maxRecDepth 100000 in
theorem CX7_copyFrom_A {l : Launch} {G : sg_G} {La : sg_L} {s0 : sg_M} (hst : sg_St La) {o1 : Int} (t1 : sg_O La o1 7) {Q : sg_M → Prop} (hf : fX7_copyFrom_A La s0 o1 Q) : sg_C l G yX7_copyFrom cX7_copyFrom 3 (none) 4 0 0 La s0 [sg_r 4, sg_r o1] (sg_HV La Q) := by
  refine sg_body (by decide +kernel) (Nat.le_of_ble_eq_true rfl) ?_
  intro p e s m args below meth c F hnm
  unfold fX7_copyFrom_A at hf
  show sg_W p l e (sg_rm 4 0 0) s m args below meth c (MQ below (sg_Q (none) G La s.heap.size (sg_HV La Q)) args s 0 0 (sg_A La s.heap.size)) 3 G (sg_A La s.heap.size) La s0 0 0 0 [(0, sg_r 4), (1, sg_r o1)] []
  refine gw_aload_n F 0 rfl rfl (by decide) dX7_copyFrom_0 ?_
  refine gw_aload_n F 1 rfl rfl t1.1 dX7_copyFrom_1 ?_
  refine gw_get4 F t1 (by decide) rfl sg_lay_RX7 (j := 0) (by decide) rfl (host := "") (.inl kw_233) dX7_copyFrom_2 (fun h1 => ?_)
  obtain ⟨g2, hf⟩ := hf
  have t3 := sg_nn h1 g2
  obtain ⟨s4, e5⟩ : ∃ z : sg_M, z = sg_up s0 4 0 (s0 o1 0) := ⟨_, rfl⟩
  have hf := hf s4 e5
  refine gw_put4 F (so_4 hst) (by decide) rfl sg_lay_RX7 (j := 0) (by decide) t3.1 t3 e5 tyX7_ok nmX7 rfl (tyX7_ok 0 (by decide)) rfl (host := "") (.inl kw_233) dX7_copyFrom_5 ?_
  refine gw_aload_n F 0 rfl rfl (by decide) dX7_copyFrom_8 ?_
  refine gw_aload_n F 1 rfl rfl t1.1 dX7_copyFrom_9 ?_
  refine gw_get4 F t1 (by decide) rfl sg_lay_RX7 (j := 1) (by decide) rfl (host := "") (.inl kw_235) dX7_copyFrom_10 (fun h6 => ?_)
  obtain ⟨g7, hf⟩ := hf
  have t8 := sg_nn h6 g7
  obtain ⟨s9, e10⟩ : ∃ z : sg_M, z = sg_up s4 4 1 (s4 o1 1) := ⟨_, rfl⟩
  have hf := hf s9 e10
  refine gw_put4 F (so_4 hst) (by decide) rfl sg_lay_RX7 (j := 1) (by decide) t8.1 t8 e10 tyX7_ok nmX7 rfl (tyX7_ok 1 (by decide)) rfl (host := "") (.inl kw_235) dX7_copyFrom_13 ?_
  refine gw_aload_n F 0 rfl rfl (by decide) dX7_copyFrom_16 ?_
  refine gw_aload_n F 1 rfl rfl t1.1 dX7_copyFrom_17 ?_
  refine gw_get4 F t1 (by decide) rfl sg_lay_RX7 (j := 2) (by decide) rfl (host := "") (.inl kw_237) dX7_copyFrom_18 (fun h11 => ?_)
  obtain ⟨g12, hf⟩ := hf
  have t13 := sg_nn h11 g12
  obtain ⟨s14, e15⟩ : ∃ z : sg_M, z = sg_up s9 4 2 (s9 o1 2) := ⟨_, rfl⟩
  have hf := hf s14 e15
  refine gw_put4 F (so_4 hst) (by decide) rfl sg_lay_RX7 (j := 2) (by decide) t13.1 t13 e15 tyX7_ok nmX7 rfl (tyX7_ok 2 (by decide)) rfl (host := "") (.inl kw_237) dX7_copyFrom_21 ?_
  refine gw_aload_n F 0 rfl rfl (by decide) dX7_copyFrom_24 ?_
  refine gw_get7 F (so_4 hst) (by decide) rfl sg_lay_RX7 (j := 3) (by decide) (o1 := 20) (by first | rfl | omega) rfl (host := "") (.inl kw_239) dX7_copyFrom_25 (fun h16 => ?_)
  refine gw_aload_n F 1 rfl rfl t1.1 dX7_copyFrom_28 ?_
  refine gw_get3 F t1 (by decide) rfl sg_lay_RX7 (j := 3) (by decide) (o1 := (o1 + 1)) (by first | rfl | omega) rfl (host := "") (.inl kw_239) dX7_copyFrom_29 (fun h17 => ?_)
  refine gk_HV F (gc_V F (S := []) (As := [sg_r (o1 + 1)]) (T := TX2) (N := 3) (CX2_copyFrom (so_20 hst) (sg_O_of h17 (by decide)) hf) (so_20 hst) (by decide) rfl kw_865 kw_99 kw_862 kw_863 kw_864 hcX2_copyFrom ⟨by decide, by decide⟩ rfl rfl (Nat.le_of_ble_eq_true rfl) ⟨by decide, by decide⟩ dX7_copyFrom_32) (fun s18 hf => ?_)
  refine gw_iconst F dX7_copyFrom_35 ?_
  refine gw_istore_n F rfl (by decide) rfl dX7_copyFrom_36 ?_
  have L37 : ∀ n_37 : Nat, ∀ (s_37 : sg_M) (x2_37 : Int), sg_R x2_37 → fX7_copyFrom_A_L37 o1 Q n_37 s_37 x2_37 → sg_W p l e (sg_rm 4 0 0) s m args below meth c (MQ below (sg_Q (none) G La s.heap.size (sg_HV La Q)) args s 0 0 (sg_A La s.heap.size)) 3 G (sg_A La s.heap.size) La s_37 0 0 37 [(0, sg_r 4), (1, sg_r o1), (2, sg_i x2_37)] [] := by
    intro n_37
    induction n_37 with
    | zero => intro s_37 x2_37 r2_37 hf; exact hf.elim
    | succ n_37 ih =>
      intro s_37 x2_37 r2_37 hf
      unfold fX7_copyFrom_A_L37 at hf
      refine gw_iload_n F 2 rfl rfl dX7_copyFrom_37 ?_
      refine gw_iconst F dX7_copyFrom_38 ?_
      refine gw_icmp_ge F (tgt := 60) dX7_copyFrom_39 (by decide) r2_37 (by decide) (fun c19 => ?_) (fun c19 => ?_)
      · have hf := hf.1 c19
        exact gr_HV F hf (by decide) (by decide) dX7_copyFrom_60
      · have hf := hf.2 c19
        refine gw_aload_n F 0 rfl rfl (by decide) dX7_copyFrom_42 ?_
        refine gw_get7 F (so_4 hst) (by decide) rfl sg_lay_RX7 (j := 4) (by decide) (o1 := 25) (by first | rfl | omega) rfl (host := "") (.inl kw_241) dX7_copyFrom_43 (fun h20 => ?_)
        refine gw_iload_n F 2 rfl rfl dX7_copyFrom_46 ?_
        refine gw_aload_n F 1 rfl rfl t1.1 dX7_copyFrom_47 ?_
        refine gw_get3 F t1 (by decide) rfl sg_lay_RX7 (j := 4) (by decide) (o1 := (o1 + 6)) (by first | rfl | omega) rfl (host := "") (.inl kw_241) dX7_copyFrom_48 (fun h21 => ?_)
        refine gw_iload_n F 2 rfl rfl dX7_copyFrom_51 ?_
        obtain ⟨⟨b220, b221⟩, hf⟩ := hf
        refine gw_aaldB F (n := 4) (sg_O_of h21 (by decide)) (by decide) (by decide) (by decide) b220 b221 dX7_copyFrom_52 (fun h23 => ?_)
        obtain ⟨⟨b240, b241⟩, hf⟩ := hf
        obtain ⟨s25, e26⟩ : ∃ z : sg_M, z = sg_up s_37 25 x2_37 (s_37 (o1 + 6) x2_37) := ⟨_, rfl⟩
        have hf := hf s25 e26
        refine gw_aastBN F (n := 4) (so_25 hst) (by decide) (by decide) (by decide) b240 b241 h23 e26 dX7_copyFrom_53 ?_
        refine gw_iinc F (z := (x2_37 + 1)) 2 rfl (by omega) (by decide) rfl dX7_copyFrom_54 ?_
        refine gw_goto F (tgt := 37) dX7_copyFrom_57 (by decide) ?_
        obtain ⟨g27, hf⟩ := hf
        refine gw_sub [1, 2, 0] rfl ?_
        exact ih s25 (x2_37 + 1) g27 hf
  obtain ⟨n28, hf⟩ := hf
  refine gw_sub [1, 2, 0] rfl ?_
  refine L37   n28 s18 0 (by decide) hf
