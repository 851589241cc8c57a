theorem dX1_copyFrom_0 : decode cX1_copyFrom 0 = .ok (.aload_n 0, 1) := by decide +kernel
theorem dX1_copyFrom_1 : decode cX1_copyFrom 1 = .ok (.iconst 0, 1) := by decide +kernel
theorem dX1_copyFrom_2 : decode cX1_copyFrom 2 = .ok (.putfield 24, 3) := by decide +kernel
theorem dX1_copyFrom_5 : decode cX1_copyFrom 5 = .ok (.iconst 0, 1) := by decide +kernel
theorem dX1_copyFrom_6 : decode cX1_copyFrom 6 = .ok (.istore_n 2, 1) := by decide +kernel
theorem dX1_copyFrom_7 : decode cX1_copyFrom 7 = .ok (.iload_n 2, 1) := by decide +kernel
theorem dX1_copyFrom_8 : decode cX1_copyFrom 8 = .ok (.aload_n 1, 1) := by decide +kernel
theorem dX1_copyFrom_9 : decode cX1_copyFrom 9 = .ok (.getfield 24, 3) := by decide +kernel
theorem dX1_copyFrom_12 : decode cX1_copyFrom 12 = .ok (.if_icmp .ge 44, 3) := by decide +kernel
theorem dX1_copyFrom_15 : decode cX1_copyFrom 15 = .ok (.iload_n 2, 1) := by decide +kernel
theorem dX1_copyFrom_16 : decode cX1_copyFrom 16 = .ok (.bipush 60, 2) := by decide +kernel
theorem dX1_copyFrom_18 : decode cX1_copyFrom 18 = .ok (.if_icmp .ge 38, 3) := by decide +kernel
theorem dX1_copyFrom_21 : decode cX1_copyFrom 21 = .ok (.aload_n 0, 1) := by decide +kernel
theorem dX1_copyFrom_22 : decode cX1_copyFrom 22 = .ok (.iconst 1, 1) := by decide +kernel
theorem dX1_copyFrom_23 : decode cX1_copyFrom 23 = .ok (.aload_n 1, 1) := by decide +kernel
theorem dX1_copyFrom_24 : decode cX1_copyFrom 24 = .ok (.getfield 9, 3) := by decide +kernel
theorem dX1_copyFrom_27 : decode cX1_copyFrom 27 = .ok (.iload_n 2, 1) := by decide +kernel
theorem dX1_copyFrom_28 : decode cX1_copyFrom 28 = .ok (.iaload, 1) := by decide +kernel
theorem dX1_copyFrom_29 : decode cX1_copyFrom 29 = .ok (.aload_n 1, 1) := by decide +kernel
theorem dX1_copyFrom_30 : decode cX1_copyFrom 30 = .ok (.getfield 15, 3) := by decide +kernel
theorem dX1_copyFrom_33 : decode cX1_copyFrom 33 = .ok (.iload_n 2, 1) := by decide +kernel
theorem dX1_copyFrom_34 : decode cX1_copyFrom 34 = .ok (.iaload, 1) := by decide +kernel
theorem dX1_copyFrom_35 : decode cX1_copyFrom 35 = .ok (.aload_n 1, 1) := by decide +kernel
theorem dX1_copyFrom_36 : decode cX1_copyFrom 36 = .ok (.getfield 18, 3) := by decide +kernel
theorem dX1_copyFrom_39 : decode cX1_copyFrom 39 = .ok (.iload_n 2, 1) := by decide +kernel
theorem dX1_copyFrom_40 : decode cX1_copyFrom 40 = .ok (.iaload, 1) := by decide +kernel
theorem dX1_copyFrom_41 : decode cX1_copyFrom 41 = .ok (.aload_n 1, 1) := by decide +kernel
theorem dX1_copyFrom_42 : decode cX1_copyFrom 42 = .ok (.getfield 21, 3) := by decide +kernel
theorem dX1_copyFrom_45 : decode cX1_copyFrom 45 = .ok (.iload_n 2, 1) := by decide +kernel
theorem dX1_copyFrom_46 : decode cX1_copyFrom 46 = .ok (.iaload, 1) := by decide +kernel
theorem dX1_copyFrom_47 : decode cX1_copyFrom 47 = .ok (.invokevirtual 34, 3) := by decide +kernel
theorem dX1_copyFrom_50 : decode cX1_copyFrom 50 = .ok (.iinc 2 1, 3) := by decide +kernel
theorem dX1_copyFrom_53 : decode cX1_copyFrom 53 = .ok (.goto (-46), 3) := by decide +kernel
theorem dX1_copyFrom_56 : decode cX1_copyFrom 56 = .ok (.aload_n 0, 1) := by decide +kernel
theorem dX1_copyFrom_57 : decode cX1_copyFrom 57 = .ok (.aload_n 1, 1) := by decide +kernel
theorem dX1_copyFrom_58 : decode cX1_copyFrom 58 = .ok (.getfield 28, 3) := by decide +kernel
theorem dX1_copyFrom_61 : decode cX1_copyFrom 61 = .ok (.putfield 28, 3) := by decide +kernel
theorem dX1_copyFrom_64 : decode cX1_copyFrom 64 = .ok (.aload_n 0, 1) := by decide +kernel
theorem dX1_copyFrom_65 : decode cX1_copyFrom 65 = .ok (.aload_n 1, 1) := by decide +kernel
theorem dX1_copyFrom_66 : decode cX1_copyFrom 66 = .ok (.getfield 31, 3) := by decide +kernel
theorem dX1_copyFrom_69 : decode cX1_copyFrom 69 = .ok (.putfield 31, 3) := by decide +kernel
theorem dX1_copyFrom_72 : decode cX1_copyFrom 72 = .ok (.return_, 1) := by decide +kernel
theorem hcX1_copyFrom : yX1_copyFrom.cls ≠ "java/lang/invoke/MethodHandle" ∧ yX1_copyFrom.cls ≠ "java/lang/invoke/VarHandle" ∧ (parseMethodDescriptor yX1_copyFrom.desc).map (fun d => d.parameters.length) = some 1 := ⟨by decide +kernel, by decide +kernel, by decide +kernel⟩
def fX1_copyFrom_L7 (o : Int) (o1 : Int) (Q : sg_M → Prop) : Nat → sg_M → Int → Prop
  | 0, _, _ => False
  | n_7 + 1, s_7, x2_7 => (((s_7 o1 4) ≤ x2_7 → ∀ s6 : sg_M, s6 = sg_up s_7 o 5 (s_7 o1 5) → ∀ s9 : sg_M, s9 = sg_up s6 o 6 (s6 o1 6) → Q s9) ∧ (¬ ((s_7 o1 4) ≤ x2_7) → ((60 ≤ x2_7 → ∀ s13 : sg_M, s13 = sg_up s_7 o 5 (s_7 o1 5) → ∀ s16 : sg_M, s16 = sg_up s13 o 6 (s13 o1 6) → Q s16) ∧ (¬ (60 ≤ x2_7) → (0 ≤ x2_7 ∧ x2_7 < 60) ∧ (0 ≤ x2_7 ∧ x2_7 < 60) ∧ (0 ≤ x2_7 ∧ x2_7 < 60) ∧ (0 ≤ x2_7 ∧ x2_7 < 60) ∧ fX1_addAlike s_7 o 1 (s_7 (o1 + 1) x2_7) (s_7 (o1 + 2) x2_7) (s_7 (o1 + 3) x2_7) (s_7 (o1 + 4) x2_7) (fun s30 => sg_R (x2_7 + 1) ∧ (fX1_copyFrom_L7 o o1 Q n_7) s30 (x2_7 + 1))))))
def fX1_copyFrom (s0 : sg_M) (o : Int) (o1 : Int) (Q : sg_M → Prop) : Prop := ∀ s1 : sg_M, s1 = sg_up s0 o 4 0 → (∃ n32 : Nat, fX1_copyFrom_L7 o o1 Q n32 s1 0)
set_option maxHeartbeats 4000000 in
set_option maxRecDepth 100000 in
theorem CX1_copyFrom {l : Launch} {G : sg_G} {La : sg_L} {s0 : sg_M} {o : Int} (to : sg_O La o 1) {o1 : Int} (t1 : sg_O La o1 1) {Q : sg_M → Prop} (hf : fX1_copyFrom s0 o o1 Q) : sg_C l G yX1_copyFrom cX1_copyFrom 3 (none) 2 0 0 La s0 [sg_r o, sg_r o1] (sg_HV La Q) := by
  refine sg_body (by decide +kernel) (Nat.le_of_ble_eq_true rfl) ?_
  intro p e s m args below meth c F hnm
  unfold fX1_copyFrom at hf
  show sg_W p l e (sg_rm 2 0 0) s m args below meth c (MQ below (sg_Q (none) G La s.heap.size (sg_HV La Q)) args s 0 0 (sg_A La s.heap.size)) 3 G (sg_A La s.heap.size) La s0 0 0 0 [(0, sg_r o), (1, sg_r o1)] []
  refine gw_aload_n F 0 rfl rfl to.1 dX1_copyFrom_0 ?_
  refine gw_iconst F dX1_copyFrom_1 ?_
  obtain ⟨s1, e2⟩ : ∃ z : sg_M, z = sg_up s0 o 4 0 := ⟨_, rfl⟩
  have hf := hf s1 e2
  refine gw_put0 F to (by decide) rfl sg_lay_RX1 (j := 4) (by decide) (by decide) e2 tyX1_ok nmX1 rfl (tyX1_ok 4 (by decide)) rfl (host := "") (.inl kw_163) dX1_copyFrom_2 ?_
  refine gw_iconst F dX1_copyFrom_5 ?_
  refine gw_istore_n F rfl (by decide) rfl dX1_copyFrom_6 ?_
  have L7 : ∀ n_7 : Nat, ∀ (s_7 : sg_M) (x2_7 : Int), sg_R x2_7 → fX1_copyFrom_L7 o o1 Q n_7 s_7 x2_7 → sg_W p l e (sg_rm 2 0 0) s m args below meth c (MQ below (sg_Q (none) G La s.heap.size (sg_HV La Q)) args s 0 0 (sg_A La s.heap.size)) 3 G (sg_A La s.heap.size) La s_7 0 0 7 [(0, sg_r o), (1, sg_r o1), (2, sg_i x2_7)] [] := by
    intro n_7
    induction n_7 with
    | zero => intro s_7 x2_7 r2_7 hf; exact hf.elim
    | succ n_7 ih =>
      intro s_7 x2_7 r2_7 hf
      unfold fX1_copyFrom_L7 at hf
      refine gw_iload_n F 2 rfl rfl dX1_copyFrom_7 ?_
      refine gw_aload_n F 1 rfl rfl t1.1 dX1_copyFrom_8 ?_
      refine gw_get0 F t1 (by decide) rfl sg_lay_RX1 (j := 4) (by decide) rfl (host := "") (.inl kw_163) dX1_copyFrom_9 (fun h3 => ?_)
      refine gw_icmp_ge F (tgt := 56) dX1_copyFrom_12 (by decide) r2_7 h3 (fun c4 => ?_) (fun c4 => ?_)
      · have hf := hf.1 c4
        refine gw_aload_n F 0 rfl rfl to.1 dX1_copyFrom_56 ?_
        refine gw_aload_n F 1 rfl rfl t1.1 dX1_copyFrom_57 ?_
        refine gw_get0 F t1 (by decide) rfl sg_lay_RX1 (j := 5) (by decide) rfl (host := "") (.inl kw_166) dX1_copyFrom_58 (fun h5 => ?_)
        obtain ⟨s6, e7⟩ : ∃ z : sg_M, z = sg_up s_7 o 5 (s_7 o1 5) := ⟨_, rfl⟩
        have hf := hf s6 e7
        refine gw_put0 F to (by decide) rfl sg_lay_RX1 (j := 5) (by decide) h5 e7 tyX1_ok nmX1 rfl (tyX1_ok 5 (by decide)) rfl (host := "") (.inl kw_166) dX1_copyFrom_61 ?_
        refine gw_aload_n F 0 rfl rfl to.1 dX1_copyFrom_64 ?_
        refine gw_aload_n F 1 rfl rfl t1.1 dX1_copyFrom_65 ?_
        refine gw_get0 F t1 (by decide) rfl sg_lay_RX1 (j := 6) (by decide) rfl (host := "") (.inl kw_169) dX1_copyFrom_66 (fun h8 => ?_)
        obtain ⟨s9, e10⟩ : ∃ z : sg_M, z = sg_up s6 o 6 (s6 o1 6) := ⟨_, rfl⟩
        have hf := hf s9 e10
        refine gw_put0 F to (by decide) rfl sg_lay_RX1 (j := 6) (by decide) h8 e10 tyX1_ok nmX1 rfl (tyX1_ok 6 (by decide)) rfl (host := "") (.inl kw_169) dX1_copyFrom_69 ?_
        exact gr_HV F hf (by decide) (by decide) dX1_copyFrom_72
      · have hf := hf.2 c4
        refine gw_iload_n F 2 rfl rfl dX1_copyFrom_15 ?_
        refine gw_bipush F rfl dX1_copyFrom_16 ?_
        refine gw_icmp_ge F (tgt := 56) dX1_copyFrom_18 (by decide) r2_7 (by decide) (fun c11 => ?_) (fun c11 => ?_)
        · have hf := hf.1 c11
          refine gw_aload_n F 0 rfl rfl to.1 dX1_copyFrom_56 ?_
          refine gw_aload_n F 1 rfl rfl t1.1 dX1_copyFrom_57 ?_
          refine gw_get0 F t1 (by decide) rfl sg_lay_RX1 (j := 5) (by decide) rfl (host := "") (.inl kw_166) dX1_copyFrom_58 (fun h12 => ?_)
          obtain ⟨s13, e14⟩ : ∃ z : sg_M, z = sg_up s_7 o 5 (s_7 o1 5) := ⟨_, rfl⟩
          have hf := hf s13 e14
          refine gw_put0 F to (by decide) rfl sg_lay_RX1 (j := 5) (by decide) h12 e14 tyX1_ok nmX1 rfl (tyX1_ok 5 (by decide)) rfl (host := "") (.inl kw_166) dX1_copyFrom_61 ?_
          refine gw_aload_n F 0 rfl rfl to.1 dX1_copyFrom_64 ?_
          refine gw_aload_n F 1 rfl rfl t1.1 dX1_copyFrom_65 ?_
          refine gw_get0 F t1 (by decide) rfl sg_lay_RX1 (j := 6) (by decide) rfl (host := "") (.inl kw_169) dX1_copyFrom_66 (fun h15 => ?_)
          obtain ⟨s16, e17⟩ : ∃ z : sg_M, z = sg_up s13 o 6 (s13 o1 6) := ⟨_, rfl⟩
          have hf := hf s16 e17
          refine gw_put0 F to (by decide) rfl sg_lay_RX1 (j := 6) (by decide) h15 e17 tyX1_ok nmX1 rfl (tyX1_ok 6 (by decide)) rfl (host := "") (.inl kw_169) dX1_copyFrom_69 ?_
          exact gr_HV F hf (by decide) (by decide) dX1_copyFrom_72
        · have hf := hf.2 c11
          refine gw_aload_n F 0 rfl rfl to.1 dX1_copyFrom_21 ?_
          refine gw_iconst F dX1_copyFrom_22 ?_
          refine gw_aload_n F 1 rfl rfl t1.1 dX1_copyFrom_23 ?_
          refine gw_get3 F t1 (by decide) rfl sg_lay_RX1 (j := 0) (by decide) (o1 := (o1 + 1)) (by first | rfl | omega) rfl (host := "") (.inl kw_158) dX1_copyFrom_24 (fun h18 => ?_)
          refine gw_iload_n F 2 rfl rfl dX1_copyFrom_27 ?_
          obtain ⟨⟨b190, b191⟩, hf⟩ := hf
          refine gw_iald F (sg_AN_of (sg_O_of h18 (by decide)) (by decide) (by decide) (by decide)) b190 b191 dX1_copyFrom_28 (fun h20 => ?_)
          refine gw_aload_n F 1 rfl rfl t1.1 dX1_copyFrom_29 ?_
          refine gw_get3 F t1 (by decide) rfl sg_lay_RX1 (j := 1) (by decide) (o1 := (o1 + 2)) (by first | rfl | omega) rfl (host := "") (.inl kw_159) dX1_copyFrom_30 (fun h21 => ?_)
          refine gw_iload_n F 2 rfl rfl dX1_copyFrom_33 ?_
          obtain ⟨⟨b220, b221⟩, hf⟩ := hf
          refine gw_iald F (sg_AN_of (sg_O_of h21 (by decide)) (by decide) (by decide) (by decide)) b220 b221 dX1_copyFrom_34 (fun h23 => ?_)
          refine gw_aload_n F 1 rfl rfl t1.1 dX1_copyFrom_35 ?_
          refine gw_get3 F t1 (by decide) rfl sg_lay_RX1 (j := 2) (by decide) (o1 := (o1 + 3)) (by first | rfl | omega) rfl (host := "") (.inl kw_161) dX1_copyFrom_36 (fun h24 => ?_)
          refine gw_iload_n F 2 rfl rfl dX1_copyFrom_39 ?_
          obtain ⟨⟨b250, b251⟩, hf⟩ := hf
          refine gw_iald F (sg_AN_of (sg_O_of h24 (by decide)) (by decide) (by decide) (by decide)) b250 b251 dX1_copyFrom_40 (fun h26 => ?_)
          refine gw_aload_n F 1 rfl rfl t1.1 dX1_copyFrom_41 ?_
          refine gw_get3 F t1 (by decide) rfl sg_lay_RX1 (j := 3) (by decide) (o1 := (o1 + 4)) (by first | rfl | omega) rfl (host := "") (.inl kw_162) dX1_copyFrom_42 (fun h27 => ?_)
          refine gw_iload_n F 2 rfl rfl dX1_copyFrom_45 ?_
          obtain ⟨⟨b280, b281⟩, hf⟩ := hf
          refine gw_iald F (sg_AN_of (sg_O_of h27 (by decide)) (by decide) (by decide) (by decide)) b280 b281 dX1_copyFrom_46 (fun h29 => ?_)
          refine gk_HV F (gc_V F (S := []) (As := [sg_i 1, sg_i (s_7 (o1 + 1) x2_7), sg_i (s_7 (o1 + 2) x2_7), sg_i (s_7 (o1 + 3) x2_7), sg_i (s_7 (o1 + 4) x2_7)]) (T := TX1) (N := 7) (CX1_addAlike to (by decide) h20 h23 h26 h29 hf) to (by decide) rfl kw_321 kw_94 kw_472 kw_319 kw_320 hcX1_addAlike ⟨by decide, by decide⟩ rfl rfl (Nat.le_of_ble_eq_true rfl) ⟨by decide, by decide⟩ dX1_copyFrom_47) (fun s30 hf => ?_)
          refine gw_iinc F (z := (x2_7 + 1)) 2 rfl (by omega) (by decide) rfl dX1_copyFrom_50 ?_
          refine gw_goto F (tgt := 7) dX1_copyFrom_53 (by decide) ?_
          obtain ⟨g31, hf⟩ := hf
          refine gw_sub [1, 2, 0] rfl ?_
          exact ih s30 (x2_7 + 1) g31 hf
  obtain ⟨n32, hf⟩ := hf
  refine gw_sub [1, 2, 0] rfl ?_
  refine L7   n32 s1 0 (by decide) hf

theorem dX11_forgetAnswers_0 : decode cX11_forgetAnswers 0 = .ok (.aload_n 0, 1) := by decide +kernel
theorem dX11_forgetAnswers_1 : decode cX11_forgetAnswers 1 = .ok (.getfield 93, 3) := by decide +kernel
theorem dX11_forgetAnswers_4 : decode cX11_forgetAnswers 4 = .ok (.iconst 0, 1) := by decide +kernel
theorem dX11_forgetAnswers_5 : decode cX11_forgetAnswers 5 = .ok (.putfield 346, 3) := by decide +kernel
theorem dX11_forgetAnswers_8 : decode cX11_forgetAnswers 8 = .ok (.aload_n 0, 1) := by decide +kernel
theorem dX11_forgetAnswers_9 : decode cX11_forgetAnswers 9 = .ok (.getfield 99, 3) := by decide +kernel
theorem dX11_forgetAnswers_12 : decode cX11_forgetAnswers 12 = .ok (.iconst 0, 1) := by decide +kernel
theorem dX11_forgetAnswers_13 : decode cX11_forgetAnswers 13 = .ok (.putfield 346, 3) := by decide +kernel
theorem dX11_forgetAnswers_16 : decode cX11_forgetAnswers 16 = .ok (.return_, 1) := by decide +kernel
theorem hcX11_forgetAnswers : yX11_forgetAnswers.cls ≠ "java/lang/invoke/MethodHandle" ∧ yX11_forgetAnswers.cls ≠ "java/lang/invoke/VarHandle" ∧ (parseMethodDescriptor yX11_forgetAnswers.desc).map (fun d => d.parameters.length) = some 0 := ⟨by decide +kernel, by decide +kernel, by decide +kernel⟩
def fX11_forgetAnswers (s0 : sg_M) (Q : sg_M → Prop) : Prop := ∀ s2 : sg_M, s2 = sg_up s0 58 2 0 → ∀ s5 : sg_M, s5 = sg_up s2 62 2 0 → Q s5
set_option maxHeartbeats 4000000 in
set_option maxRecDepth 100000 in
theorem CX11_forgetAnswers {l : Launch} {G : sg_G} {La : sg_L} {s0 : sg_M} (hst : sg_St La) {Q : sg_M → Prop} (hf : fX11_forgetAnswers s0 Q) : sg_C l G yX11_forgetAnswers cX11_forgetAnswers 1 (none) 1 0 0 La s0 [sg_r 0] (sg_HV La Q) := by
  refine sg_body (by decide +kernel) (Nat.le_of_ble_eq_true rfl) ?_
  intro p e s m args below meth c F hnm
  unfold fX11_forgetAnswers at hf
  show sg_W p l e (sg_rm 1 0 0) s m args below meth c (MQ below (sg_Q (none) G La s.heap.size (sg_HV La Q)) args s 0 0 (sg_A La s.heap.size)) 1 G (sg_A La s.heap.size) La s0 0 0 0 [(0, sg_r 0)] []
  refine gw_aload_n F 0 rfl rfl (by decide) dX11_forgetAnswers_0 ?_
  refine gw_get7 F (so_0 hst) (by decide) rfl sg_lay_RX11 (j := 13) (by decide) (o1 := 58) (by first | rfl | omega) rfl (host := "") (.inl kw_339) dX11_forgetAnswers_1 (fun h1 => ?_)
  refine gw_iconst F dX11_forgetAnswers_4 ?_
  obtain ⟨s2, e3⟩ : ∃ z : sg_M, z = sg_up s0 58 2 0 := ⟨_, rfl⟩
  have hf := hf s2 e3
  refine gw_put1 F (so_58 hst) (by decide) rfl sg_lay_RX4 (j := 2) (by decide) (by decide) e3 tyX4_ok nmX4 rfl (tyX4_ok 2 (by decide)) rfl (.inr kw_206) dX11_forgetAnswers_5 ?_
  refine gw_aload_n F 0 rfl rfl (by decide) dX11_forgetAnswers_8 ?_
  refine gw_get7 F (so_0 hst) (by decide) rfl sg_lay_RX11 (j := 15) (by decide) (o1 := 62) (by first | rfl | omega) rfl (host := "") (.inl kw_341) dX11_forgetAnswers_9 (fun h4 => ?_)
  refine gw_iconst F dX11_forgetAnswers_12 ?_
  obtain ⟨s5, e6⟩ : ∃ z : sg_M, z = sg_up s2 62 2 0 := ⟨_, rfl⟩
  have hf := hf s5 e6
  refine gw_put1 F (so_62 hst) (by decide) rfl sg_lay_RX4 (j := 2) (by decide) (by decide) e6 tyX4_ok nmX4 rfl (tyX4_ok 2 (by decide)) rfl (.inr kw_206) dX11_forgetAnswers_13 ?_
  exact gr_HV F hf (by decide) (by decide) dX11_forgetAnswers_16

theorem dX11_take_0 : decode cX11_take 0 = .ok (.iload_n 1, 1) := by decide +kernel
theorem dX11_take_1 : decode cX11_take 1 = .ok (.ifCond .lt 20, 3) := by decide +kernel
theorem dX11_take_4 : decode cX11_take 4 = .ok (.iload_n 1, 1) := by decide +kernel
theorem dX11_take_5 : decode cX11_take 5 = .ok (.iconst 4, 1) := by decide +kernel
theorem dX11_take_6 : decode cX11_take 6 = .ok (.if_icmp .ge 15, 3) := by decide +kernel
theorem dX11_take_9 : decode cX11_take 9 = .ok (.aload_n 0, 1) := by decide +kernel
theorem dX11_take_10 : decode cX11_take 10 = .ok (.getfield 39, 3) := by decide +kernel
theorem dX11_take_13 : decode cX11_take 13 = .ok (.getfield 300, 3) := by decide +kernel
theorem dX11_take_16 : decode cX11_take 16 = .ok (.iload_n 1, 1) := by decide +kernel
theorem dX11_take_17 : decode cX11_take 17 = .ok (.aaload, 1) := by decide +kernel
theorem dX11_take_18 : decode cX11_take 18 = .ok (.ifnonnull 5, 3) := by decide +kernel
theorem dX11_take_21 : decode cX11_take 21 = .ok (.iconst 0, 1) := by decide +kernel
theorem dX11_take_22 : decode cX11_take 22 = .ok (.ireturn, 1) := by decide +kernel
theorem dX11_take_23 : decode cX11_take 23 = .ok (.aload_n 0, 1) := by decide +kernel
theorem dX11_take_24 : decode cX11_take 24 = .ok (.getfield 39, 3) := by decide +kernel
theorem dX11_take_27 : decode cX11_take 27 = .ok (.aload_n 0, 1) := by decide +kernel
theorem dX11_take_28 : decode cX11_take 28 = .ok (.getfield 39, 3) := by decide +kernel
theorem dX11_take_31 : decode cX11_take 31 = .ok (.getfield 300, 3) := by decide +kernel
theorem dX11_take_34 : decode cX11_take 34 = .ok (.iload_n 1, 1) := by decide +kernel
theorem dX11_take_35 : decode cX11_take 35 = .ok (.aaload, 1) := by decide +kernel
theorem dX11_take_36 : decode cX11_take 36 = .ok (.putfield 112, 3) := by decide +kernel
theorem dX11_take_39 : decode cX11_take 39 = .ok (.aload_n 0, 1) := by decide +kernel
theorem dX11_take_40 : decode cX11_take 40 = .ok (.invokevirtual 248, 3) := by decide +kernel
theorem dX11_take_43 : decode cX11_take 43 = .ok (.iconst 1, 1) := by decide +kernel
theorem dX11_take_44 : decode cX11_take 44 = .ok (.ireturn, 1) := by decide +kernel
theorem hcX11_take : yX11_take.cls ≠ "java/lang/invoke/MethodHandle" ∧ yX11_take.cls ≠ "java/lang/invoke/VarHandle" ∧ (parseMethodDescriptor yX11_take.desc).map (fun d => d.parameters.length) = some 1 := ⟨by decide +kernel, by decide +kernel, by decide +kernel⟩
def fX11_take (s0 : sg_M) (x1 : Int) (Q : Int → sg_M → Prop) : Prop := ((x1 < 0 → Q 0 s0) ∧ (¬ (x1 < 0) → ((4 ≤ x1 → Q 0 s0) ∧ (¬ (4 ≤ x1) → (0 ≤ x1 ∧ x1 < 4) ∧ ((0 ≤ (s0 25 x1) → (0 ≤ x1 ∧ x1 < 4) ∧ (0 ≤ (s0 25 x1)) ∧ ∀ s16 : sg_M, s16 = sg_up s0 4 0 (s0 25 x1) → fX11_forgetAnswers s16 (fun s18 => Q 1 s18)) ∧ ((s0 25 x1) < 0 → Q 0 s0))))))
set_option maxHeartbeats 4000000 in
set_option maxRecDepth 100000 in
theorem CX11_take {l : Launch} {G : sg_G} {La : sg_L} {s0 : sg_M} (hst : sg_St La) {x1 : Int} (r1 : sg_R x1) {Q : Int → sg_M → Prop} (hf : fX11_take s0 x1 Q) : sg_C l G yX11_take cX11_take 2 (some .boolean) 2 0 0 La s0 [sg_r 0, sg_i x1] (sg_HZ La Q) := by
  refine sg_body (by decide +kernel) (Nat.le_of_ble_eq_true rfl) ?_
  intro p e s m args below meth c F hnm
  unfold fX11_take at hf
  show sg_W p l e (sg_rm 2 0 0) s m args below meth c (MQ below (sg_Q (some .boolean) G La s.heap.size (sg_HZ La Q)) args s 0 0 (sg_A La s.heap.size)) 2 G (sg_A La s.heap.size) La s0 0 0 0 [(0, sg_r 0), (1, sg_i x1)] []
  refine gw_iload_n F 1 rfl rfl dX11_take_0 ?_
  refine gw_if_lt F (tgt := 21) dX11_take_1 (by decide) r1 (fun c1 => ?_) (fun c1 => ?_)
  · have hf := hf.1 c1
    refine gw_iconst F dX11_take_21 ?_
    exact gr_HZ F (by decide) hf (by decide) (by decide) dX11_take_22
  · have hf := hf.2 c1
    refine gw_iload_n F 1 rfl rfl dX11_take_4 ?_
    refine gw_iconst F dX11_take_5 ?_
    refine gw_icmp_ge F (tgt := 21) dX11_take_6 (by decide) r1 (by decide) (fun c2 => ?_) (fun c2 => ?_)
    · have hf := hf.1 c2
      refine gw_iconst F dX11_take_21 ?_
      exact gr_HZ F (by decide) hf (by decide) (by decide) dX11_take_22
    · have hf := hf.2 c2
      refine gw_aload_n F 0 rfl rfl (by decide) dX11_take_9 ?_
      refine gw_get7 F (so_0 hst) (by decide) rfl sg_lay_RX11 (j := 2) (by decide) (o1 := 4) (by first | rfl | omega) rfl (host := "") (.inl kw_328) dX11_take_10 (fun h3 => ?_)
      refine gw_get7 F (so_4 hst) (by decide) rfl sg_lay_RX7 (j := 4) (by decide) (o1 := 25) (by first | rfl | omega) rfl (.inr kw_242) dX11_take_13 (fun h4 => ?_)
      refine gw_iload_n F 1 rfl rfl dX11_take_16 ?_
      obtain ⟨⟨b50, b51⟩, hf⟩ := hf
      refine gw_aaldB F (n := 4) (so_25 hst) (by decide) (by decide) (by decide) b50 b51 dX11_take_17 (fun h6 => ?_)
      refine gw_ifnonnull F (tgt := 23) dX11_take_18 (by decide) (fun c7 => ?_) (fun c7 => ?_)
      · have hf := hf.1 c7
        have t8 := sg_nn h6 c7
        refine gw_aload_n F 0 rfl rfl (by decide) dX11_take_23 ?_
        refine gw_get7 F (so_0 hst) (by decide) rfl sg_lay_RX11 (j := 2) (by decide) (o1 := 4) (by first | rfl | omega) rfl (host := "") (.inl kw_328) dX11_take_24 (fun h9 => ?_)
        refine gw_aload_n F 0 rfl rfl (by decide) dX11_take_27 ?_
        refine gw_get7 F (so_0 hst) (by decide) rfl sg_lay_RX11 (j := 2) (by decide) (o1 := 4) (by first | rfl | omega) rfl (host := "") (.inl kw_328) dX11_take_28 (fun h10 => ?_)
        refine gw_get7 F (so_4 hst) (by decide) rfl sg_lay_RX7 (j := 4) (by decide) (o1 := 25) (by first | rfl | omega) rfl (.inr kw_242) dX11_take_31 (fun h11 => ?_)
        refine gw_iload_n F 1 rfl rfl dX11_take_34 ?_
        obtain ⟨⟨b120, b121⟩, hf⟩ := hf
        refine gw_aaldB F (n := 4) (so_25 hst) (by decide) (by decide) (by decide) b120 b121 dX11_take_35 (fun h13 => ?_)
        obtain ⟨g14, hf⟩ := hf
        have t15 := sg_nn h13 g14
        obtain ⟨s16, e17⟩ : ∃ z : sg_M, z = sg_up s0 4 0 (s0 25 x1) := ⟨_, rfl⟩
        have hf := hf s16 e17
        refine gw_put4 F (so_4 hst) (by decide) rfl sg_lay_RX7 (j := 0) (by decide) t15.1 t15 e17 tyX7_ok nmX7 rfl (tyX7_ok 0 (by decide)) rfl (.inr kw_234) dX11_take_36 ?_
        refine gw_aload_n F 0 rfl rfl (by decide) dX11_take_39 ?_
        refine gk_HV F (gc_V F (S := []) (As := []) (T := TX11) (N := 19) (CX11_forgetAnswers hst hf) (so_0 hst) (by decide) rfl kw_490 kw_90 kw_488 kw_489 kw_3 hcX11_forgetAnswers ⟨by decide, by decide⟩ rfl rfl (Nat.le_of_ble_eq_true rfl) ⟨by decide, by decide⟩ dX11_take_40) (fun s18 hf => ?_)
        refine gw_iconst F dX11_take_43 ?_
        exact gr_HZ F (by decide) hf (by decide) (by decide) dX11_take_44
      · have hf := hf.2 c7
        refine gw_iconst F dX11_take_21 ?_
        exact gr_HZ F (by decide) hf (by decide) (by decide) dX11_take_22

theorem dX1_thicken_0 : decode cX1_thicken 0 = .ok (.aload_n 0, 1) := by decide +kernel
theorem dX1_thicken_1 : decode cX1_thicken 1 = .ok (.getfield 24, 3) := by decide +kernel
theorem dX1_thicken_4 : decode cX1_thicken 4 = .ok (.iconst 1, 1) := by decide +kernel
theorem dX1_thicken_5 : decode cX1_thicken 5 = .ok (.isub, 1) := by decide +kernel
theorem dX1_thicken_6 : decode cX1_thicken 6 = .ok (.istore_n 3, 1) := by decide +kernel
theorem dX1_thicken_7 : decode cX1_thicken 7 = .ok (.iload_n 3, 1) := by decide +kernel
theorem dX1_thicken_8 : decode cX1_thicken 8 = .ok (.iconst 1, 1) := by decide +kernel
theorem dX1_thicken_9 : decode cX1_thicken 9 = .ok (.if_icmp .ge 4, 3) := by decide +kernel
theorem dX1_thicken_12 : decode cX1_thicken 12 = .ok (.return_, 1) := by decide +kernel
theorem dX1_thicken_13 : decode cX1_thicken 13 = .ok (.iconst 0, 1) := by decide +kernel
theorem dX1_thicken_14 : decode cX1_thicken 14 = .ok (.istore 4, 2) := by decide +kernel
theorem dX1_thicken_16 : decode cX1_thicken 16 = .ok (.iload 4, 2) := by decide +kernel
theorem dX1_thicken_18 : decode cX1_thicken 18 = .ok (.aload_n 0, 1) := by decide +kernel
theorem dX1_thicken_19 : decode cX1_thicken 19 = .ok (.getfield 24, 3) := by decide +kernel
theorem dX1_thicken_22 : decode cX1_thicken 22 = .ok (.if_icmp .ge 33, 3) := by decide +kernel
theorem dX1_thicken_25 : decode cX1_thicken 25 = .ok (.iload 4, 2) := by decide +kernel
theorem dX1_thicken_27 : decode cX1_thicken 27 = .ok (.bipush 60, 2) := by decide +kernel
theorem dX1_thicken_29 : decode cX1_thicken 29 = .ok (.if_icmp .ge 26, 3) := by decide +kernel
theorem dX1_thicken_32 : decode cX1_thicken 32 = .ok (.aload_n 0, 1) := by decide +kernel
theorem dX1_thicken_33 : decode cX1_thicken 33 = .ok (.getfield 15, 3) := by decide +kernel
theorem dX1_thicken_36 : decode cX1_thicken 36 = .ok (.iload 4, 2) := by decide +kernel
theorem dX1_thicken_38 : decode cX1_thicken 38 = .ok (.iload_n 1, 1) := by decide +kernel
theorem dX1_thicken_39 : decode cX1_thicken 39 = .ok (.iload_n 2, 1) := by decide +kernel
theorem dX1_thicken_40 : decode cX1_thicken 40 = .ok (.iload_n 1, 1) := by decide +kernel
theorem dX1_thicken_41 : decode cX1_thicken 41 = .ok (.isub, 1) := by decide +kernel
theorem dX1_thicken_42 : decode cX1_thicken 42 = .ok (.iload 4, 2) := by decide +kernel
theorem dX1_thicken_44 : decode cX1_thicken 44 = .ok (.imul, 1) := by decide +kernel
theorem dX1_thicken_45 : decode cX1_thicken 45 = .ok (.iload_n 3, 1) := by decide +kernel
theorem dX1_thicken_46 : decode cX1_thicken 46 = .ok (.idiv, 1) := by decide +kernel
theorem dX1_thicken_47 : decode cX1_thicken 47 = .ok (.iadd, 1) := by decide +kernel
theorem dX1_thicken_48 : decode cX1_thicken 48 = .ok (.iastore, 1) := by decide +kernel
theorem dX1_thicken_49 : decode cX1_thicken 49 = .ok (.iinc 4 1, 3) := by decide +kernel
theorem dX1_thicken_52 : decode cX1_thicken 52 = .ok (.goto (-36), 3) := by decide +kernel
theorem dX1_thicken_55 : decode cX1_thicken 55 = .ok (.return_, 1) := by decide +kernel
theorem hcX1_thicken : yX1_thicken.cls ≠ "java/lang/invoke/MethodHandle" ∧ yX1_thicken.cls ≠ "java/lang/invoke/VarHandle" ∧ (parseMethodDescriptor yX1_thicken.desc).map (fun d => d.parameters.length) = some 2 := ⟨by decide +kernel, by decide +kernel, by decide +kernel⟩
def fX1_thicken_L16 (s0 : sg_M) (o : Int) (x1 : Int) (x2 : Int) (Q : sg_M → Prop) : Nat → sg_M → Int → Prop
  | 0, _, _ => False
  | n_16 + 1, s_16, x4_16 => (((s_16 o 4) ≤ x4_16 → Q s_16) ∧ (¬ ((s_16 o 4) ≤ x4_16) → ((60 ≤ x4_16 → Q s_16) ∧ (¬ (60 ≤ x4_16) → sg_R ((x2 - x1) * x4_16) ∧ (((s0 o 4) - 1) ≠ 0) ∧ (0 ≤ x4_16 ∧ x4_16 < 60) ∧ sg_R (x1 + (Int.tdiv ((x2 - x1) * x4_16) ((s0 o 4) - 1))) ∧ ∀ v12 : Int, v12 = (x1 + (Int.tdiv ((x2 - x1) * x4_16) ((s0 o 4) - 1))) → ∀ s14 : sg_M, s14 = sg_up s_16 (o + 2) x4_16 v12 → sg_R (x4_16 + 1) ∧ (fX1_thicken_L16 s0 o x1 x2 Q n_16) s14 (x4_16 + 1)))))
def fX1_thicken (s0 : sg_M) (o : Int) (x1 : Int) (x2 : Int) (Q : sg_M → Prop) : Prop := sg_R ((s0 o 4) - 1) ∧ ((1 ≤ ((s0 o 4) - 1) → (∃ n17 : Nat, fX1_thicken_L16 s0 o x1 x2 Q n17 s0 0)) ∧ (¬ (1 ≤ ((s0 o 4) - 1)) → Q s0))
set_option maxHeartbeats 4000000 in
set_option maxRecDepth 100000 in
theorem CX1_thicken {l : Launch} {G : sg_G} {La : sg_L} {s0 : sg_M} {o : Int} (to : sg_O La o 1) {x1 : Int} (r1 : sg_R x1) {x2 : Int} (r2 : sg_R x2) {Q : sg_M → Prop} (hf : fX1_thicken s0 o x1 x2 Q) : sg_C l G yX1_thicken cX1_thicken 5 (none) 1 0 0 La s0 [sg_r o, sg_i x1, sg_i x2] (sg_HV La Q) := by
  refine sg_body (by decide +kernel) (Nat.le_of_ble_eq_true rfl) ?_
  intro p e s m args below meth c F hnm
  unfold fX1_thicken at hf
  show sg_W p l e (sg_rm 1 0 0) s m args below meth c (MQ below (sg_Q (none) G La s.heap.size (sg_HV La Q)) args s 0 0 (sg_A La s.heap.size)) 5 G (sg_A La s.heap.size) La s0 0 0 0 [(0, sg_r o), (1, sg_i x1), (2, sg_i x2)] []
  refine gw_aload_n F 0 rfl rfl to.1 dX1_thicken_0 ?_
  refine gw_get0 F to (by decide) rfl sg_lay_RX1 (j := 4) (by decide) rfl (host := "") (.inl kw_163) dX1_thicken_1 (fun h1 => ?_)
  refine gw_iconst F dX1_thicken_4 ?_
  refine gw_isub F rfl dX1_thicken_5 ?_
  refine gw_istore_n F rfl (by decide) rfl dX1_thicken_6 ?_
  refine gw_iload_n F 0 rfl rfl dX1_thicken_7 ?_
  refine gw_iconst F dX1_thicken_8 ?_
  obtain ⟨g2, hf⟩ := hf
  refine gw_icmp_ge F (tgt := 13) dX1_thicken_9 (by decide) g2 (by decide) (fun c3 => ?_) (fun c3 => ?_)
  · have hf := hf.1 c3
    refine gw_iconst F dX1_thicken_13 ?_
    refine gw_istore F (by decide) rfl dX1_thicken_14 ?_
    have L16 : ∀ n_16 : Nat, ∀ (s_16 : sg_M) (x4_16 : Int), sg_R x4_16 → fX1_thicken_L16 s0 o x1 x2 Q n_16 s_16 x4_16 → sg_W p l e (sg_rm 1 0 0) s m args below meth c (MQ below (sg_Q (none) G La s.heap.size (sg_HV La Q)) args s 0 0 (sg_A La s.heap.size)) 5 G (sg_A La s.heap.size) La s_16 0 0 16 [(0, sg_r o), (1, sg_i x1), (2, sg_i x2), (3, sg_i ((s0 o 4) - 1)), (4, sg_i x4_16)] [] := by
      intro n_16
      induction n_16 with
      | zero => intro s_16 x4_16 r4_16 hf; exact hf.elim
      | succ n_16 ih =>
        intro s_16 x4_16 r4_16 hf
        unfold fX1_thicken_L16 at hf
        refine gw_iload F 4 rfl dX1_thicken_16 ?_
        refine gw_aload_n F 0 rfl rfl to.1 dX1_thicken_18 ?_
        refine gw_get0 F to (by decide) rfl sg_lay_RX1 (j := 4) (by decide) rfl (host := "") (.inl kw_163) dX1_thicken_19 (fun h4 => ?_)
        refine gw_icmp_ge F (tgt := 55) dX1_thicken_22 (by decide) r4_16 h4 (fun c5 => ?_) (fun c5 => ?_)
        · have hf := hf.1 c5
          exact gr_HV F hf (by decide) (by decide) dX1_thicken_55
        · have hf := hf.2 c5
          refine gw_iload F 4 rfl dX1_thicken_25 ?_
          refine gw_bipush F rfl dX1_thicken_27 ?_
          refine gw_icmp_ge F (tgt := 55) dX1_thicken_29 (by decide) r4_16 (by decide) (fun c6 => ?_) (fun c6 => ?_)
          · have hf := hf.1 c6
            exact gr_HV F hf (by decide) (by decide) dX1_thicken_55
          · have hf := hf.2 c6
            refine gw_aload_n F 0 rfl rfl to.1 dX1_thicken_32 ?_
            refine gw_get3 F to (by decide) rfl sg_lay_RX1 (j := 1) (by decide) (o1 := (o + 2)) (by first | rfl | omega) rfl (host := "") (.inl kw_159) dX1_thicken_33 (fun h7 => ?_)
            refine gw_iload F 4 rfl dX1_thicken_36 ?_
            refine gw_iload_n F 1 rfl rfl dX1_thicken_38 ?_
            refine gw_iload_n F 2 rfl rfl dX1_thicken_39 ?_
            refine gw_iload_n F 1 rfl rfl dX1_thicken_40 ?_
            refine gw_isub F rfl dX1_thicken_41 ?_
            refine gw_iload F 4 rfl dX1_thicken_42 ?_
            refine gw_imul F rfl dX1_thicken_44 ?_
            refine gw_iload_n F 3 rfl rfl dX1_thicken_45 ?_
            obtain ⟨g8, hf⟩ := hf
            obtain ⟨g9, hf⟩ := hf
            refine gw_idiv F g8 g2 g9 rfl dX1_thicken_46 ?_
            refine gw_iadd F rfl dX1_thicken_47 ?_
            obtain ⟨⟨b100, b101⟩, hf⟩ := hf
            obtain ⟨g11, hf⟩ := hf
            obtain ⟨v12, e13⟩ : ∃ z : Int, z = (x1 + (Int.tdiv ((x2 - x1) * x4_16) ((s0 o 4) - 1))) := ⟨_, rfl⟩
            have hf := hf v12 e13
            refine gw_nmI e13 ?_
            obtain ⟨s14, e15⟩ : ∃ z : sg_M, z = sg_up s_16 (o + 2) x4_16 v12 := ⟨_, rfl⟩
            have hf := hf s14 e15
            refine gw_iast F (sg_AN_of (sg_O_of h7 (by decide)) (by decide) (by decide) (by decide)) b100 b101 (e13 ▸ g11) e15 dX1_thicken_48 ?_
            refine gw_iinc F (z := (x4_16 + 1)) 4 rfl (by omega) (by decide) rfl dX1_thicken_49 ?_
            refine gw_goto F (tgt := 16) dX1_thicken_52 (by decide) ?_
            obtain ⟨g16, hf⟩ := hf
            refine gw_sub [1, 2, 3, 4, 0] rfl ?_
            exact ih s14 (x4_16 + 1) g16 hf
    obtain ⟨n17, hf⟩ := hf
    refine gw_sub [2, 3, 4, 1, 0] rfl ?_
    refine L16   n17 s0 0 (by decide) hf
  · have hf := hf.2 c3
    exact gr_HV F hf (by decide) (by decide) dX1_thicken_12

theorem dX11_forge_0 : decode cX11_forge 0 = .ok (.iload_n 1, 1) := by decide +kernel
theorem dX11_forge_1 : decode cX11_forge 1 = .ok (.iconst 1, 1) := by decide +kernel
theorem dX11_forge_2 : decode cX11_forge 2 = .ok (.if_icmp .lt 20, 3) := by decide +kernel
theorem dX11_forge_5 : decode cX11_forge 5 = .ok (.iload_n 1, 1) := by decide +kernel
theorem dX11_forge_6 : decode cX11_forge 6 = .ok (.bipush 20, 2) := by decide +kernel
theorem dX11_forge_8 : decode cX11_forge 8 = .ok (.if_icmp .gt 14, 3) := by decide +kernel
theorem dX11_forge_11 : decode cX11_forge 11 = .ok (.iload_n 2, 1) := by decide +kernel
theorem dX11_forge_12 : decode cX11_forge 12 = .ok (.iconst 1, 1) := by decide +kernel
theorem dX11_forge_13 : decode cX11_forge 13 = .ok (.if_icmp .lt 9, 3) := by decide +kernel
theorem dX11_forge_16 : decode cX11_forge 16 = .ok (.iload_n 2, 1) := by decide +kernel
theorem dX11_forge_17 : decode cX11_forge 17 = .ok (.bipush 20, 2) := by decide +kernel
theorem dX11_forge_19 : decode cX11_forge 19 = .ok (.if_icmp .le 5, 3) := by decide +kernel
theorem dX11_forge_22 : decode cX11_forge 22 = .ok (.iconst 0, 1) := by decide +kernel
theorem dX11_forge_23 : decode cX11_forge 23 = .ok (.ireturn, 1) := by decide +kernel
theorem dX11_forge_24 : decode cX11_forge 24 = .ok (.new 27, 3) := by decide +kernel
theorem dX11_forge_27 : decode cX11_forge 27 = .ok (.dup, 1) := by decide +kernel
theorem dX11_forge_28 : decode cX11_forge 28 = .ok (.invokespecial 29, 3) := by decide +kernel
theorem dX11_forge_31 : decode cX11_forge 31 = .ok (.astore_n 3, 1) := by decide +kernel
theorem dX11_forge_32 : decode cX11_forge 32 = .ok (.aload_n 3, 1) := by decide +kernel
theorem dX11_forge_33 : decode cX11_forge 33 = .ok (.aload_n 0, 1) := by decide +kernel
theorem dX11_forge_34 : decode cX11_forge 34 = .ok (.getfield 39, 3) := by decide +kernel
theorem dX11_forge_37 : decode cX11_forge 37 = .ok (.getfield 112, 3) := by decide +kernel
theorem dX11_forge_40 : decode cX11_forge 40 = .ok (.invokevirtual 312, 3) := by decide +kernel
theorem dX11_forge_43 : decode cX11_forge 43 = .ok (.aload_n 3, 1) := by decide +kernel
theorem dX11_forge_44 : decode cX11_forge 44 = .ok (.iload_n 1, 1) := by decide +kernel
theorem dX11_forge_45 : decode cX11_forge 45 = .ok (.iload_n 2, 1) := by decide +kernel
theorem dX11_forge_46 : decode cX11_forge 46 = .ok (.invokevirtual 316, 3) := by decide +kernel
theorem dX11_forge_49 : decode cX11_forge 49 = .ok (.aload_n 0, 1) := by decide +kernel
theorem dX11_forge_50 : decode cX11_forge 50 = .ok (.getfield 39, 3) := by decide +kernel
theorem dX11_forge_53 : decode cX11_forge 53 = .ok (.aload_n 3, 1) := by decide +kernel
theorem dX11_forge_54 : decode cX11_forge 54 = .ok (.putfield 112, 3) := by decide +kernel
theorem dX11_forge_57 : decode cX11_forge 57 = .ok (.aload_n 0, 1) := by decide +kernel
theorem dX11_forge_58 : decode cX11_forge 58 = .ok (.invokevirtual 248, 3) := by decide +kernel
theorem dX11_forge_61 : decode cX11_forge 61 = .ok (.iconst 1, 1) := by decide +kernel
theorem dX11_forge_62 : decode cX11_forge 62 = .ok (.ireturn, 1) := by decide +kernel
theorem hcX11_forge : yX11_forge.cls ≠ "java/lang/invoke/MethodHandle" ∧ yX11_forge.cls ≠ "java/lang/invoke/VarHandle" ∧ (parseMethodDescriptor yX11_forge.desc).map (fun d => d.parameters.length) = some 2 := ⟨by decide +kernel, by decide +kernel, by decide +kernel⟩
def fX11_forge (La : sg_L) (s0 : sg_M) (x1 : Int) (x2 : Int) (Q : Int → sg_L → sg_M → Prop) : Prop := ((x1 < 1 → Q 0 La s0) ∧ (¬ (x1 < 1) → ((20 < x1 → Q 0 La s0) ∧ (¬ (20 < x1) → ((x2 < 1 → Q 0 La s0) ∧ (¬ (x2 < 1) → ((x2 ≤ 20 → ∀ (q5 : Nat) (La6 : sg_L), La6 = sg_pu La 21 q5 → ∀ s7 : sg_M, s7 = sg_nw s0 La.1 21 → ∀ o8 : Int, o8 = (La.1 : Int) → fX1_init La6 s7 o8 (fun La17 s18 => (0 ≤ (s18 4 0)) ∧ fX1_copyFrom s18 o8 (s18 4 0) (fun s27 => fX1_thicken s27 o8 x1 x2 (fun s28 => ∀ s30 : sg_M, s30 = sg_up s28 4 0 o8 → fX11_forgetAnswers s30 (fun s32 => Q 1 La17 s32))))) ∧ (¬ (x2 ≤ 20) → Q 0 La s0))))))))
set_option maxHeartbeats 4000000 in
set_option maxRecDepth 100000 in
theorem CX11_forge {l : Launch} {G : sg_G} {La : sg_L} {s0 : sg_M} (hst : sg_St La) {x1 : Int} (r1 : sg_R x1) {x2 : Int} (r2 : sg_R x2) {Q : Int → sg_L → sg_M → Prop} (hf : fX11_forge La s0 x1 x2 Q) : sg_C l G yX11_forge cX11_forge 4 (some .boolean) 3 5 247 La s0 [sg_r 0, sg_i x1, sg_i x2] (sg_BZ La Q) := by
  refine sg_body (by decide +kernel) (Nat.le_of_ble_eq_true rfl) ?_
  intro p e s m args below meth c F hnm
  unfold fX11_forge at hf
  show sg_W p l e (sg_rm 3 5 247) s m args below meth c (MQ below (sg_Q (some .boolean) G La s.heap.size (sg_BZ La Q)) args s 5 247 (sg_A La s.heap.size)) 4 G (sg_A La s.heap.size) La s0 0 0 0 [(0, sg_r 0), (1, sg_i x1), (2, sg_i x2)] []
  refine gw_iload_n F 1 rfl rfl dX11_forge_0 ?_
  refine gw_iconst F dX11_forge_1 ?_
  refine gw_icmp_lt F (tgt := 22) dX11_forge_2 (by decide) r1 (by decide) (fun c1 => ?_) (fun c1 => ?_)
  · have hf := hf.1 c1
    refine gw_iconst F dX11_forge_22 ?_
    exact gr_BZ F (by decide) hf (sg_X.rf) (by decide) (by decide) dX11_forge_23
  · have hf := hf.2 c1
    refine gw_iload_n F 1 rfl rfl dX11_forge_5 ?_
    refine gw_bipush F rfl dX11_forge_6 ?_
    refine gw_icmp_gt F (tgt := 22) dX11_forge_8 (by decide) r1 (by decide) (fun c2 => ?_) (fun c2 => ?_)
    · have hf := hf.1 c2
      refine gw_iconst F dX11_forge_22 ?_
      exact gr_BZ F (by decide) hf (sg_X.rf) (by decide) (by decide) dX11_forge_23
    · have hf := hf.2 c2
      refine gw_iload_n F 2 rfl rfl dX11_forge_11 ?_
      refine gw_iconst F dX11_forge_12 ?_
      refine gw_icmp_lt F (tgt := 22) dX11_forge_13 (by decide) r2 (by decide) (fun c3 => ?_) (fun c3 => ?_)
      · have hf := hf.1 c3
        refine gw_iconst F dX11_forge_22 ?_
        exact gr_BZ F (by decide) hf (sg_X.rf) (by decide) (by decide) dX11_forge_23
      · have hf := hf.2 c3
        refine gw_iload_n F 2 rfl rfl dX11_forge_16 ?_
        refine gw_bipush F rfl dX11_forge_17 ?_
        refine gw_icmp_le F (tgt := 24) dX11_forge_19 (by decide) r2 (by decide) (fun c4 => ?_) (fun c4 => ?_)
        · have hf := hf.1 c4
          refine gy_new F (kd := 21) (T := TX1) (by decide) rfl sg_lay_RX1 tyX1_ok kw_152 kw_153 kw_94 ns_X1 nf_X1 nr_X1 (by decide) (by decide) (List.forall_mem_cons.mpr ⟨(Or.inl (so_0 hst).2.1), (List.forall_mem_cons.mpr ⟨True.intro, (List.forall_mem_cons.mpr ⟨True.intro, (fun _ h => absurd h List.not_mem_nil)⟩)⟩)⟩) (fun _ h => absurd h List.not_mem_nil) dX11_forge_24 (fun q5 La6 s7 o8 e9 e10 e11 t12 hX13 => ?_)
          have hf := hf q5 La6 e9 s7 e10 o8 e11
          have hn14 : La.1 ≤ o8.toNat := by rw [e11, Int.toNat_natCast]; exact (sg_X.rf : sg_X La La).1
          have hst15 := hst.X hX13
          have hX16 := sg_X.tr (sg_X.rf) hX13
          refine gw_dup F rfl dX11_forge_27 ?_
          refine gk_BV F (gc_IN F (S := [sg_r o8]) (As := []) (CX1_init t12 hf) t12.1 kw_156 kw_94 kw_154 kw_155 rfl hcX1_init ⟨by decide, by decide⟩ rfl rfl (Nat.le_of_ble_eq_true rfl) ⟨by decide, by decide⟩ dX11_forge_28) (List.forall_mem_cons.mpr ⟨(Or.inl (so_0 hst15).2.1), (List.forall_mem_cons.mpr ⟨True.intro, (List.forall_mem_cons.mpr ⟨True.intro, (fun _ h => absurd h List.not_mem_nil)⟩)⟩)⟩) (List.forall_mem_cons.mpr ⟨(Or.inl t12.2.1), (fun _ h => absurd h List.not_mem_nil)⟩) (fun La17 s18 hX19 hf => ?_)
          have t20 := (sg_O_sealed t12).X hX19
          have hst21 := (sg_St_sx hst15 t12 ⟨by decide, by decide, by decide⟩).X hX19
          have hX22 := (sg_X_sx (hX16) hn14).tr hX19
          refine gw_astore_n F rfl t20.1 (by decide) rfl dX11_forge_31 ?_
          refine gw_aload_n F 0 rfl rfl t20.1 dX11_forge_32 ?_
          refine gw_aload_n F 1 rfl rfl (by decide) dX11_forge_33 ?_
          refine gw_get7 F (so_0 hst21) (by decide) rfl sg_lay_RX11 (j := 2) (by decide) (o1 := 4) (by first | rfl | omega) rfl (host := "") (.inl kw_328) dX11_forge_34 (fun h23 => ?_)
          refine gw_get4 F (so_4 hst21) (by decide) rfl sg_lay_RX7 (j := 0) (by decide) rfl (.inr kw_234) dX11_forge_37 (fun h24 => ?_)
          obtain ⟨g25, hf⟩ := hf
          have t26 := sg_nn h24 g25
          refine gk_HV F (gc_V F (S := []) (As := [sg_r (s18 4 0)]) (T := TX1) (N := 7) (CX1_copyFrom t20 t26 hf) t20 (by decide) rfl kw_776 kw_94 kw_773 kw_774 kw_775 hcX1_copyFrom ⟨by decide, by decide⟩ rfl rfl (Nat.le_of_ble_eq_true rfl) ⟨by decide, by decide⟩ dX11_forge_40) (fun s27 hf => ?_)
          refine gw_aload_n F 0 rfl rfl t20.1 dX11_forge_43 ?_
          refine gw_iload_n F 2 rfl rfl dX11_forge_44 ?_
          refine gw_iload_n F 3 rfl rfl dX11_forge_45 ?_
          refine gk_HV F (gc_V F (S := []) (As := [sg_i x1, sg_i x2]) (T := TX1) (N := 7) (CX1_thicken t20 r1 r2 hf) t20 (by decide) rfl kw_780 kw_94 kw_777 kw_778 kw_779 hcX1_thicken ⟨by decide, by decide⟩ rfl rfl (Nat.le_of_ble_eq_true rfl) ⟨by decide, by decide⟩ dX11_forge_46) (fun s28 hf => ?_)
          refine gw_aload_n F 1 rfl rfl (by decide) dX11_forge_49 ?_
          refine gw_get7 F (so_0 hst21) (by decide) rfl sg_lay_RX11 (j := 2) (by decide) (o1 := 4) (by first | rfl | omega) rfl (host := "") (.inl kw_328) dX11_forge_50 (fun h29 => ?_)
          refine gw_aload_n F 0 rfl rfl t20.1 dX11_forge_53 ?_
          obtain ⟨s30, e31⟩ : ∃ z : sg_M, z = sg_up s28 4 0 o8 := ⟨_, rfl⟩
          have hf := hf s30 e31
          refine gw_put4 F (so_4 hst21) (by decide) rfl sg_lay_RX7 (j := 0) (by decide) t20.1 t20 e31 tyX7_ok nmX7 rfl (tyX7_ok 0 (by decide)) rfl (.inr kw_234) dX11_forge_54 ?_
          refine gw_aload_n F 1 rfl rfl (by decide) dX11_forge_57 ?_
          refine gk_HV F (gc_V F (S := []) (As := []) (T := TX11) (N := 19) (CX11_forgetAnswers hst21 hf) (so_0 hst21) (by decide) rfl kw_490 kw_90 kw_488 kw_489 kw_3 hcX11_forgetAnswers ⟨by decide, by decide⟩ rfl rfl (Nat.le_of_ble_eq_true rfl) ⟨by decide, by decide⟩ dX11_forge_58) (fun s32 hf => ?_)
          refine gw_iconst F dX11_forge_61 ?_
          exact gr_BZ F (by decide) hf (hX22) (by decide) (by decide) dX11_forge_62
        · have hf := hf.2 c4
          refine gw_iconst F dX11_forge_22 ?_
          exact gr_BZ F (by decide) hf (sg_X.rf) (by decide) (by decide) dX11_forge_23

theorem dX11_closeText_0 : decode cX11_closeText 0 = .ok (.aload_n 0, 1) := by decide +kernel
theorem dX11_closeText_1 : decode cX11_closeText 1 = .ok (.getfield 10, 3) := by decide +kernel
theorem dX11_closeText_4 : decode cX11_closeText 4 = .ok (.iconst 0, 1) := by decide +kernel
theorem dX11_closeText_5 : decode cX11_closeText 5 = .ok (.putfield 122, 3) := by decide +kernel
theorem dX11_closeText_8 : decode cX11_closeText 8 = .ok (.aload_n 0, 1) := by decide +kernel
theorem dX11_closeText_9 : decode cX11_closeText 9 = .ok (.aload_n 0, 1) := by decide +kernel
theorem dX11_closeText_10 : decode cX11_closeText 10 = .ok (.getfield 21, 3) := by decide +kernel
theorem dX11_closeText_13 : decode cX11_closeText 13 = .ok (.getfield 135, 3) := by decide +kernel
theorem dX11_closeText_16 : decode cX11_closeText 16 = .ok (.putfield 102, 3) := by decide +kernel
theorem dX11_closeText_19 : decode cX11_closeText 19 = .ok (.aload_n 0, 1) := by decide +kernel
theorem dX11_closeText_20 : decode cX11_closeText 20 = .ok (.getfield 102, 3) := by decide +kernel
theorem dX11_closeText_23 : decode cX11_closeText 23 = .ok (.ifCond .eq 13, 3) := by decide +kernel
theorem dX11_closeText_26 : decode cX11_closeText 26 = .ok (.iconst (-1), 1) := by decide +kernel
theorem dX11_closeText_27 : decode cX11_closeText 27 = .ok (.aload_n 0, 1) := by decide +kernel
theorem dX11_closeText_28 : decode cX11_closeText 28 = .ok (.getfield 21, 3) := by decide +kernel
theorem dX11_closeText_31 : decode cX11_closeText 31 = .ok (.getfield 343, 3) := by decide +kernel
theorem dX11_closeText_34 : decode cX11_closeText 34 = .ok (.isub, 1) := by decide +kernel
theorem dX11_closeText_35 : decode cX11_closeText 35 = .ok (.ireturn, 1) := by decide +kernel
theorem dX11_closeText_36 : decode cX11_closeText 36 = .ok (.aload_n 0, 1) := by decide +kernel
theorem dX11_closeText_37 : decode cX11_closeText 37 = .ok (.invokevirtual 248, 3) := by decide +kernel
theorem dX11_closeText_40 : decode cX11_closeText 40 = .ok (.iload_n 1, 1) := by decide +kernel
theorem dX11_closeText_41 : decode cX11_closeText 41 = .ok (.ireturn, 1) := by decide +kernel
theorem hcX11_closeText : yX11_closeText.cls ≠ "java/lang/invoke/MethodHandle" ∧ yX11_closeText.cls ≠ "java/lang/invoke/VarHandle" ∧ (parseMethodDescriptor yX11_closeText.desc).map (fun d => d.parameters.length) = some 1 := ⟨by decide +kernel, by decide +kernel, by decide +kernel⟩
def fX11_closeText (s0 : sg_M) (x1 : Int) (Q : Int → sg_M → Prop) : Prop := ∀ s2 : sg_M, s2 = sg_up s0 1 1 0 → ∀ s6 : sg_M, s6 = sg_up s2 0 16 (s2 3 6) → (((s6 0 16) = 0 → fX11_forgetAnswers s6 (fun s10 => Q x1 s10)) ∧ (¬ ((s6 0 16) = 0) → sg_R ((-1) - (s6 3 7)) ∧ Q ((-1) - (s6 3 7)) s6))
set_option maxHeartbeats 4000000 in
set_option maxRecDepth 100000 in
theorem CX11_closeText {l : Launch} {G : sg_G} {La : sg_L} {s0 : sg_M} (hst : sg_St La) {x1 : Int} (r1 : sg_R x1) {Q : Int → sg_M → Prop} (hf : fX11_closeText s0 x1 Q) : sg_C l G yX11_closeText cX11_closeText 2 (some .int) 2 0 0 La s0 [sg_r 0, sg_i x1] (sg_HI La Q) := by
  refine sg_body (by decide +kernel) (Nat.le_of_ble_eq_true rfl) ?_
  intro p e s m args below meth c F hnm
  unfold fX11_closeText at hf
  show sg_W p l e (sg_rm 2 0 0) s m args below meth c (MQ below (sg_Q (some .int) G La s.heap.size (sg_HI La Q)) args s 0 0 (sg_A La s.heap.size)) 2 G (sg_A La s.heap.size) La s0 0 0 0 [(0, sg_r 0), (1, sg_i x1)] []
  refine gw_aload_n F 0 rfl rfl (by decide) dX11_closeText_0 ?_
  refine gw_get7 F (so_0 hst) (by decide) rfl sg_lay_RX11 (j := 0) (by decide) (o1 := 1) (by first | rfl | omega) rfl (host := "") (.inl kw_326) dX11_closeText_1 (fun h1 => ?_)
  refine gw_iconst F dX11_closeText_4 ?_
  obtain ⟨s2, e3⟩ : ∃ z : sg_M, z = sg_up s0 1 1 0 := ⟨_, rfl⟩
  have hf := hf s2 e3
  refine gw_put0 F (so_1 hst) (by decide) rfl sg_lay_RX8 (j := 1) (by decide) (by decide) e3 tyX8_ok nmX8 rfl (tyX8_ok 1 (by decide)) rfl (.inr kw_128) dX11_closeText_5 ?_
  refine gw_aload_n F 0 rfl rfl (by decide) dX11_closeText_8 ?_
  refine gw_aload_n F 0 rfl rfl (by decide) dX11_closeText_9 ?_
  refine gw_get7 F (so_0 hst) (by decide) rfl sg_lay_RX11 (j := 1) (by decide) (o1 := 3) (by first | rfl | omega) rfl (host := "") (.inl kw_327) dX11_closeText_10 (fun h4 => ?_)
  refine gw_get0 F (so_3 hst) (by decide) rfl sg_lay_RX9 (j := 6) (by decide) rfl (.inr kw_145) dX11_closeText_13 (fun h5 => ?_)
  obtain ⟨s6, e7⟩ : ∃ z : sg_M, z = sg_up s2 0 16 (s2 3 6) := ⟨_, rfl⟩
  have hf := hf s6 e7
  refine gw_put0 F (so_0 hst) (by decide) rfl sg_lay_RX11 (j := 16) (by decide) h5 e7 tyX11_ok nmX11 rfl (tyX11_ok 16 (by decide)) rfl (host := "") (.inl kw_342) dX11_closeText_16 ?_
  refine gw_aload_n F 0 rfl rfl (by decide) dX11_closeText_19 ?_
  refine gw_get0 F (so_0 hst) (by decide) rfl sg_lay_RX11 (j := 16) (by decide) rfl (host := "") (.inl kw_342) dX11_closeText_20 (fun h8 => ?_)
  refine gw_if_eq F (tgt := 36) dX11_closeText_23 (by decide) h8 (fun c9 => ?_) (fun c9 => ?_)
  · have hf := hf.1 c9
    refine gw_aload_n F 0 rfl rfl (by decide) dX11_closeText_36 ?_
    refine gk_HV F (gc_V F (S := []) (As := []) (T := TX11) (N := 19) (CX11_forgetAnswers hst hf) (so_0 hst) (by decide) rfl kw_490 kw_90 kw_488 kw_489 kw_3 hcX11_forgetAnswers ⟨by decide, by decide⟩ rfl rfl (Nat.le_of_ble_eq_true rfl) ⟨by decide, by decide⟩ dX11_closeText_37) (fun s10 hf => ?_)
    refine gw_iload_n F 1 rfl rfl dX11_closeText_40 ?_
    exact gr_HI F r1 hf (by decide) (by decide) dX11_closeText_41
  · have hf := hf.2 c9
    refine gw_iconst F dX11_closeText_26 ?_
    refine gw_aload_n F 0 rfl rfl (by decide) dX11_closeText_27 ?_
    refine gw_get7 F (so_0 hst) (by decide) rfl sg_lay_RX11 (j := 1) (by decide) (o1 := 3) (by first | rfl | omega) rfl (host := "") (.inl kw_327) dX11_closeText_28 (fun h11 => ?_)
    refine gw_get0 F (so_3 hst) (by decide) rfl sg_lay_RX9 (j := 7) (by decide) rfl (.inr kw_149) dX11_closeText_31 (fun h12 => ?_)
    refine gw_isub F rfl dX11_closeText_34 ?_
    obtain ⟨g13, hf⟩ := hf
    exact gr_HI F g13 hf (by decide) (by decide) dX11_closeText_35

theorem dX3_init_0 : decode cX3_init 0 = .ok (.aload_n 0, 1) := by decide +kernel
theorem dX3_init_1 : decode cX3_init 1 = .ok (.invokespecial 3, 3) := by decide +kernel
theorem dX3_init_4 : decode cX3_init 4 = .ok (.aload_n 0, 1) := by decide +kernel
theorem dX3_init_5 : decode cX3_init 5 = .ok (.sipush 200, 3) := by decide +kernel
theorem dX3_init_8 : decode cX3_init 8 = .ok (.newarray .int, 2) := by decide +kernel
theorem dX3_init_10 : decode cX3_init 10 = .ok (.putfield 9, 3) := by decide +kernel
theorem dX3_init_13 : decode cX3_init 13 = .ok (.aload_n 0, 1) := by decide +kernel
theorem dX3_init_14 : decode cX3_init 14 = .ok (.sipush 200, 3) := by decide +kernel
theorem dX3_init_17 : decode cX3_init 17 = .ok (.newarray .int, 2) := by decide +kernel
theorem dX3_init_19 : decode cX3_init 19 = .ok (.putfield 15, 3) := by decide +kernel
theorem dX3_init_22 : decode cX3_init 22 = .ok (.aload_n 0, 1) := by decide +kernel
theorem dX3_init_23 : decode cX3_init 23 = .ok (.iconst 0, 1) := by decide +kernel
theorem dX3_init_24 : decode cX3_init 24 = .ok (.putfield 18, 3) := by decide +kernel
theorem dX3_init_27 : decode cX3_init 27 = .ok (.aload_n 0, 1) := by decide +kernel
theorem dX3_init_28 : decode cX3_init 28 = .ok (.iconst 0, 1) := by decide +kernel
theorem dX3_init_29 : decode cX3_init 29 = .ok (.putfield 22, 3) := by decide +kernel
theorem dX3_init_32 : decode cX3_init 32 = .ok (.aload_n 0, 1) := by decide +kernel
theorem dX3_init_33 : decode cX3_init 33 = .ok (.iconst 0, 1) := by decide +kernel
theorem dX3_init_34 : decode cX3_init 34 = .ok (.putfield 25, 3) := by decide +kernel
theorem dX3_init_37 : decode cX3_init 37 = .ok (.return_, 1) := by decide +kernel
theorem hcX3_init : yX3_init.cls ≠ "java/lang/invoke/MethodHandle" ∧ yX3_init.cls ≠ "java/lang/invoke/VarHandle" ∧ (parseMethodDescriptor yX3_init.desc).map (fun d => d.parameters.length) = some 0 := ⟨by decide +kernel, by decide +kernel, by decide +kernel⟩
def fX3_init (La : sg_L) (s0 : sg_M) (o : Int) (Q : sg_L → sg_M → Prop) : Prop := ∀ (q1 : Nat) (La2 : sg_L), La2 = sg_pu La 10200 q1 → ∀ s3 : sg_M, s3 = sg_nw s0 La.1 10200 → ∀ o4 : Int, o4 = (La.1 : Int) → ∀ s14 : sg_M, s14 = sg_up s3 o 0 o4 → ∀ (q16 : Nat) (La17 : sg_L), La17 = sg_pu La2 10200 q16 → ∀ s18 : sg_M, s18 = sg_nw s14 La2.1 10200 → ∀ o19 : Int, o19 = (La2.1 : Int) → ∀ s29 : sg_M, s29 = sg_up s18 o 1 o19 → ∀ s31 : sg_M, s31 = sg_up s29 o 2 0 → ∀ s33 : sg_M, s33 = sg_up s31 o 3 0 → ∀ s35 : sg_M, s35 = sg_up s33 o 4 0 → sg_sealed La17 s35 o 23 3 ∧ ∀ La37 : sg_L, La37 = sg_se La17 o.toNat 3 → Q La37 s35
set_option maxHeartbeats 4000000 in
set_option maxRecDepth 100000 in
theorem CX3_init {l : Launch} {G : sg_G} {La : sg_L} {s0 : sg_M} {o : Int} (to : sg_O La o 23) {Q : sg_L → sg_M → Prop} (hf : fX3_init La s0 o Q) : sg_C l G yX3_init cX3_init 1 (none) 1 2 400 La s0 [sg_r o] (sg_BV (sg_se La o.toNat 3) Q) := by
  refine sg_body (by decide +kernel) (Nat.le_of_ble_eq_true rfl) ?_
  intro p e s m args below meth c F hnm
  unfold fX3_init at hf
  show sg_W p l e (sg_rm 1 2 400) s m args below meth c (MQ below (sg_Q (none) G La s.heap.size (sg_BV (sg_se La o.toNat 3) Q)) args s 2 400 (sg_A La s.heap.size)) 1 G (sg_A La s.heap.size) La s0 0 0 0 [(0, sg_r o)] []
  have hin : meth.name = "<init>" := hnm
  refine gw_aload_n F 0 rfl rfl to.1 dX3_init_0 ?_
  refine gw_objInit F to.1 kw_177 kw_OI kw_OC (Nat.le_of_ble_eq_true rfl) (by decide) (by decide) dX3_init_1 ?_
  refine gw_aload_n F 0 rfl rfl to.1 dX3_init_4 ?_
  refine gw_sipush F rfl dX3_init_5 ?_
  refine gy_newI F (N := 200) kw_131 rfl (by decide) (by decide) (by decide) (List.forall_mem_cons.mpr ⟨(Or.inl to.2.1), (fun _ h => absurd h List.not_mem_nil)⟩) (List.forall_mem_cons.mpr ⟨(Or.inl to.2.1), (fun _ h => absurd h List.not_mem_nil)⟩) dX3_init_8 (fun q1 La2 s3 o4 e5 e6 e7 t8 hX9 => ?_)
  have hf := hf q1 La2 e5 s3 e6 o4 e7
  have hn10 : La.1 ≤ o4.toNat := by rw [e7, Int.toNat_natCast]; exact (sg_X.rf : sg_X La La).1
  have t11 := to.X hX9
  have hX12 := sg_X.tr (sg_X.rf) hX9
  have t13 := sg_AN_of (n := 200) t8 (by decide) (by decide) (by decide)
  obtain ⟨s14, e15⟩ : ∃ z : sg_M, z = sg_up s3 o 0 o4 := ⟨_, rfl⟩
  have hf := hf s14 e15
  refine gw_put5F F t11 (by decide) rfl sg_lay_RX3 (j := 0) (by decide) (D0 := tyX3 0) (fun _ => ⟨rfl, rfl⟩) t13.1 t13.2.1 e15 tyX3_ok nmX3 rfl hin rfl (tyX3_ok 0 (by decide)) rfl (host := "") kw_178 dX3_init_10 ?_
  refine gw_aload_n F 0 rfl rfl t11.1 dX3_init_13 ?_
  refine gw_sipush F rfl dX3_init_14 ?_
  refine gy_newI F (N := 200) kw_131 rfl (by decide) (by decide) (by decide) (List.forall_mem_cons.mpr ⟨(Or.inl t11.2.1), (fun _ h => absurd h List.not_mem_nil)⟩) (List.forall_mem_cons.mpr ⟨(Or.inl t11.2.1), (fun _ h => absurd h List.not_mem_nil)⟩) dX3_init_17 (fun q16 La17 s18 o19 e20 e21 e22 t23 hX24 => ?_)
  have hf := hf q16 La17 e20 s18 e21 o19 e22
  have hn25 : La.1 ≤ o19.toNat := by rw [e22, Int.toNat_natCast]; exact (hX12 : sg_X La La2).1
  have t26 := t11.X hX24
  have hX27 := sg_X.tr (hX12) hX24
  have t28 := sg_AN_of (n := 200) t23 (by decide) (by decide) (by decide)
  obtain ⟨s29, e30⟩ : ∃ z : sg_M, z = sg_up s18 o 1 o19 := ⟨_, rfl⟩
  have hf := hf s29 e30
  refine gw_put5F F t26 (by decide) rfl sg_lay_RX3 (j := 1) (by decide) (D0 := tyX3 1) (fun _ => ⟨rfl, rfl⟩) t28.1 t28.2.1 e30 tyX3_ok nmX3 rfl hin rfl (tyX3_ok 1 (by decide)) rfl (host := "") kw_179 dX3_init_19 ?_
  refine gw_aload_n F 0 rfl rfl t26.1 dX3_init_22 ?_
  refine gw_iconst F dX3_init_23 ?_
  obtain ⟨s31, e32⟩ : ∃ z : sg_M, z = sg_up s29 o 2 0 := ⟨_, rfl⟩
  have hf := hf s31 e32
  refine gw_put0 F t26 (by decide) rfl sg_lay_RX3 (j := 2) (by decide) (by decide) e32 tyX3_ok nmX3 rfl (tyX3_ok 2 (by decide)) rfl (host := "") (.inl kw_180) dX3_init_24 ?_
  refine gw_aload_n F 0 rfl rfl t26.1 dX3_init_27 ?_
  refine gw_iconst F dX3_init_28 ?_
  obtain ⟨s33, e34⟩ : ∃ z : sg_M, z = sg_up s31 o 3 0 := ⟨_, rfl⟩
  have hf := hf s33 e34
  refine gw_put0 F t26 (by decide) rfl sg_lay_RX3 (j := 3) (by decide) (by decide) e34 tyX3_ok nmX3 rfl (tyX3_ok 3 (by decide)) rfl (host := "") (.inl kw_182) dX3_init_29 ?_
  refine gw_aload_n F 0 rfl rfl t26.1 dX3_init_32 ?_
  refine gw_iconst F dX3_init_33 ?_
  obtain ⟨s35, e36⟩ : ∃ z : sg_M, z = sg_up s33 o 4 0 := ⟨_, rfl⟩
  have hf := hf s35 e36
  refine gw_put0 F t26 (by decide) rfl sg_lay_RX3 (j := 4) (by decide) (by decide) e36 tyX3_ok nmX3 rfl (tyX3_ok 4 (by decide)) rfl (host := "") (.inl kw_183) dX3_init_34 ?_
  obtain ⟨g38, hf⟩ := hf
  obtain ⟨La37, e39⟩ : ∃ z : sg_L, z = sg_se La17 o.toNat 3 := ⟨_, rfl⟩
  have hf := hf La37 e39
  refine gw_seal t26 ⟨by decide, by decide, by decide⟩ (by decide) (by decide) g38.1 g38.2 ?_
  rw [← e39]
  exact gr_BC F (o := o.toNat) (kd := 3) hf (by rw [e39]; exact sg_X.both hX27) (by decide) (by decide) dX3_init_37

theorem dX11_signed_0 : decode cX11_signed 0 = .ok (.iload_n 0, 1) := by decide +kernel
theorem dX11_signed_1 : decode cX11_signed 1 = .ok (.ifCond .eq 8, 3) := by decide +kernel
theorem dX11_signed_4 : decode cX11_signed 4 = .ok (.iload_n 1, 1) := by decide +kernel
theorem dX11_signed_5 : decode cX11_signed 5 = .ok (.ineg, 1) := by decide +kernel
theorem dX11_signed_6 : decode cX11_signed 6 = .ok (.goto 4, 3) := by decide +kernel
theorem dX11_signed_9 : decode cX11_signed 9 = .ok (.iload_n 1, 1) := by decide +kernel
theorem dX11_signed_10 : decode cX11_signed 10 = .ok (.ireturn, 1) := by decide +kernel
theorem hcX11_signed : yX11_signed.cls ≠ "java/lang/invoke/MethodHandle" ∧ yX11_signed.cls ≠ "java/lang/invoke/VarHandle" ∧ (parseMethodDescriptor yX11_signed.desc).map (fun d => d.parameters.length) = some 2 := ⟨by decide +kernel, by decide +kernel, by decide +kernel⟩
def fX11_signed (x0 : Int) (x1 : Int) (Q : Int → Prop) : Prop := ((x0 = 0 → Q x1) ∧ (¬ (x0 = 0) → sg_R (-x1) ∧ Q (-x1)))
set_option maxHeartbeats 4000000 in
set_option maxRecDepth 100000 in
theorem CX11_signed {l : Launch} {G : sg_G} {La : sg_L} {s0 : sg_M} {x0 : Int} (r0 : sg_B x0) {x1 : Int} (r1 : sg_R x1) {Q : Int → Prop} (hf : fX11_signed x0 x1 Q) : sg_C l G yX11_signed cX11_signed 2 (some .int) 1 0 0 La s0 [sg_i x0, sg_i x1] (sg_PI La s0 Q) := by
  refine sg_body (by decide +kernel) (Nat.le_of_ble_eq_true rfl) ?_
  intro p e s m args below meth c F hnm
  unfold fX11_signed at hf
  show sg_W p l e (sg_rm 1 0 0) s m args below meth c (MQ below (sg_Q (some .int) G La s.heap.size (sg_PI La s0 Q)) args s 0 0 (sg_A La s.heap.size)) 2 G (sg_A La s.heap.size) La s0 0 0 0 [(0, sg_i x0), (1, sg_i x1)] []
  refine gw_iload_n F 0 rfl rfl dX11_signed_0 ?_
  refine gw_if_eq F (tgt := 9) dX11_signed_1 (by decide) (sg_B_R r0) (fun c1 => ?_) (fun c1 => ?_)
  · have hf := hf.1 c1
    refine gw_iload_n F 1 rfl rfl dX11_signed_9 ?_
    exact gr_PI F r1 hf (by decide) (by decide) dX11_signed_10
  · have hf := hf.2 c1
    refine gw_iload_n F 1 rfl rfl dX11_signed_4 ?_
    refine gw_ineg F rfl dX11_signed_5 ?_
    refine gw_goto F (tgt := 10) dX11_signed_6 (by decide) ?_
    obtain ⟨g2, hf⟩ := hf
    exact gr_PI F g2 hf (by decide) (by decide) dX11_signed_10

theorem dX3_pass_0 : decode cX3_pass 0 = .ok (.aload_n 0, 1) := by decide +kernel
theorem dX3_pass_1 : decode cX3_pass 1 = .ok (.getfield 18, 3) := by decide +kernel
theorem dX3_pass_4 : decode cX3_pass 4 = .ok (.ifCond .lt 43, 3) := by decide +kernel
theorem dX3_pass_7 : decode cX3_pass 7 = .ok (.aload_n 0, 1) := by decide +kernel
theorem dX3_pass_8 : decode cX3_pass 8 = .ok (.getfield 18, 3) := by decide +kernel
theorem dX3_pass_11 : decode cX3_pass 11 = .ok (.sipush 200, 3) := by decide +kernel
theorem dX3_pass_14 : decode cX3_pass 14 = .ok (.if_icmp .ge 33, 3) := by decide +kernel
theorem dX3_pass_17 : decode cX3_pass 17 = .ok (.aload_n 0, 1) := by decide +kernel
theorem dX3_pass_18 : decode cX3_pass 18 = .ok (.getfield 9, 3) := by decide +kernel
theorem dX3_pass_21 : decode cX3_pass 21 = .ok (.aload_n 0, 1) := by decide +kernel
theorem dX3_pass_22 : decode cX3_pass 22 = .ok (.getfield 18, 3) := by decide +kernel
theorem dX3_pass_25 : decode cX3_pass 25 = .ok (.iload_n 1, 1) := by decide +kernel
theorem dX3_pass_26 : decode cX3_pass 26 = .ok (.iastore, 1) := by decide +kernel
theorem dX3_pass_27 : decode cX3_pass 27 = .ok (.aload_n 0, 1) := by decide +kernel
theorem dX3_pass_28 : decode cX3_pass 28 = .ok (.getfield 15, 3) := by decide +kernel
theorem dX3_pass_31 : decode cX3_pass 31 = .ok (.aload_n 0, 1) := by decide +kernel
theorem dX3_pass_32 : decode cX3_pass 32 = .ok (.getfield 18, 3) := by decide +kernel
theorem dX3_pass_35 : decode cX3_pass 35 = .ok (.iload_n 2, 1) := by decide +kernel
theorem dX3_pass_36 : decode cX3_pass 36 = .ok (.iastore, 1) := by decide +kernel
theorem dX3_pass_37 : decode cX3_pass 37 = .ok (.aload_n 0, 1) := by decide +kernel
theorem dX3_pass_38 : decode cX3_pass 38 = .ok (.dup, 1) := by decide +kernel
theorem dX3_pass_39 : decode cX3_pass 39 = .ok (.getfield 18, 3) := by decide +kernel
theorem dX3_pass_42 : decode cX3_pass 42 = .ok (.iconst 1, 1) := by decide +kernel
theorem dX3_pass_43 : decode cX3_pass 43 = .ok (.iadd, 1) := by decide +kernel
theorem dX3_pass_44 : decode cX3_pass 44 = .ok (.putfield 18, 3) := by decide +kernel
theorem dX3_pass_47 : decode cX3_pass 47 = .ok (.return_, 1) := by decide +kernel
theorem hcX3_pass : yX3_pass.cls ≠ "java/lang/invoke/MethodHandle" ∧ yX3_pass.cls ≠ "java/lang/invoke/VarHandle" ∧ (parseMethodDescriptor yX3_pass.desc).map (fun d => d.parameters.length) = some 2 := ⟨by decide +kernel, by decide +kernel, by decide +kernel⟩
def fX3_pass (s0 : sg_M) (o : Int) (x1 : Int) (x2 : Int) (Q : sg_M → Prop) : Prop := (((s0 o 2) < 0 → Q s0) ∧ (¬ ((s0 o 2) < 0) → ((200 ≤ (s0 o 2) → Q s0) ∧ (¬ (200 ≤ (s0 o 2)) → (0 ≤ (s0 o 2) ∧ (s0 o 2) < 200) ∧ ∀ s8 : sg_M, s8 = sg_up s0 (o + 1) (s0 o 2) x1 → (0 ≤ (s8 o 2) ∧ (s8 o 2) < 200) ∧ ∀ s13 : sg_M, s13 = sg_up s8 (o + 2) (s8 o 2) x2 → sg_R ((s13 o 2) + 1) ∧ ∀ s17 : sg_M, s17 = sg_up s13 o 2 ((s13 o 2) + 1) → Q s17))))
set_option maxHeartbeats 4000000 in
set_option maxRecDepth 100000 in
theorem CX3_pass {l : Launch} {G : sg_G} {La : sg_L} {s0 : sg_M} {o : Int} (to : sg_O La o 3) {x1 : Int} (r1 : sg_R x1) {x2 : Int} (r2 : sg_R x2) {Q : sg_M → Prop} (hf : fX3_pass s0 o x1 x2 Q) : sg_C l G yX3_pass cX3_pass 3 (none) 1 0 0 La s0 [sg_r o, sg_i x1, sg_i x2] (sg_HV La Q) := by
  refine sg_body (by decide +kernel) (Nat.le_of_ble_eq_true rfl) ?_
  intro p e s m args below meth c F hnm
  unfold fX3_pass at hf
  show sg_W p l e (sg_rm 1 0 0) s m args below meth c (MQ below (sg_Q (none) G La s.heap.size (sg_HV La Q)) args s 0 0 (sg_A La s.heap.size)) 3 G (sg_A La s.heap.size) La s0 0 0 0 [(0, sg_r o), (1, sg_i x1), (2, sg_i x2)] []
  refine gw_aload_n F 0 rfl rfl to.1 dX3_pass_0 ?_
  refine gw_get0 F to (by decide) rfl sg_lay_RX3 (j := 2) (by decide) rfl (host := "") (.inl kw_180) dX3_pass_1 (fun h1 => ?_)
  refine gw_if_lt F (tgt := 47) dX3_pass_4 (by decide) h1 (fun c2 => ?_) (fun c2 => ?_)
  · have hf := hf.1 c2
    exact gr_HV F hf (by decide) (by decide) dX3_pass_47
  · have hf := hf.2 c2
    refine gw_aload_n F 0 rfl rfl to.1 dX3_pass_7 ?_
    refine gw_get0 F to (by decide) rfl sg_lay_RX3 (j := 2) (by decide) rfl (host := "") (.inl kw_180) dX3_pass_8 (fun h3 => ?_)
    refine gw_sipush F rfl dX3_pass_11 ?_
    refine gw_icmp_ge F (tgt := 47) dX3_pass_14 (by decide) h3 (by decide) (fun c4 => ?_) (fun c4 => ?_)
    · have hf := hf.1 c4
      exact gr_HV F hf (by decide) (by decide) dX3_pass_47
    · have hf := hf.2 c4
      refine gw_aload_n F 0 rfl rfl to.1 dX3_pass_17 ?_
      refine gw_get3 F to (by decide) rfl sg_lay_RX3 (j := 0) (by decide) (o1 := (o + 1)) (by first | rfl | omega) rfl (host := "") (.inl kw_178) dX3_pass_18 (fun h5 => ?_)
      refine gw_aload_n F 0 rfl rfl to.1 dX3_pass_21 ?_
      refine gw_get0 F to (by decide) rfl sg_lay_RX3 (j := 2) (by decide) rfl (host := "") (.inl kw_180) dX3_pass_22 (fun h6 => ?_)
      refine gw_iload_n F 1 rfl rfl dX3_pass_25 ?_
      obtain ⟨⟨b70, b71⟩, hf⟩ := hf
      obtain ⟨s8, e9⟩ : ∃ z : sg_M, z = sg_up s0 (o + 1) (s0 o 2) x1 := ⟨_, rfl⟩
      have hf := hf s8 e9
      refine gw_iast F (sg_AN_of (sg_O_of h5 (by decide)) (by decide) (by decide) (by decide)) b70 b71 r1 e9 dX3_pass_26 ?_
      refine gw_aload_n F 0 rfl rfl to.1 dX3_pass_27 ?_
      refine gw_get3 F to (by decide) rfl sg_lay_RX3 (j := 1) (by decide) (o1 := (o + 2)) (by first | rfl | omega) rfl (host := "") (.inl kw_179) dX3_pass_28 (fun h10 => ?_)
      refine gw_aload_n F 0 rfl rfl to.1 dX3_pass_31 ?_
      refine gw_get0 F to (by decide) rfl sg_lay_RX3 (j := 2) (by decide) rfl (host := "") (.inl kw_180) dX3_pass_32 (fun h11 => ?_)
      refine gw_iload_n F 2 rfl rfl dX3_pass_35 ?_
      obtain ⟨⟨b120, b121⟩, hf⟩ := hf
      obtain ⟨s13, e14⟩ : ∃ z : sg_M, z = sg_up s8 (o + 2) (s8 o 2) x2 := ⟨_, rfl⟩
      have hf := hf s13 e14
      refine gw_iast F (sg_AN_of (sg_O_of h10 (by decide)) (by decide) (by decide) (by decide)) b120 b121 r2 e14 dX3_pass_36 ?_
      refine gw_aload_n F 0 rfl rfl to.1 dX3_pass_37 ?_
      refine gw_dup F rfl dX3_pass_38 ?_
      refine gw_get0 F to (by decide) rfl sg_lay_RX3 (j := 2) (by decide) rfl (host := "") (.inl kw_180) dX3_pass_39 (fun h15 => ?_)
      refine gw_iconst F dX3_pass_42 ?_
      refine gw_iadd F rfl dX3_pass_43 ?_
      obtain ⟨g16, hf⟩ := hf
      obtain ⟨s17, e18⟩ : ∃ z : sg_M, z = sg_up s13 o 2 ((s13 o 2) + 1) := ⟨_, rfl⟩
      have hf := hf s17 e18
      refine gw_put0 F to (by decide) rfl sg_lay_RX3 (j := 2) (by decide) g16 e18 tyX3_ok nmX3 rfl (tyX3_ok 2 (by decide)) rfl (host := "") (.inl kw_180) dX3_pass_44 ?_
      exact gr_HV F hf (by decide) (by decide) dX3_pass_47

theorem dX3_move_0 : decode cX3_move 0 = .ok (.iload_n 3, 1) := by decide +kernel
theorem dX3_move_1 : decode cX3_move 1 = .ok (.iconst 1, 1) := by decide +kernel
theorem dX3_move_2 : decode cX3_move 2 = .ok (.if_icmp .ge 4, 3) := by decide +kernel
theorem dX3_move_5 : decode cX3_move 5 = .ok (.return_, 1) := by decide +kernel
theorem dX3_move_6 : decode cX3_move 6 = .ok (.iconst 1, 1) := by decide +kernel
theorem dX3_move_7 : decode cX3_move 7 = .ok (.istore 4, 2) := by decide +kernel
theorem dX3_move_9 : decode cX3_move 9 = .ok (.iload 4, 2) := by decide +kernel
theorem dX3_move_11 : decode cX3_move 11 = .ok (.iload_n 3, 1) := by decide +kernel
theorem dX3_move_12 : decode cX3_move 12 = .ok (.if_icmp .gt 45, 3) := by decide +kernel
theorem dX3_move_15 : decode cX3_move 15 = .ok (.aload_n 0, 1) := by decide +kernel
theorem dX3_move_16 : decode cX3_move 16 = .ok (.aload_n 0, 1) := by decide +kernel
theorem dX3_move_17 : decode cX3_move 17 = .ok (.getfield 22, 3) := by decide +kernel
theorem dX3_move_20 : decode cX3_move 20 = .ok (.iload_n 1, 1) := by decide +kernel
theorem dX3_move_21 : decode cX3_move 21 = .ok (.aload_n 0, 1) := by decide +kernel
theorem dX3_move_22 : decode cX3_move 22 = .ok (.getfield 22, 3) := by decide +kernel
theorem dX3_move_25 : decode cX3_move 25 = .ok (.isub, 1) := by decide +kernel
theorem dX3_move_26 : decode cX3_move 26 = .ok (.iload 4, 2) := by decide +kernel
theorem dX3_move_28 : decode cX3_move 28 = .ok (.imul, 1) := by decide +kernel
theorem dX3_move_29 : decode cX3_move 29 = .ok (.iload_n 3, 1) := by decide +kernel
theorem dX3_move_30 : decode cX3_move 30 = .ok (.idiv, 1) := by decide +kernel
theorem dX3_move_31 : decode cX3_move 31 = .ok (.iadd, 1) := by decide +kernel
theorem dX3_move_32 : decode cX3_move 32 = .ok (.aload_n 0, 1) := by decide +kernel
theorem dX3_move_33 : decode cX3_move 33 = .ok (.getfield 25, 3) := by decide +kernel
theorem dX3_move_36 : decode cX3_move 36 = .ok (.iload_n 2, 1) := by decide +kernel
theorem dX3_move_37 : decode cX3_move 37 = .ok (.aload_n 0, 1) := by decide +kernel
theorem dX3_move_38 : decode cX3_move 38 = .ok (.getfield 25, 3) := by decide +kernel
theorem dX3_move_41 : decode cX3_move 41 = .ok (.isub, 1) := by decide +kernel
theorem dX3_move_42 : decode cX3_move 42 = .ok (.iload 4, 2) := by decide +kernel
theorem dX3_move_44 : decode cX3_move 44 = .ok (.imul, 1) := by decide +kernel
theorem dX3_move_45 : decode cX3_move 45 = .ok (.iload_n 3, 1) := by decide +kernel
theorem dX3_move_46 : decode cX3_move 46 = .ok (.idiv, 1) := by decide +kernel
theorem dX3_move_47 : decode cX3_move 47 = .ok (.iadd, 1) := by decide +kernel
theorem dX3_move_48 : decode cX3_move 48 = .ok (.invokevirtual 86, 3) := by decide +kernel
theorem dX3_move_51 : decode cX3_move 51 = .ok (.iinc 4 1, 3) := by decide +kernel
theorem dX3_move_54 : decode cX3_move 54 = .ok (.goto (-45), 3) := by decide +kernel
theorem dX3_move_57 : decode cX3_move 57 = .ok (.aload_n 0, 1) := by decide +kernel
theorem dX3_move_58 : decode cX3_move 58 = .ok (.iload_n 1, 1) := by decide +kernel
theorem dX3_move_59 : decode cX3_move 59 = .ok (.putfield 22, 3) := by decide +kernel
theorem dX3_move_62 : decode cX3_move 62 = .ok (.aload_n 0, 1) := by decide +kernel
theorem dX3_move_63 : decode cX3_move 63 = .ok (.iload_n 2, 1) := by decide +kernel
theorem dX3_move_64 : decode cX3_move 64 = .ok (.putfield 25, 3) := by decide +kernel
theorem dX3_move_67 : decode cX3_move 67 = .ok (.return_, 1) := by decide +kernel
theorem hcX3_move : yX3_move.cls ≠ "java/lang/invoke/MethodHandle" ∧ yX3_move.cls ≠ "java/lang/invoke/VarHandle" ∧ (parseMethodDescriptor yX3_move.desc).map (fun d => d.parameters.length) = some 3 := ⟨by decide +kernel, by decide +kernel, by decide +kernel⟩
def fX3_move_L9 (o : Int) (x1 : Int) (x2 : Int) (x3 : Int) (Q : sg_M → Prop) : Nat → sg_M → Int → Prop
  | 0, _, _ => False
  | n_9 + 1, s_9, x4_9 => ((x3 < x4_9 → ∀ s3 : sg_M, s3 = sg_up s_9 o 3 x1 → ∀ s5 : sg_M, s5 = sg_up s3 o 4 x2 → Q s5) ∧ (¬ (x3 < x4_9) → sg_R ((x1 - (s_9 o 3)) * x4_9) ∧ (x3 ≠ 0) ∧ sg_R ((x2 - (s_9 o 4)) * x4_9) ∧ (x3 ≠ 0) ∧ sg_R ((s_9 o 3) + (Int.tdiv ((x1 - (s_9 o 3)) * x4_9) x3)) ∧ sg_R ((s_9 o 4) + (Int.tdiv ((x2 - (s_9 o 4)) * x4_9) x3)) ∧ fX3_pass s_9 o ((s_9 o 3) + (Int.tdiv ((x1 - (s_9 o 3)) * x4_9) x3)) ((s_9 o 4) + (Int.tdiv ((x2 - (s_9 o 4)) * x4_9) x3)) (fun s17 => sg_R (x4_9 + 1) ∧ (fX3_move_L9 o x1 x2 x3 Q n_9) s17 (x4_9 + 1))))
def fX3_move (s0 : sg_M) (o : Int) (x1 : Int) (x2 : Int) (x3 : Int) (Q : sg_M → Prop) : Prop := ((1 ≤ x3 → (∃ n19 : Nat, fX3_move_L9 o x1 x2 x3 Q n19 s0 1)) ∧ (¬ (1 ≤ x3) → Q s0))
set_option maxHeartbeats 4000000 in
set_option maxRecDepth 100000 in
theorem CX3_move {l : Launch} {G : sg_G} {La : sg_L} {s0 : sg_M} {o : Int} (to : sg_O La o 3) {x1 : Int} (r1 : sg_R x1) {x2 : Int} (r2 : sg_R x2) {x3 : Int} (r3 : sg_R x3) {Q : sg_M → Prop} (hf : fX3_move s0 o x1 x2 x3 Q) : sg_C l G yX3_move cX3_move 5 (none) 2 0 0 La s0 [sg_r o, sg_i x1, sg_i x2, sg_i x3] (sg_HV La Q) := by
  refine sg_body (by decide +kernel) (Nat.le_of_ble_eq_true rfl) ?_
  intro p e s m args below meth c F hnm
  unfold fX3_move at hf
  show sg_W p l e (sg_rm 2 0 0) s m args below meth c (MQ below (sg_Q (none) G La s.heap.size (sg_HV La Q)) args s 0 0 (sg_A La s.heap.size)) 5 G (sg_A La s.heap.size) La s0 0 0 0 [(0, sg_r o), (1, sg_i x1), (2, sg_i x2), (3, sg_i x3)] []
  refine gw_iload_n F 3 rfl rfl dX3_move_0 ?_
  refine gw_iconst F dX3_move_1 ?_
  refine gw_icmp_ge F (tgt := 6) dX3_move_2 (by decide) r3 (by decide) (fun c1 => ?_) (fun c1 => ?_)
  · have hf := hf.1 c1
    refine gw_iconst F dX3_move_6 ?_
    refine gw_istore F (by decide) rfl dX3_move_7 ?_
    have L9 : ∀ n_9 : Nat, ∀ (s_9 : sg_M) (x4_9 : Int), sg_R x4_9 → fX3_move_L9 o x1 x2 x3 Q n_9 s_9 x4_9 → sg_W p l e (sg_rm 2 0 0) s m args below meth c (MQ below (sg_Q (none) G La s.heap.size (sg_HV La Q)) args s 0 0 (sg_A La s.heap.size)) 5 G (sg_A La s.heap.size) La s_9 0 0 9 [(0, sg_r o), (1, sg_i x1), (2, sg_i x2), (3, sg_i x3), (4, sg_i x4_9)] [] := by
      intro n_9
      induction n_9 with
      | zero => intro s_9 x4_9 r4_9 hf; exact hf.elim
      | succ n_9 ih =>
        intro s_9 x4_9 r4_9 hf
        unfold fX3_move_L9 at hf
        refine gw_iload F 4 rfl dX3_move_9 ?_
        refine gw_iload_n F 3 rfl rfl dX3_move_11 ?_
        refine gw_icmp_gt F (tgt := 57) dX3_move_12 (by decide) r4_9 r3 (fun c2 => ?_) (fun c2 => ?_)
        · have hf := hf.1 c2
          refine gw_aload_n F 0 rfl rfl to.1 dX3_move_57 ?_
          refine gw_iload_n F 1 rfl rfl dX3_move_58 ?_
          obtain ⟨s3, e4⟩ : ∃ z : sg_M, z = sg_up s_9 o 3 x1 := ⟨_, rfl⟩
          have hf := hf s3 e4
          refine gw_put0 F to (by decide) rfl sg_lay_RX3 (j := 3) (by decide) r1 e4 tyX3_ok nmX3 rfl (tyX3_ok 3 (by decide)) rfl (host := "") (.inl kw_182) dX3_move_59 ?_
          refine gw_aload_n F 0 rfl rfl to.1 dX3_move_62 ?_
          refine gw_iload_n F 2 rfl rfl dX3_move_63 ?_
          obtain ⟨s5, e6⟩ : ∃ z : sg_M, z = sg_up s3 o 4 x2 := ⟨_, rfl⟩
          have hf := hf s5 e6
          refine gw_put0 F to (by decide) rfl sg_lay_RX3 (j := 4) (by decide) r2 e6 tyX3_ok nmX3 rfl (tyX3_ok 4 (by decide)) rfl (host := "") (.inl kw_183) dX3_move_64 ?_
          exact gr_HV F hf (by decide) (by decide) dX3_move_67
        · have hf := hf.2 c2
          refine gw_aload_n F 0 rfl rfl to.1 dX3_move_15 ?_
          refine gw_aload_n F 0 rfl rfl to.1 dX3_move_16 ?_
          refine gw_get0 F to (by decide) rfl sg_lay_RX3 (j := 3) (by decide) rfl (host := "") (.inl kw_182) dX3_move_17 (fun h7 => ?_)
          refine gw_iload_n F 1 rfl rfl dX3_move_20 ?_
          refine gw_aload_n F 0 rfl rfl to.1 dX3_move_21 ?_
          refine gw_get0 F to (by decide) rfl sg_lay_RX3 (j := 3) (by decide) rfl (host := "") (.inl kw_182) dX3_move_22 (fun h8 => ?_)
          refine gw_isub F rfl dX3_move_25 ?_
          refine gw_iload F 4 rfl dX3_move_26 ?_
          refine gw_imul F rfl dX3_move_28 ?_
          refine gw_iload_n F 3 rfl rfl dX3_move_29 ?_
          obtain ⟨g9, hf⟩ := hf
          obtain ⟨g10, hf⟩ := hf
          refine gw_idiv F g9 r3 g10 rfl dX3_move_30 ?_
          refine gw_iadd F rfl dX3_move_31 ?_
          refine gw_aload_n F 0 rfl rfl to.1 dX3_move_32 ?_
          refine gw_get0 F to (by decide) rfl sg_lay_RX3 (j := 4) (by decide) rfl (host := "") (.inl kw_183) dX3_move_33 (fun h11 => ?_)
          refine gw_iload_n F 2 rfl rfl dX3_move_36 ?_
          refine gw_aload_n F 0 rfl rfl to.1 dX3_move_37 ?_
          refine gw_get0 F to (by decide) rfl sg_lay_RX3 (j := 4) (by decide) rfl (host := "") (.inl kw_183) dX3_move_38 (fun h12 => ?_)
          refine gw_isub F rfl dX3_move_41 ?_
          refine gw_iload F 4 rfl dX3_move_42 ?_
          refine gw_imul F rfl dX3_move_44 ?_
          refine gw_iload_n F 3 rfl rfl dX3_move_45 ?_
          obtain ⟨g13, hf⟩ := hf
          obtain ⟨g14, hf⟩ := hf
          refine gw_idiv F g13 r3 g14 rfl dX3_move_46 ?_
          refine gw_iadd F rfl dX3_move_47 ?_
          obtain ⟨g15, hf⟩ := hf
          obtain ⟨g16, hf⟩ := hf
          refine gk_HV F (gc_V F (S := []) (As := [sg_i ((s_9 o 3) + (Int.tdiv ((x1 - (s_9 o 3)) * x4_9) x3)), sg_i ((s_9 o 4) + (Int.tdiv ((x2 - (s_9 o 4)) * x4_9) x3))]) (T := TX3) (N := 5) (CX3_pass to g15 g16 hf) to (by decide) rfl kw_629 kw_95 kw_627 kw_628 kw_17 hcX3_pass ⟨by decide, by decide⟩ rfl rfl (Nat.le_of_ble_eq_true rfl) ⟨by decide, by decide⟩ dX3_move_48) (fun s17 hf => ?_)
          refine gw_iinc F (z := (x4_9 + 1)) 4 rfl (by omega) (by decide) rfl dX3_move_51 ?_
          refine gw_goto F (tgt := 9) dX3_move_54 (by decide) ?_
          obtain ⟨g18, hf⟩ := hf
          refine gw_sub [1, 2, 3, 4, 0] rfl ?_
          exact ih s17 (x4_9 + 1) g18 hf
    obtain ⟨n19, hf⟩ := hf
    refine gw_sub [1, 2, 3, 4, 0] rfl ?_
    refine L9   n19 s0 1 (by decide) hf
  · have hf := hf.2 c1
    exact gr_HV F hf (by decide) (by decide) dX3_move_5

theorem dX3_readTicks_0 : decode cX3_readTicks 0 = .ok (.aload_n 1, 1) := by decide +kernel
theorem dX3_readTicks_1 : decode cX3_readTicks 1 = .ok (.iconst 1, 1) := by decide +kernel
theorem dX3_readTicks_2 : decode cX3_readTicks 2 = .ok (.bipush 99, 2) := by decide +kernel
theorem dX3_readTicks_4 : decode cX3_readTicks 4 = .ok (.sipush 200, 3) := by decide +kernel
theorem dX3_readTicks_7 : decode cX3_readTicks 7 = .ok (.aload_n 0, 1) := by decide +kernel
theorem dX3_readTicks_8 : decode cX3_readTicks 8 = .ok (.getfield 18, 3) := by decide +kernel
theorem dX3_readTicks_11 : decode cX3_readTicks 11 = .ok (.isub, 1) := by decide +kernel
theorem dX3_readTicks_12 : decode cX3_readTicks 12 = .ok (.invokevirtual 52, 3) := by decide +kernel
theorem dX3_readTicks_15 : decode cX3_readTicks 15 = .ok (.ireturn, 1) := by decide +kernel
theorem hcX3_readTicks : yX3_readTicks.cls ≠ "java/lang/invoke/MethodHandle" ∧ yX3_readTicks.cls ≠ "java/lang/invoke/VarHandle" ∧ (parseMethodDescriptor yX3_readTicks.desc).map (fun d => d.parameters.length) = some 1 := ⟨by decide +kernel, by decide +kernel, by decide +kernel⟩
def fX3_readTicks (s0 : sg_M) (o : Int) (Q : Int → sg_M → Prop) : Prop := sg_R (200 - (s0 o 2)) ∧ fX9_number s0 1 99 (200 - (s0 o 2)) (fun u3 s5 => Q u3 s5)
set_option maxHeartbeats 4000000 in
set_option maxRecDepth 100000 in
theorem CX3_readTicks {l : Launch} {G : sg_G} {La : sg_L} {s0 : sg_M} (hst : sg_St La) {o : Int} (to : sg_O La o 3) {Q : Int → sg_M → Prop} (hf : fX3_readTicks s0 o Q) : sg_C l G yX3_readTicks cX3_readTicks 2 (some .int) 4 0 0 La s0 [sg_r o, sg_r 3] (sg_HI La Q) := by
  refine sg_body (by decide +kernel) (Nat.le_of_ble_eq_true rfl) ?_
  intro p e s m args below meth c F hnm
  unfold fX3_readTicks at hf
  show sg_W p l e (sg_rm 4 0 0) s m args below meth c (MQ below (sg_Q (some .int) G La s.heap.size (sg_HI La Q)) args s 0 0 (sg_A La s.heap.size)) 2 G (sg_A La s.heap.size) La s0 0 0 0 [(0, sg_r o), (1, sg_r 3)] []
  refine gw_aload_n F 1 rfl rfl (by decide) dX3_readTicks_0 ?_
  refine gw_iconst F dX3_readTicks_1 ?_
  refine gw_bipush F rfl dX3_readTicks_2 ?_
  refine gw_sipush F rfl dX3_readTicks_4 ?_
  refine gw_aload_n F 0 rfl rfl to.1 dX3_readTicks_7 ?_
  refine gw_get0 F to (by decide) rfl sg_lay_RX3 (j := 2) (by decide) rfl (host := "") (.inl kw_180) dX3_readTicks_8 (fun h1 => ?_)
  refine gw_isub F rfl dX3_readTicks_11 ?_
  obtain ⟨g2, hf⟩ := hf
  refine gk_HI F (gc_V F (S := []) (As := [sg_i 1, sg_i 99, sg_i (200 - (s0 o 2))]) (T := TX9) (N := 8) (CX9_number hst (by decide) (by decide) g2 hf) (so_3 hst) (by decide) rfl kw_453 kw_92 kw_614 kw_451 kw_452 hcX9_number ⟨by decide, by decide⟩ rfl rfl (Nat.le_of_ble_eq_true rfl) ⟨by decide, by decide⟩ dX3_readTicks_12) (fun u3 s5 h4 hf => ?_)
  exact gr_HI F h4 hf (by decide) (by decide) dX3_readTicks_15

theorem dX3_shake_0 : decode cX3_shake 0 = .ok (.iconst 1, 1) := by decide +kernel
theorem dX3_shake_1 : decode cX3_shake 1 = .ok (.istore_n 3, 1) := by decide +kernel
theorem dX3_shake_2 : decode cX3_shake 2 = .ok (.iload_n 3, 1) := by decide +kernel
theorem dX3_shake_3 : decode cX3_shake 3 = .ok (.iload_n 2, 1) := by decide +kernel
theorem dX3_shake_4 : decode cX3_shake 4 = .ok (.if_icmp .gt 57, 3) := by decide +kernel
theorem dX3_shake_7 : decode cX3_shake 7 = .ok (.iconst 0, 1) := by decide +kernel
theorem dX3_shake_8 : decode cX3_shake 8 = .ok (.istore 4, 2) := by decide +kernel
theorem dX3_shake_10 : decode cX3_shake 10 = .ok (.iload_n 3, 1) := by decide +kernel
theorem dX3_shake_11 : decode cX3_shake 11 = .ok (.iconst 4, 1) := by decide +kernel
theorem dX3_shake_12 : decode cX3_shake 12 = .ok (.irem, 1) := by decide +kernel
theorem dX3_shake_13 : decode cX3_shake 13 = .ok (.iconst 1, 1) := by decide +kernel
theorem dX3_shake_14 : decode cX3_shake 14 = .ok (.if_icmp .ne 9, 3) := by decide +kernel
theorem dX3_shake_17 : decode cX3_shake 17 = .ok (.iload_n 1, 1) := by decide +kernel
theorem dX3_shake_18 : decode cX3_shake 18 = .ok (.istore 4, 2) := by decide +kernel
theorem dX3_shake_20 : decode cX3_shake 20 = .ok (.goto 14, 3) := by decide +kernel
theorem dX3_shake_23 : decode cX3_shake 23 = .ok (.iload_n 3, 1) := by decide +kernel
theorem dX3_shake_24 : decode cX3_shake 24 = .ok (.iconst 4, 1) := by decide +kernel
theorem dX3_shake_25 : decode cX3_shake 25 = .ok (.irem, 1) := by decide +kernel
theorem dX3_shake_26 : decode cX3_shake 26 = .ok (.iconst 3, 1) := by decide +kernel
theorem dX3_shake_27 : decode cX3_shake 27 = .ok (.if_icmp .ne 7, 3) := by decide +kernel
theorem dX3_shake_30 : decode cX3_shake 30 = .ok (.iload_n 1, 1) := by decide +kernel
theorem dX3_shake_31 : decode cX3_shake 31 = .ok (.ineg, 1) := by decide +kernel
theorem dX3_shake_32 : decode cX3_shake 32 = .ok (.istore 4, 2) := by decide +kernel
theorem dX3_shake_34 : decode cX3_shake 34 = .ok (.aload_n 0, 1) := by decide +kernel
theorem dX3_shake_35 : decode cX3_shake 35 = .ok (.aload_n 0, 1) := by decide +kernel
theorem dX3_shake_36 : decode cX3_shake 36 = .ok (.getfield 22, 3) := by decide +kernel
theorem dX3_shake_39 : decode cX3_shake 39 = .ok (.aload_n 0, 1) := by decide +kernel
theorem dX3_shake_40 : decode cX3_shake 40 = .ok (.getfield 25, 3) := by decide +kernel
theorem dX3_shake_43 : decode cX3_shake 43 = .ok (.iload 4, 2) := by decide +kernel
theorem dX3_shake_45 : decode cX3_shake 45 = .ok (.iadd, 1) := by decide +kernel
theorem dX3_shake_46 : decode cX3_shake 46 = .ok (.sipush 9999, 3) := by decide +kernel
theorem dX3_shake_49 : decode cX3_shake 49 = .ok (.invokestatic 89, 3) := by decide +kernel
theorem dX3_shake_52 : decode cX3_shake 52 = .ok (.invokevirtual 86, 3) := by decide +kernel
theorem dX3_shake_55 : decode cX3_shake 55 = .ok (.iinc 3 1, 3) := by decide +kernel
theorem dX3_shake_58 : decode cX3_shake 58 = .ok (.goto (-56), 3) := by decide +kernel
theorem dX3_shake_61 : decode cX3_shake 61 = .ok (.return_, 1) := by decide +kernel
theorem hcX3_shake : yX3_shake.cls ≠ "java/lang/invoke/MethodHandle" ∧ yX3_shake.cls ≠ "java/lang/invoke/VarHandle" ∧ (parseMethodDescriptor yX3_shake.desc).map (fun d => d.parameters.length) = some 2 := ⟨by decide +kernel, by decide +kernel, by decide +kernel⟩
def fX3_shake_j34 (o : Int) (s_2 : sg_M) (x3_2 : Int) (k2 : sg_M → Int → Prop) (x4_34 : Int) : Prop := sg_R ((s_2 o 4) + x4_34) ∧ fX11_within ((s_2 o 4) + x4_34) 9999 (fun u5 => fX3_pass s_2 o (s_2 o 3) u5 (fun s7 => sg_R (x3_2 + 1) ∧ k2 s7 (x3_2 + 1)))
def fX3_shake_L2 (o : Int) (x1 : Int) (x2 : Int) (Q : sg_M → Prop) : Nat → sg_M → Int → Prop
  | 0, _, _ => False
  | n_2 + 1, s_2, x3_2 => ((x2 < x3_2 → Q s_2) ∧ (¬ (x2 < x3_2) → sg_R (Int.tmod x3_2 4) ∧ (((Int.tmod x3_2 4) ≠ 1 → sg_R (Int.tmod x3_2 4) ∧ (((Int.tmod x3_2 4) ≠ 3 → (fX3_shake_j34 o s_2 x3_2 (fX3_shake_L2 o x1 x2 Q n_2)) 0) ∧ ((Int.tmod x3_2 4) = 3 → sg_R (-x1) ∧ (fX3_shake_j34 o s_2 x3_2 (fX3_shake_L2 o x1 x2 Q n_2)) (-x1)))) ∧ ((Int.tmod x3_2 4) = 1 → (fX3_shake_j34 o s_2 x3_2 (fX3_shake_L2 o x1 x2 Q n_2)) x1))))
def fX3_shake (s0 : sg_M) (o : Int) (x1 : Int) (x2 : Int) (Q : sg_M → Prop) : Prop := (∃ n14 : Nat, fX3_shake_L2 o x1 x2 Q n14 s0 1)
set_option maxHeartbeats 4000000 in
set_option maxRecDepth 100000 in
theorem CX3_shake {l : Launch} {G : sg_G} {La : sg_L} {s0 : sg_M} {o : Int} (to : sg_O La o 3) {x1 : Int} (r1 : sg_R x1) {x2 : Int} (r2 : sg_R x2) {Q : sg_M → Prop} (hf : fX3_shake s0 o x1 x2 Q) : sg_C l G yX3_shake cX3_shake 5 (none) 2 0 0 La s0 [sg_r o, sg_i x1, sg_i x2] (sg_HV La Q) := by
  refine sg_body (by decide +kernel) (Nat.le_of_ble_eq_true rfl) ?_
  intro p e s m args below meth c F hnm
  unfold fX3_shake at hf
  show sg_W p l e (sg_rm 2 0 0) s m args below meth c (MQ below (sg_Q (none) G La s.heap.size (sg_HV La Q)) args s 0 0 (sg_A La s.heap.size)) 5 G (sg_A La s.heap.size) La s0 0 0 0 [(0, sg_r o), (1, sg_i x1), (2, sg_i x2)] []
  refine gw_iconst F dX3_shake_0 ?_
  refine gw_istore_n F rfl (by decide) rfl dX3_shake_1 ?_
  have L2 : ∀ n_2 : Nat, ∀ (s_2 : sg_M) (x3_2 : Int), sg_R x3_2 → fX3_shake_L2 o x1 x2 Q n_2 s_2 x3_2 → sg_W p l e (sg_rm 2 0 0) s m args below meth c (MQ below (sg_Q (none) G La s.heap.size (sg_HV La Q)) args s 0 0 (sg_A La s.heap.size)) 5 G (sg_A La s.heap.size) La s_2 0 0 2 [(0, sg_r o), (1, sg_i x1), (2, sg_i x2), (3, sg_i x3_2)] [] := by
    intro n_2
    induction n_2 with
    | zero => intro s_2 x3_2 r3_2 hf; exact hf.elim
    | succ n_2 ih =>
      intro s_2 x3_2 r3_2 hf
      unfold fX3_shake_L2 at hf
      refine gw_iload_n F 3 rfl rfl dX3_shake_2 ?_
      refine gw_iload_n F 2 rfl rfl dX3_shake_3 ?_
      refine gw_icmp_gt F (tgt := 61) dX3_shake_4 (by decide) r3_2 r2 (fun c1 => ?_) (fun c1 => ?_)
      · have hf := hf.1 c1
        exact gr_HV F hf (by decide) (by decide) dX3_shake_61
      · have hf := hf.2 c1
        refine gw_iconst F dX3_shake_7 ?_
        refine gw_istore F (by decide) rfl dX3_shake_8 ?_
        refine gw_iload_n F 4 rfl rfl dX3_shake_10 ?_
        refine gw_iconst F dX3_shake_11 ?_
        refine gw_irem F r3_2 (by decide) (by decide) rfl dX3_shake_12 ?_
        refine gw_iconst F dX3_shake_13 ?_
        have J34 : ∀ (x4_34 : Int), sg_R x4_34 → (fX3_shake_j34 o s_2 x3_2 (fX3_shake_L2 o x1 x2 Q n_2)) x4_34 → sg_W p l e (sg_rm 2 0 0) s m args below meth c (MQ below (sg_Q (none) G La s.heap.size (sg_HV La Q)) args s 0 0 (sg_A La s.heap.size)) 5 G (sg_A La s.heap.size) La s_2 0 0 34 [(0, sg_r o), (1, sg_i x1), (2, sg_i x2), (3, sg_i x3_2), (4, sg_i x4_34)] [] := by
          intro x4_34 r4_34 hf
          unfold fX3_shake_j34 at hf
          refine gw_aload_n F 0 rfl rfl to.1 dX3_shake_34 ?_
          refine gw_aload_n F 0 rfl rfl to.1 dX3_shake_35 ?_
          refine gw_get0 F to (by decide) rfl sg_lay_RX3 (j := 3) (by decide) rfl (host := "") (.inl kw_182) dX3_shake_36 (fun h2 => ?_)
          refine gw_aload_n F 0 rfl rfl to.1 dX3_shake_39 ?_
          refine gw_get0 F to (by decide) rfl sg_lay_RX3 (j := 4) (by decide) rfl (host := "") (.inl kw_183) dX3_shake_40 (fun h3 => ?_)
          refine gw_iload F 4 rfl dX3_shake_43 ?_
          refine gw_iadd F rfl dX3_shake_45 ?_
          refine gw_sipush F rfl dX3_shake_46 ?_
          obtain ⟨g4, hf⟩ := hf
          refine gk_PI F (gc_SN F (S := [sg_i (s_2 o 3), sg_r o]) (As := [sg_i ((s_2 o 4) + x4_34), sg_i 9999]) (CX11_within g4 (by decide) hf) kw_521 kw_90 kw_633 kw_520 hcX11_within ⟨by decide, by decide⟩ rfl rfl (Nat.le_of_ble_eq_true rfl) ⟨by decide, by decide⟩ dX3_shake_49) (fun u5 h6 hf => ?_)
          refine gk_HV F (gc_V F (S := []) (As := [sg_i (s_2 o 3), sg_i u5]) (T := TX3) (N := 5) (CX3_pass to h2 h6 hf) to (by decide) rfl kw_629 kw_95 kw_627 kw_628 kw_17 hcX3_pass ⟨by decide, by decide⟩ rfl rfl (Nat.le_of_ble_eq_true rfl) ⟨by decide, by decide⟩ dX3_shake_52) (fun s7 hf => ?_)
          refine gw_iinc F (z := (x3_2 + 1)) 3 rfl (by omega) (by decide) rfl dX3_shake_55 ?_
          refine gw_goto F (tgt := 2) dX3_shake_58 (by decide) ?_
          obtain ⟨g8, hf⟩ := hf
          refine gw_sub [1, 2, 3, 0] rfl ?_
          exact ih s7 (x3_2 + 1) g8 hf
        obtain ⟨g9, hf⟩ := hf
        refine gw_icmp_ne F (tgt := 23) dX3_shake_14 (by decide) g9 (by decide) (fun c10 => ?_) (fun c10 => ?_)
        · have hf := hf.1 c10
          refine gw_iload_n F 4 rfl rfl dX3_shake_23 ?_
          refine gw_iconst F dX3_shake_24 ?_
          refine gw_irem F r3_2 (by decide) (by decide) rfl dX3_shake_25 ?_
          refine gw_iconst F dX3_shake_26 ?_
          obtain ⟨g11, hf⟩ := hf
          refine gw_icmp_ne F (tgt := 34) dX3_shake_27 (by decide) g11 (by decide) (fun c12 => ?_) (fun c12 => ?_)
          · have hf := hf.1 c12
            refine gw_sub [1, 2, 3, 4, 0] rfl ?_
            exact J34 0 (by decide) hf
          · have hf := hf.2 c12
            refine gw_iload_n F 2 rfl rfl dX3_shake_30 ?_
            refine gw_ineg F rfl dX3_shake_31 ?_
            refine gw_istore F (by decide) rfl dX3_shake_32 ?_
            obtain ⟨g13, hf⟩ := hf
            refine gw_sub [1, 2, 3, 4, 0] rfl ?_
            exact J34 (-x1) g13 hf
        · have hf := hf.2 c10
          refine gw_iload_n F 2 rfl rfl dX3_shake_17 ?_
          refine gw_istore F (by decide) rfl dX3_shake_18 ?_
          refine gw_goto F (tgt := 34) dX3_shake_20 (by decide) ?_
          refine gw_sub [1, 2, 3, 4, 0] rfl ?_
          exact J34 x1 r1 hf
  obtain ⟨n14, hf⟩ := hf
  refine gw_sub [1, 2, 3, 0] rfl ?_
  refine L2   n14 s0 1 (by decide) hf

theorem dX9_isWord_0 : decode cX9_isWord 0 = .ok (.aload_n 0, 1) := by decide +kernel
theorem dX9_isWord_1 : decode cX9_isWord 1 = .ok (.getfield 25, 3) := by decide +kernel
theorem dX9_isWord_4 : decode cX9_isWord 4 = .ok (.ifCond .ne 27, 3) := by decide +kernel
theorem dX9_isWord_7 : decode cX9_isWord 7 = .ok (.aload_n 0, 1) := by decide +kernel
theorem dX9_isWord_8 : decode cX9_isWord 8 = .ok (.getfield 13, 3) := by decide +kernel
theorem dX9_isWord_11 : decode cX9_isWord 11 = .ok (.iconst 1, 1) := by decide +kernel
theorem dX9_isWord_12 : decode cX9_isWord 12 = .ok (.if_icmp .ne 19, 3) := by decide +kernel
theorem dX9_isWord_15 : decode cX9_isWord 15 = .ok (.aload_n 0, 1) := by decide +kernel
theorem dX9_isWord_16 : decode cX9_isWord 16 = .ok (.getfield 19, 3) := by decide +kernel
theorem dX9_isWord_19 : decode cX9_isWord 19 = .ok (.aload_n 0, 1) := by decide +kernel
theorem dX9_isWord_20 : decode cX9_isWord 20 = .ok (.getfield 16, 3) := by decide +kernel
theorem dX9_isWord_23 : decode cX9_isWord 23 = .ok (.isub, 1) := by decide +kernel
theorem dX9_isWord_24 : decode cX9_isWord 24 = .ok (.aload_n 1, 1) := by decide +kernel
theorem dX9_isWord_25 : decode cX9_isWord 25 = .ok (.invokevirtual 61, 3) := by decide +kernel
theorem dX9_isWord_28 : decode cX9_isWord 28 = .ok (.if_icmp .eq 5, 3) := by decide +kernel
theorem dX9_isWord_31 : decode cX9_isWord 31 = .ok (.iconst 0, 1) := by decide +kernel
theorem dX9_isWord_32 : decode cX9_isWord 32 = .ok (.ireturn, 1) := by decide +kernel
theorem dX9_isWord_33 : decode cX9_isWord 33 = .ok (.iconst 0, 1) := by decide +kernel
theorem dX9_isWord_34 : decode cX9_isWord 34 = .ok (.istore_n 2, 1) := by decide +kernel
theorem dX9_isWord_35 : decode cX9_isWord 35 = .ok (.iload_n 2, 1) := by decide +kernel
theorem dX9_isWord_36 : decode cX9_isWord 36 = .ok (.aload_n 1, 1) := by decide +kernel
theorem dX9_isWord_37 : decode cX9_isWord 37 = .ok (.invokevirtual 61, 3) := by decide +kernel
theorem dX9_isWord_40 : decode cX9_isWord 40 = .ok (.if_icmp .ge 32, 3) := by decide +kernel
theorem dX9_isWord_43 : decode cX9_isWord 43 = .ok (.aload_n 0, 1) := by decide +kernel
theorem dX9_isWord_44 : decode cX9_isWord 44 = .ok (.getfield 31, 3) := by decide +kernel
theorem dX9_isWord_47 : decode cX9_isWord 47 = .ok (.aload_n 0, 1) := by decide +kernel
theorem dX9_isWord_48 : decode cX9_isWord 48 = .ok (.getfield 16, 3) := by decide +kernel
theorem dX9_isWord_51 : decode cX9_isWord 51 = .ok (.iload_n 2, 1) := by decide +kernel
theorem dX9_isWord_52 : decode cX9_isWord 52 = .ok (.iadd, 1) := by decide +kernel
theorem dX9_isWord_53 : decode cX9_isWord 53 = .ok (.invokevirtual 38, 3) := by decide +kernel
theorem dX9_isWord_56 : decode cX9_isWord 56 = .ok (.aload_n 1, 1) := by decide +kernel
theorem dX9_isWord_57 : decode cX9_isWord 57 = .ok (.iload_n 2, 1) := by decide +kernel
theorem dX9_isWord_58 : decode cX9_isWord 58 = .ok (.invokevirtual 67, 3) := by decide +kernel
theorem dX9_isWord_61 : decode cX9_isWord 61 = .ok (.if_icmp .eq 5, 3) := by decide +kernel
theorem dX9_isWord_64 : decode cX9_isWord 64 = .ok (.iconst 0, 1) := by decide +kernel
theorem dX9_isWord_65 : decode cX9_isWord 65 = .ok (.ireturn, 1) := by decide +kernel
theorem dX9_isWord_66 : decode cX9_isWord 66 = .ok (.iinc 2 1, 3) := by decide +kernel
theorem dX9_isWord_69 : decode cX9_isWord 69 = .ok (.goto (-34), 3) := by decide +kernel
theorem dX9_isWord_72 : decode cX9_isWord 72 = .ok (.iconst 1, 1) := by decide +kernel
theorem dX9_isWord_73 : decode cX9_isWord 73 = .ok (.ireturn, 1) := by decide +kernel
theorem hcX9_isWord : yX9_isWord.cls ≠ "java/lang/invoke/MethodHandle" ∧ yX9_isWord.cls ≠ "java/lang/invoke/VarHandle" ∧ (parseMethodDescriptor yX9_isWord.desc).map (fun d => d.parameters.length) = some 1 := ⟨by decide +kernel, by decide +kernel, by decide +kernel⟩
def fX9_isWord_L35 (s0 : sg_M) (w1 : Nat) (Q : Int → Prop) : Nat → Int → Prop
  | 0, _ => False
  | n_35 + 1, x2_35 => (((sg_sl w1) ≤ x2_35 → Q 1) ∧ (¬ ((sg_sl w1) ≤ x2_35) → sg_R ((s0 3 3) + x2_35) ∧ fX8_byteAt s0 ((s0 3 3) + x2_35) (fun u13 => (0 ≤ x2_35 ∧ x2_35 < (sg_sl w1)) ∧ ((u13 = (sg_sc w1 x2_35) → sg_R (x2_35 + 1) ∧ (fX9_isWord_L35 s0 w1 Q n_35) (x2_35 + 1)) ∧ (¬ (u13 = (sg_sc w1 x2_35)) → Q 0)))))
def fX9_isWord (s0 : sg_M) (w1 : Nat) (Q : Int → Prop) : Prop := (((s0 3 6) ≠ 0 → Q 0) ∧ ((s0 3 6) = 0 → (((s0 3 2) ≠ 1 → Q 0) ∧ ((s0 3 2) = 1 → sg_R ((s0 3 4) - (s0 3 3)) ∧ ((((s0 3 4) - (s0 3 3)) = (sg_sl w1) → (∃ n18 : Nat, fX9_isWord_L35 s0 w1 Q n18 0)) ∧ (¬ (((s0 3 4) - (s0 3 3)) = (sg_sl w1)) → Q 0))))))
set_option maxHeartbeats 4000000 in
set_option maxRecDepth 100000 in
theorem CX9_isWord {l : Launch} {G : sg_G} {La : sg_L} {s0 : sg_M} (hst : sg_St La) {w1 : Nat} (hw1 : w1 < 25) {Q : Int → Prop} (hf : fX9_isWord s0 w1 Q) : sg_C l G yX9_isWord cX9_isWord 3 (some .boolean) 5 0 0 La s0 [sg_r 3, sg_a (G.2.2.1 w1)] (sg_PZ La s0 Q) := by
  refine sg_body (by decide +kernel) (Nat.le_of_ble_eq_true rfl) ?_
  intro p e s m args below meth c F hnm
  unfold fX9_isWord at hf
  show sg_W p l e (sg_rm 5 0 0) s m args below meth c (MQ below (sg_Q (some .boolean) G La s.heap.size (sg_PZ La s0 Q)) args s 0 0 (sg_A La s.heap.size)) 3 G (sg_A La s.heap.size) La s0 0 0 0 [(0, sg_r 3), (1, sg_a (G.2.2.1 w1))] []
  refine gw_aload_n F 0 rfl rfl (by decide) dX9_isWord_0 ?_
  refine gw_get0 F (so_3 hst) (by decide) rfl sg_lay_RX9 (j := 6) (by decide) rfl (host := "") (.inl kw_144) dX9_isWord_1 (fun h1 => ?_)
  refine gw_if_ne F (tgt := 31) dX9_isWord_4 (by decide) h1 (fun c2 => ?_) (fun c2 => ?_)
  · have hf := hf.1 c2
    refine gw_iconst F dX9_isWord_31 ?_
    exact gr_PZ F (by decide) hf (by decide) (by decide) dX9_isWord_32
  · have hf := hf.2 c2
    refine gw_aload_n F 0 rfl rfl (by decide) dX9_isWord_7 ?_
    refine gw_get0 F (so_3 hst) (by decide) rfl sg_lay_RX9 (j := 2) (by decide) rfl (host := "") (.inl kw_140) dX9_isWord_8 (fun h3 => ?_)
    refine gw_iconst F dX9_isWord_11 ?_
    refine gw_icmp_ne F (tgt := 31) dX9_isWord_12 (by decide) h3 (by decide) (fun c4 => ?_) (fun c4 => ?_)
    · have hf := hf.1 c4
      refine gw_iconst F dX9_isWord_31 ?_
      exact gr_PZ F (by decide) hf (by decide) (by decide) dX9_isWord_32
    · have hf := hf.2 c4
      refine gw_aload_n F 0 rfl rfl (by decide) dX9_isWord_15 ?_
      refine gw_get0 F (so_3 hst) (by decide) rfl sg_lay_RX9 (j := 4) (by decide) rfl (host := "") (.inl kw_142) dX9_isWord_16 (fun h5 => ?_)
      refine gw_aload_n F 0 rfl rfl (by decide) dX9_isWord_19 ?_
      refine gw_get0 F (so_3 hst) (by decide) rfl sg_lay_RX9 (j := 3) (by decide) rfl (host := "") (.inl kw_141) dX9_isWord_20 (fun h6 => ?_)
      refine gw_isub F rfl dX9_isWord_23 ?_
      refine gw_aload_na F 1 rfl rfl dX9_isWord_24 ?_
      refine gw_strlen F hw1 (Nat.le_of_ble_eq_true rfl) ⟨by decide, by decide⟩ ⟨by decide, by decide⟩ dX9_isWord_25 ?_
      obtain ⟨g7, hf⟩ := hf
      refine gw_icmp_eq F (tgt := 33) dX9_isWord_28 (by decide) g7 (sg_sl_R _) (fun c8 => ?_) (fun c8 => ?_)
      · have hf := hf.1 c8
        refine gw_iconst F dX9_isWord_33 ?_
        refine gw_istore_n F rfl (by decide) rfl dX9_isWord_34 ?_
        have L35 : ∀ n_35 : Nat, ∀ (x2_35 : Int), sg_R x2_35 → fX9_isWord_L35 s0 w1 Q n_35 x2_35 → sg_W p l e (sg_rm 5 0 0) s m args below meth c (MQ below (sg_Q (some .boolean) G La s.heap.size (sg_PZ La s0 Q)) args s 0 0 (sg_A La s.heap.size)) 3 G (sg_A La s.heap.size) La s0 0 0 35 [(0, sg_r 3), (1, sg_a (G.2.2.1 w1)), (2, sg_i x2_35)] [] := by
          intro n_35
          induction n_35 with
          | zero => intro x2_35 r2_35 hf; exact hf.elim
          | succ n_35 ih =>
            intro x2_35 r2_35 hf
            unfold fX9_isWord_L35 at hf
            refine gw_iload_n F 2 rfl rfl dX9_isWord_35 ?_
            refine gw_aload_na F 1 rfl rfl dX9_isWord_36 ?_
            refine gw_strlen F hw1 (Nat.le_of_ble_eq_true rfl) ⟨by decide, by decide⟩ ⟨by decide, by decide⟩ dX9_isWord_37 ?_
            refine gw_icmp_ge F (tgt := 72) dX9_isWord_40 (by decide) r2_35 (sg_sl_R _) (fun c9 => ?_) (fun c9 => ?_)
            · have hf := hf.1 c9
              refine gw_iconst F dX9_isWord_72 ?_
              exact gr_PZ F (by decide) hf (by decide) (by decide) dX9_isWord_73
            · have hf := hf.2 c9
              refine gw_aload_n F 0 rfl rfl (by decide) dX9_isWord_43 ?_
              refine gw_get7 F (so_3 hst) (by decide) rfl sg_lay_RX9 (j := 0) (by decide) (o1 := 1) (by first | rfl | omega) rfl (host := "") (.inl kw_138) dX9_isWord_44 (fun h10 => ?_)
              refine gw_aload_n F 0 rfl rfl (by decide) dX9_isWord_47 ?_
              refine gw_get0 F (so_3 hst) (by decide) rfl sg_lay_RX9 (j := 3) (by decide) rfl (host := "") (.inl kw_141) dX9_isWord_48 (fun h11 => ?_)
              refine gw_iload_n F 2 rfl rfl dX9_isWord_51 ?_
              refine gw_iadd F rfl dX9_isWord_52 ?_
              obtain ⟨g12, hf⟩ := hf
              refine gk_PI F (gc_V F (S := []) (As := [sg_i ((s0 3 3) + x2_35)]) (T := TX8) (N := 2) (CX8_byteAt hst g12 hf) (so_1 hst) (by decide) rfl kw_372 kw_91 kw_369 kw_370 kw_371 hcX8_byteAt ⟨by decide, by decide⟩ rfl rfl (Nat.le_of_ble_eq_true rfl) ⟨by decide, by decide⟩ dX9_isWord_53) (fun u13 h14 hf => ?_)
              refine gw_aload_na F 1 rfl rfl dX9_isWord_56 ?_
              refine gw_iload_n F 2 rfl rfl dX9_isWord_57 ?_
              obtain ⟨⟨b150, b151⟩, hf⟩ := hf
              refine gw_charAt F hw1 b150 b151 (Nat.le_of_ble_eq_true rfl) ⟨by decide, by decide⟩ ⟨by decide, by decide⟩ dX9_isWord_58 ?_
              refine gw_icmp_eq F (tgt := 66) dX9_isWord_61 (by decide) h14 (sg_sc_R _ _) (fun c16 => ?_) (fun c16 => ?_)
              · have hf := hf.1 c16
                refine gw_iinc F (z := (x2_35 + 1)) 2 rfl (by omega) (by decide) rfl dX9_isWord_66 ?_
                refine gw_goto F (tgt := 35) dX9_isWord_69 (by decide) ?_
                obtain ⟨g17, hf⟩ := hf
                refine gw_sub [1, 2, 0] rfl ?_
                exact ih (x2_35 + 1) g17 hf
              · have hf := hf.2 c16
                refine gw_iconst F dX9_isWord_64 ?_
                exact gr_PZ F (by decide) hf (by decide) (by decide) dX9_isWord_65
        obtain ⟨n18, hf⟩ := hf
        refine gw_sub [1, 2, 0] rfl ?_
        refine L35   n18 0 (by decide) hf
      · have hf := hf.2 c8
        refine gw_iconst F dX9_isWord_31 ?_
        exact gr_PZ F (by decide) hf (by decide) (by decide) dX9_isWord_32

theorem dX9_skipWord_0 : decode cX9_skipWord 0 = .ok (.aload_n 0, 1) := by decide +kernel
theorem dX9_skipWord_1 : decode cX9_skipWord 1 = .ok (.aload_n 1, 1) := by decide +kernel
theorem dX9_skipWord_2 : decode cX9_skipWord 2 = .ok (.invokevirtual 71, 3) := by decide +kernel
theorem dX9_skipWord_5 : decode cX9_skipWord 5 = .ok (.istore_n 2, 1) := by decide +kernel
theorem dX9_skipWord_6 : decode cX9_skipWord 6 = .ok (.iload_n 2, 1) := by decide +kernel
theorem dX9_skipWord_7 : decode cX9_skipWord 7 = .ok (.ifCond .eq 7, 3) := by decide +kernel
theorem dX9_skipWord_10 : decode cX9_skipWord 10 = .ok (.aload_n 0, 1) := by decide +kernel
theorem dX9_skipWord_11 : decode cX9_skipWord 11 = .ok (.invokevirtual 35, 3) := by decide +kernel
theorem dX9_skipWord_14 : decode cX9_skipWord 14 = .ok (.iload_n 2, 1) := by decide +kernel
theorem dX9_skipWord_15 : decode cX9_skipWord 15 = .ok (.ireturn, 1) := by decide +kernel
theorem hcX9_skipWord : yX9_skipWord.cls ≠ "java/lang/invoke/MethodHandle" ∧ yX9_skipWord.cls ≠ "java/lang/invoke/VarHandle" ∧ (parseMethodDescriptor yX9_skipWord.desc).map (fun d => d.parameters.length) = some 1 := ⟨by decide +kernel, by decide +kernel, by decide +kernel⟩
def fX9_skipWord (s0 : sg_M) (w1 : Nat) (Q : Int → sg_M → Prop) : Prop := fX9_isWord s0 w1 (fun u1 => ((u1 = 0 → Q u1 s0) ∧ (¬ (u1 = 0) → fX9_advance s0 (fun s4 => Q u1 s4))))
set_option maxHeartbeats 4000000 in
set_option maxRecDepth 100000 in
theorem CX9_skipWord {l : Launch} {G : sg_G} {La : sg_L} {s0 : sg_M} (hst : sg_St La) {w1 : Nat} (hw1 : w1 < 25) {Q : Int → sg_M → Prop} (hf : fX9_skipWord s0 w1 Q) : sg_C l G yX9_skipWord cX9_skipWord 3 (some .boolean) 6 0 0 La s0 [sg_r 3, sg_a (G.2.2.1 w1)] (sg_HZ La Q) := by
  refine sg_body (by decide +kernel) (Nat.le_of_ble_eq_true rfl) ?_
  intro p e s m args below meth c F hnm
  unfold fX9_skipWord at hf
  show sg_W p l e (sg_rm 6 0 0) s m args below meth c (MQ below (sg_Q (some .boolean) G La s.heap.size (sg_HZ La Q)) args s 0 0 (sg_A La s.heap.size)) 3 G (sg_A La s.heap.size) La s0 0 0 0 [(0, sg_r 3), (1, sg_a (G.2.2.1 w1))] []
  refine gw_aload_n F 0 rfl rfl (by decide) dX9_skipWord_0 ?_
  refine gw_aload_na F 1 rfl rfl dX9_skipWord_1 ?_
  refine gk_PZ F (gc_V F (S := []) (As := [sg_a (G.2.2.1 w1)]) (T := TX9) (N := 8) (CX9_isWord hst hw1 hf) (so_3 hst) (by decide) rfl kw_403 kw_92 kw_400 kw_401 kw_402 hcX9_isWord ⟨by decide, by decide⟩ rfl rfl (Nat.le_of_ble_eq_true rfl) ⟨by decide, by decide⟩ dX9_skipWord_2) (fun u1 h2 hf => ?_)
  refine gw_istore_n F rfl (by decide) rfl dX9_skipWord_5 ?_
  refine gw_iload_n F 0 rfl rfl dX9_skipWord_6 ?_
  refine gw_if_eq F (tgt := 14) dX9_skipWord_7 (by decide) (sg_B_R h2) (fun c3 => ?_) (fun c3 => ?_)
  · have hf := hf.1 c3
    refine gw_iload_n F 0 rfl rfl dX9_skipWord_14 ?_
    exact gr_HZ F h2 hf (by decide) (by decide) dX9_skipWord_15
  · have hf := hf.2 c3
    refine gw_aload_n F 1 rfl rfl (by decide) dX9_skipWord_10 ?_
    refine gk_HV F (gc_V F (S := []) (As := []) (T := TX9) (N := 8) (CX9_advance hst hf) (so_3 hst) (by decide) rfl kw_368 kw_92 kw_365 kw_366 kw_367 hcX9_advance ⟨by decide, by decide⟩ rfl rfl (Nat.le_of_ble_eq_true rfl) ⟨by decide, by decide⟩ dX9_skipWord_11) (fun s4 hf => ?_)
    refine gw_iload_n F 0 rfl rfl dX9_skipWord_14 ?_
    exact gr_HZ F h2 hf (by decide) (by decide) dX9_skipWord_15

theorem dX9_mustBeWord_0 : decode cX9_mustBeWord 0 = .ok (.aload_n 0, 1) := by decide +kernel
theorem dX9_mustBeWord_1 : decode cX9_mustBeWord 1 = .ok (.aload_n 1, 1) := by decide +kernel
theorem dX9_mustBeWord_2 : decode cX9_mustBeWord 2 = .ok (.invokevirtual 85, 3) := by decide +kernel
theorem dX9_mustBeWord_5 : decode cX9_mustBeWord 5 = .ok (.ifCond .ne 8, 3) := by decide +kernel
theorem dX9_mustBeWord_8 : decode cX9_mustBeWord 8 = .ok (.aload_n 0, 1) := by decide +kernel
theorem dX9_mustBeWord_9 : decode cX9_mustBeWord 9 = .ok (.iconst 1, 1) := by decide +kernel
theorem dX9_mustBeWord_10 : decode cX9_mustBeWord 10 = .ok (.invokevirtual 81, 3) := by decide +kernel
theorem dX9_mustBeWord_13 : decode cX9_mustBeWord 13 = .ok (.return_, 1) := by decide +kernel
theorem hcX9_mustBeWord : yX9_mustBeWord.cls ≠ "java/lang/invoke/MethodHandle" ∧ yX9_mustBeWord.cls ≠ "java/lang/invoke/VarHandle" ∧ (parseMethodDescriptor yX9_mustBeWord.desc).map (fun d => d.parameters.length) = some 1 := ⟨by decide +kernel, by decide +kernel, by decide +kernel⟩
def fX9_mustBeWord (s0 : sg_M) (w1 : Nat) (Q : sg_M → Prop) : Prop := fX9_skipWord s0 w1 (fun u1 s3 => ((u1 ≠ 0 → Q s3) ∧ (u1 = 0 → fX9_fail s3 1 (fun s5 => Q s5))))
set_option maxHeartbeats 4000000 in
set_option maxRecDepth 100000 in
theorem CX9_mustBeWord {l : Launch} {G : sg_G} {La : sg_L} {s0 : sg_M} (hst : sg_St La) {w1 : Nat} (hw1 : w1 < 25) {Q : sg_M → Prop} (hf : fX9_mustBeWord s0 w1 Q) : sg_C l G yX9_mustBeWord cX9_mustBeWord 2 (none) 7 0 0 La s0 [sg_r 3, sg_a (G.2.2.1 w1)] (sg_HV La Q) := by
  refine sg_body (by decide +kernel) (Nat.le_of_ble_eq_true rfl) ?_
  intro p e s m args below meth c F hnm
  unfold fX9_mustBeWord at hf
  show sg_W p l e (sg_rm 7 0 0) s m args below meth c (MQ below (sg_Q (none) G La s.heap.size (sg_HV La Q)) args s 0 0 (sg_A La s.heap.size)) 2 G (sg_A La s.heap.size) La s0 0 0 0 [(0, sg_r 3), (1, sg_a (G.2.2.1 w1))] []
  refine gw_aload_n F 0 rfl rfl (by decide) dX9_mustBeWord_0 ?_
  refine gw_aload_na F 1 rfl rfl dX9_mustBeWord_1 ?_
  refine gk_HZ F (gc_V F (S := []) (As := [sg_a (G.2.2.1 w1)]) (T := TX9) (N := 8) (CX9_skipWord hst hw1 hf) (so_3 hst) (by decide) rfl kw_399 kw_92 kw_620 kw_397 kw_398 hcX9_skipWord ⟨by decide, by decide⟩ rfl rfl (Nat.le_of_ble_eq_true rfl) ⟨by decide, by decide⟩ dX9_mustBeWord_2) (fun u1 s3 h2 hf => ?_)
  refine gw_if_ne F (tgt := 13) dX9_mustBeWord_5 (by decide) (sg_B_R h2) (fun c4 => ?_) (fun c4 => ?_)
  · have hf := hf.1 c4
    exact gr_HV F hf (by decide) (by decide) dX9_mustBeWord_13
  · have hf := hf.2 c4
    refine gw_aload_n F 0 rfl rfl (by decide) dX9_mustBeWord_8 ?_
    refine gw_iconst F dX9_mustBeWord_9 ?_
    refine gk_HV F (gc_V F (S := []) (As := [sg_i 1]) (T := TX9) (N := 8) (CX9_fail hst (by decide) hf) (so_3 hst) (by decide) rfl kw_457 kw_92 kw_454 kw_455 kw_456 hcX9_fail ⟨by decide, by decide⟩ rfl rfl (Nat.le_of_ble_eq_true rfl) ⟨by decide, by decide⟩ dX9_mustBeWord_10) (fun s5 hf => ?_)
    exact gr_HV F hf (by decide) (by decide) dX9_mustBeWord_13

theorem dX9_skipSign_0 : decode cX9_skipSign 0 = .ok (.aload_n 0, 1) := by decide +kernel
theorem dX9_skipSign_1 : decode cX9_skipSign 1 = .ok (.iload_n 1, 1) := by decide +kernel
theorem dX9_skipSign_2 : decode cX9_skipSign 2 = .ok (.invokevirtual 75, 3) := by decide +kernel
theorem dX9_skipSign_5 : decode cX9_skipSign 5 = .ok (.istore_n 2, 1) := by decide +kernel
theorem dX9_skipSign_6 : decode cX9_skipSign 6 = .ok (.iload_n 2, 1) := by decide +kernel
theorem dX9_skipSign_7 : decode cX9_skipSign 7 = .ok (.ifCond .eq 7, 3) := by decide +kernel
theorem dX9_skipSign_10 : decode cX9_skipSign 10 = .ok (.aload_n 0, 1) := by decide +kernel
theorem dX9_skipSign_11 : decode cX9_skipSign 11 = .ok (.invokevirtual 35, 3) := by decide +kernel
theorem dX9_skipSign_14 : decode cX9_skipSign 14 = .ok (.iload_n 2, 1) := by decide +kernel
theorem dX9_skipSign_15 : decode cX9_skipSign 15 = .ok (.ireturn, 1) := by decide +kernel
theorem hcX9_skipSign : yX9_skipSign.cls ≠ "java/lang/invoke/MethodHandle" ∧ yX9_skipSign.cls ≠ "java/lang/invoke/VarHandle" ∧ (parseMethodDescriptor yX9_skipSign.desc).map (fun d => d.parameters.length) = some 1 := ⟨by decide +kernel, by decide +kernel, by decide +kernel⟩
def fX9_skipSign (s0 : sg_M) (x1 : Int) (Q : Int → sg_M → Prop) : Prop := fX9_isSign s0 x1 (fun u1 => ((u1 = 0 → Q u1 s0) ∧ (¬ (u1 = 0) → fX9_advance s0 (fun s4 => Q u1 s4))))
set_option maxHeartbeats 4000000 in
set_option maxRecDepth 100000 in
theorem CX9_skipSign {l : Launch} {G : sg_G} {La : sg_L} {s0 : sg_M} (hst : sg_St La) {x1 : Int} (r1 : sg_R x1) {Q : Int → sg_M → Prop} (hf : fX9_skipSign s0 x1 Q) : sg_C l G yX9_skipSign cX9_skipSign 3 (some .boolean) 3 0 0 La s0 [sg_r 3, sg_i x1] (sg_HZ La Q) := by
  refine sg_body (by decide +kernel) (Nat.le_of_ble_eq_true rfl) ?_
  intro p e s m args below meth c F hnm
  unfold fX9_skipSign at hf
  show sg_W p l e (sg_rm 3 0 0) s m args below meth c (MQ below (sg_Q (some .boolean) G La s.heap.size (sg_HZ La Q)) args s 0 0 (sg_A La s.heap.size)) 3 G (sg_A La s.heap.size) La s0 0 0 0 [(0, sg_r 3), (1, sg_i x1)] []
  refine gw_aload_n F 0 rfl rfl (by decide) dX9_skipSign_0 ?_
  refine gw_iload_n F 1 rfl rfl dX9_skipSign_1 ?_
  refine gk_PZ F (gc_V F (S := []) (As := [sg_i x1]) (T := TX9) (N := 8) (CX9_isSign hst r1 hf) (so_3 hst) (by decide) rfl kw_468 kw_92 kw_465 kw_466 kw_467 hcX9_isSign ⟨by decide, by decide⟩ rfl rfl (Nat.le_of_ble_eq_true rfl) ⟨by decide, by decide⟩ dX9_skipSign_2) (fun u1 h2 hf => ?_)
  refine gw_istore_n F rfl (by decide) rfl dX9_skipSign_5 ?_
  refine gw_iload_n F 0 rfl rfl dX9_skipSign_6 ?_
  refine gw_if_eq F (tgt := 14) dX9_skipSign_7 (by decide) (sg_B_R h2) (fun c3 => ?_) (fun c3 => ?_)
  · have hf := hf.1 c3
    refine gw_iload_n F 0 rfl rfl dX9_skipSign_14 ?_
    exact gr_HZ F h2 hf (by decide) (by decide) dX9_skipSign_15
  · have hf := hf.2 c3
    refine gw_aload_n F 1 rfl rfl (by decide) dX9_skipSign_10 ?_
    refine gk_HV F (gc_V F (S := []) (As := []) (T := TX9) (N := 8) (CX9_advance hst hf) (so_3 hst) (by decide) rfl kw_368 kw_92 kw_365 kw_366 kw_367 hcX9_advance ⟨by decide, by decide⟩ rfl rfl (Nat.le_of_ble_eq_true rfl) ⟨by decide, by decide⟩ dX9_skipSign_11) (fun s4 hf => ?_)
    refine gw_iload_n F 0 rfl rfl dX9_skipSign_14 ?_
    exact gr_HZ F h2 hf (by decide) (by decide) dX9_skipSign_15

theorem dX3_readMove_0 : decode cX3_readMove 0 = .ok (.aload_n 1, 1) := by decide +kernel
theorem dX3_readMove_1 : decode cX3_readMove 1 = .ok (.ldc 42, 2) := by decide +kernel
theorem dX3_readMove_3 : decode cX3_readMove 3 = .ok (.invokevirtual 44, 3) := by decide +kernel
theorem dX3_readMove_6 : decode cX3_readMove 6 = .ok (.ifCond .eq 54, 3) := by decide +kernel
theorem dX3_readMove_9 : decode cX3_readMove 9 = .ok (.aload_n 0, 1) := by decide +kernel
theorem dX3_readMove_10 : decode cX3_readMove 10 = .ok (.aload_n 1, 1) := by decide +kernel
theorem dX3_readMove_11 : decode cX3_readMove 11 = .ok (.bipush 45, 2) := by decide +kernel
theorem dX3_readMove_13 : decode cX3_readMove 13 = .ok (.invokevirtual 48, 3) := by decide +kernel
theorem dX3_readMove_16 : decode cX3_readMove 16 = .ok (.aload_n 1, 1) := by decide +kernel
theorem dX3_readMove_17 : decode cX3_readMove 17 = .ok (.iconst 0, 1) := by decide +kernel
theorem dX3_readMove_18 : decode cX3_readMove 18 = .ok (.sipush 9999, 3) := by decide +kernel
theorem dX3_readMove_21 : decode cX3_readMove 21 = .ok (.sipush 9999, 3) := by decide +kernel
theorem dX3_readMove_24 : decode cX3_readMove 24 = .ok (.invokevirtual 52, 3) := by decide +kernel
theorem dX3_readMove_27 : decode cX3_readMove 27 = .ok (.invokestatic 56, 3) := by decide +kernel
theorem dX3_readMove_30 : decode cX3_readMove 30 = .ok (.putfield 22, 3) := by decide +kernel
theorem dX3_readMove_33 : decode cX3_readMove 33 = .ok (.aload_n 0, 1) := by decide +kernel
theorem dX3_readMove_34 : decode cX3_readMove 34 = .ok (.aload_n 1, 1) := by decide +kernel
theorem dX3_readMove_35 : decode cX3_readMove 35 = .ok (.bipush 45, 2) := by decide +kernel
theorem dX3_readMove_37 : decode cX3_readMove 37 = .ok (.invokevirtual 48, 3) := by decide +kernel
theorem dX3_readMove_40 : decode cX3_readMove 40 = .ok (.aload_n 1, 1) := by decide +kernel
theorem dX3_readMove_41 : decode cX3_readMove 41 = .ok (.iconst 0, 1) := by decide +kernel
theorem dX3_readMove_42 : decode cX3_readMove 42 = .ok (.sipush 9999, 3) := by decide +kernel
theorem dX3_readMove_45 : decode cX3_readMove 45 = .ok (.sipush 9999, 3) := by decide +kernel
theorem dX3_readMove_48 : decode cX3_readMove 48 = .ok (.invokevirtual 52, 3) := by decide +kernel
theorem dX3_readMove_51 : decode cX3_readMove 51 = .ok (.invokestatic 56, 3) := by decide +kernel
theorem dX3_readMove_54 : decode cX3_readMove 54 = .ok (.putfield 25, 3) := by decide +kernel
theorem dX3_readMove_57 : decode cX3_readMove 57 = .ok (.goto 148, 3) := by decide +kernel
theorem dX3_readMove_60 : decode cX3_readMove 60 = .ok (.aload_n 1, 1) := by decide +kernel
theorem dX3_readMove_61 : decode cX3_readMove 61 = .ok (.ldc 60, 2) := by decide +kernel
theorem dX3_readMove_63 : decode cX3_readMove 63 = .ok (.invokevirtual 44, 3) := by decide +kernel
theorem dX3_readMove_66 : decode cX3_readMove 66 = .ok (.ifCond .eq 65, 3) := by decide +kernel
theorem dX3_readMove_69 : decode cX3_readMove 69 = .ok (.aload_n 1, 1) := by decide +kernel
theorem dX3_readMove_70 : decode cX3_readMove 70 = .ok (.bipush 45, 2) := by decide +kernel
theorem dX3_readMove_72 : decode cX3_readMove 72 = .ok (.invokevirtual 48, 3) := by decide +kernel
theorem dX3_readMove_75 : decode cX3_readMove 75 = .ok (.aload_n 1, 1) := by decide +kernel
theorem dX3_readMove_76 : decode cX3_readMove 76 = .ok (.iconst 0, 1) := by decide +kernel
theorem dX3_readMove_77 : decode cX3_readMove 77 = .ok (.sipush 9999, 3) := by decide +kernel
theorem dX3_readMove_80 : decode cX3_readMove 80 = .ok (.sipush 9999, 3) := by decide +kernel
theorem dX3_readMove_83 : decode cX3_readMove 83 = .ok (.invokevirtual 52, 3) := by decide +kernel
theorem dX3_readMove_86 : decode cX3_readMove 86 = .ok (.invokestatic 56, 3) := by decide +kernel
theorem dX3_readMove_89 : decode cX3_readMove 89 = .ok (.istore_n 2, 1) := by decide +kernel
theorem dX3_readMove_90 : decode cX3_readMove 90 = .ok (.aload_n 1, 1) := by decide +kernel
theorem dX3_readMove_91 : decode cX3_readMove 91 = .ok (.bipush 45, 2) := by decide +kernel
theorem dX3_readMove_93 : decode cX3_readMove 93 = .ok (.invokevirtual 48, 3) := by decide +kernel
theorem dX3_readMove_96 : decode cX3_readMove 96 = .ok (.aload_n 1, 1) := by decide +kernel
theorem dX3_readMove_97 : decode cX3_readMove 97 = .ok (.iconst 0, 1) := by decide +kernel
theorem dX3_readMove_98 : decode cX3_readMove 98 = .ok (.sipush 9999, 3) := by decide +kernel
theorem dX3_readMove_101 : decode cX3_readMove 101 = .ok (.sipush 9999, 3) := by decide +kernel
theorem dX3_readMove_104 : decode cX3_readMove 104 = .ok (.invokevirtual 52, 3) := by decide +kernel
theorem dX3_readMove_107 : decode cX3_readMove 107 = .ok (.invokestatic 56, 3) := by decide +kernel
theorem dX3_readMove_110 : decode cX3_readMove 110 = .ok (.istore_n 3, 1) := by decide +kernel
theorem dX3_readMove_111 : decode cX3_readMove 111 = .ok (.aload_n 1, 1) := by decide +kernel
theorem dX3_readMove_112 : decode cX3_readMove 112 = .ok (.ldc 62, 2) := by decide +kernel
theorem dX3_readMove_114 : decode cX3_readMove 114 = .ok (.invokevirtual 64, 3) := by decide +kernel
theorem dX3_readMove_117 : decode cX3_readMove 117 = .ok (.aload_n 0, 1) := by decide +kernel
theorem dX3_readMove_118 : decode cX3_readMove 118 = .ok (.iload_n 2, 1) := by decide +kernel
theorem dX3_readMove_119 : decode cX3_readMove 119 = .ok (.iload_n 3, 1) := by decide +kernel
theorem dX3_readMove_120 : decode cX3_readMove 120 = .ok (.aload_n 0, 1) := by decide +kernel
theorem dX3_readMove_121 : decode cX3_readMove 121 = .ok (.aload_n 1, 1) := by decide +kernel
theorem dX3_readMove_122 : decode cX3_readMove 122 = .ok (.invokevirtual 68, 3) := by decide +kernel
theorem dX3_readMove_125 : decode cX3_readMove 125 = .ok (.invokevirtual 72, 3) := by decide +kernel
theorem dX3_readMove_128 : decode cX3_readMove 128 = .ok (.goto 77, 3) := by decide +kernel
theorem dX3_readMove_131 : decode cX3_readMove 131 = .ok (.aload_n 1, 1) := by decide +kernel
theorem dX3_readMove_132 : decode cX3_readMove 132 = .ok (.ldc 76, 2) := by decide +kernel
theorem dX3_readMove_134 : decode cX3_readMove 134 = .ok (.invokevirtual 44, 3) := by decide +kernel
theorem dX3_readMove_137 : decode cX3_readMove 137 = .ok (.ifCond .eq 34, 3) := by decide +kernel
theorem dX3_readMove_140 : decode cX3_readMove 140 = .ok (.aload_n 1, 1) := by decide +kernel
theorem dX3_readMove_141 : decode cX3_readMove 141 = .ok (.iconst 0, 1) := by decide +kernel
theorem dX3_readMove_142 : decode cX3_readMove 142 = .ok (.sipush 999, 3) := by decide +kernel
theorem dX3_readMove_145 : decode cX3_readMove 145 = .ok (.sipush 999, 3) := by decide +kernel
theorem dX3_readMove_148 : decode cX3_readMove 148 = .ok (.invokevirtual 52, 3) := by decide +kernel
theorem dX3_readMove_151 : decode cX3_readMove 151 = .ok (.istore_n 2, 1) := by decide +kernel
theorem dX3_readMove_152 : decode cX3_readMove 152 = .ok (.aload_n 1, 1) := by decide +kernel
theorem dX3_readMove_153 : decode cX3_readMove 153 = .ok (.ldc 62, 2) := by decide +kernel
theorem dX3_readMove_155 : decode cX3_readMove 155 = .ok (.invokevirtual 64, 3) := by decide +kernel
theorem dX3_readMove_158 : decode cX3_readMove 158 = .ok (.aload_n 0, 1) := by decide +kernel
theorem dX3_readMove_159 : decode cX3_readMove 159 = .ok (.iload_n 2, 1) := by decide +kernel
theorem dX3_readMove_160 : decode cX3_readMove 160 = .ok (.aload_n 0, 1) := by decide +kernel
theorem dX3_readMove_161 : decode cX3_readMove 161 = .ok (.aload_n 1, 1) := by decide +kernel
theorem dX3_readMove_162 : decode cX3_readMove 162 = .ok (.invokevirtual 68, 3) := by decide +kernel
theorem dX3_readMove_165 : decode cX3_readMove 165 = .ok (.invokevirtual 78, 3) := by decide +kernel
theorem dX3_readMove_168 : decode cX3_readMove 168 = .ok (.goto 37, 3) := by decide +kernel
theorem dX3_readMove_171 : decode cX3_readMove 171 = .ok (.aload_n 1, 1) := by decide +kernel
theorem dX3_readMove_172 : decode cX3_readMove 172 = .ok (.ldc 81, 2) := by decide +kernel
theorem dX3_readMove_174 : decode cX3_readMove 174 = .ok (.invokevirtual 44, 3) := by decide +kernel
theorem dX3_readMove_177 : decode cX3_readMove 177 = .ok (.ifCond .eq 23, 3) := by decide +kernel
theorem dX3_readMove_180 : decode cX3_readMove 180 = .ok (.aload_n 0, 1) := by decide +kernel
theorem dX3_readMove_181 : decode cX3_readMove 181 = .ok (.aload_n 0, 1) := by decide +kernel
theorem dX3_readMove_182 : decode cX3_readMove 182 = .ok (.getfield 22, 3) := by decide +kernel
theorem dX3_readMove_185 : decode cX3_readMove 185 = .ok (.aload_n 0, 1) := by decide +kernel
theorem dX3_readMove_186 : decode cX3_readMove 186 = .ok (.getfield 25, 3) := by decide +kernel
theorem dX3_readMove_189 : decode cX3_readMove 189 = .ok (.aload_n 0, 1) := by decide +kernel
theorem dX3_readMove_190 : decode cX3_readMove 190 = .ok (.aload_n 1, 1) := by decide +kernel
theorem dX3_readMove_191 : decode cX3_readMove 191 = .ok (.invokevirtual 68, 3) := by decide +kernel
theorem dX3_readMove_194 : decode cX3_readMove 194 = .ok (.invokevirtual 72, 3) := by decide +kernel
theorem dX3_readMove_197 : decode cX3_readMove 197 = .ok (.goto 8, 3) := by decide +kernel
theorem dX3_readMove_200 : decode cX3_readMove 200 = .ok (.aload_n 1, 1) := by decide +kernel
theorem dX3_readMove_201 : decode cX3_readMove 201 = .ok (.iconst 1, 1) := by decide +kernel
theorem dX3_readMove_202 : decode cX3_readMove 202 = .ok (.invokevirtual 83, 3) := by decide +kernel
theorem dX3_readMove_205 : decode cX3_readMove 205 = .ok (.return_, 1) := by decide +kernel
theorem hcX3_readMove : yX3_readMove.cls ≠ "java/lang/invoke/MethodHandle" ∧ yX3_readMove.cls ≠ "java/lang/invoke/VarHandle" ∧ (parseMethodDescriptor yX3_readMove.desc).map (fun d => d.parameters.length) = some 1 := ⟨by decide +kernel, by decide +kernel, by decide +kernel⟩
def fX3_readMove (s0 : sg_M) (o : Int) (Q : sg_M → Prop) : Prop := fX9_skipWord s0 5 (fun u1 s3 => ((u1 = 0 → fX9_skipWord s3 6 (fun u5 s7 => ((u5 = 0 → fX9_skipWord s7 8 (fun u9 s11 => ((u9 = 0 → fX9_skipWord s11 9 (fun u13 s15 => ((u13 = 0 → fX9_fail s15 1 (fun s17 => Q s17)) ∧ (¬ (u13 = 0) → fX3_readTicks s15 o (fun u20 s22 => fX3_move s22 o (s15 o 3) (s15 o 4) u20 (fun s23 => Q s23)))))) ∧ (¬ (u9 = 0) → fX9_number s11 0 999 999 (fun u24 s26 => fX9_mustBeWord s26 7 (fun s27 => fX3_readTicks s27 o (fun u28 s30 => fX3_shake s30 o u24 u28 (fun s31 => Q s31)))))))) ∧ (¬ (u5 = 0) → fX9_skipSign s7 45 (fun u32 s34 => fX9_number s34 0 9999 9999 (fun u35 s37 => fX11_signed u32 u35 (fun u38 => fX9_skipSign s37 45 (fun u40 s42 => fX9_number s42 0 9999 9999 (fun u43 s45 => fX11_signed u40 u43 (fun u46 => fX9_mustBeWord s45 7 (fun s48 => fX3_readTicks s48 o (fun u49 s51 => fX3_move s51 o u38 u46 u49 (fun s52 => Q s52))))))))))))) ∧ (¬ (u1 = 0) → fX9_skipSign s3 45 (fun u53 s55 => fX9_number s55 0 9999 9999 (fun u56 s58 => fX11_signed u53 u56 (fun u59 => ∀ s61 : sg_M, s61 = sg_up s58 o 3 u59 → fX9_skipSign s61 45 (fun u63 s65 => fX9_number s65 0 9999 9999 (fun u66 s68 => fX11_signed u63 u66 (fun u69 => ∀ s71 : sg_M, s71 = sg_up s68 o 4 u69 → Q s71)))))))))
set_option maxHeartbeats 4000000 in
set_option maxRecDepth 100000 in
theorem CX3_readMove {l : Launch} {G : sg_G} {La : sg_L} {s0 : sg_M} (hst : sg_St La) {o : Int} (to : sg_O La o 3) {Q : sg_M → Prop} (hf : fX3_readMove s0 o Q) : sg_C l G yX3_readMove cX3_readMove 4 (none) 8 0 0 La s0 [sg_r o, sg_r 3] (sg_HV La Q) := by
  refine sg_body (by decide +kernel) (Nat.le_of_ble_eq_true rfl) ?_
  intro p e s m args below meth c F hnm
  unfold fX3_readMove at hf
  show sg_W p l e (sg_rm 8 0 0) s m args below meth c (MQ below (sg_Q (none) G La s.heap.size (sg_HV La Q)) args s 0 0 (sg_A La s.heap.size)) 4 G (sg_A La s.heap.size) La s0 0 0 0 [(0, sg_r o), (1, sg_r 3)] []
  refine gw_aload_n F 1 rfl rfl (by decide) dX3_readMove_0 ?_
  refine gw_ldcS F (i := 5) rfl dX3_readMove_1 ?_
  refine gk_HZ F (gc_V F (S := []) (As := [sg_a (G.2.2.1 5)]) (T := TX9) (N := 8) (CX9_skipWord hst (by decide) hf) (so_3 hst) (by decide) rfl kw_399 kw_92 kw_612 kw_397 kw_398 hcX9_skipWord ⟨by decide, by decide⟩ rfl rfl (Nat.le_of_ble_eq_true rfl) ⟨by decide, by decide⟩ dX3_readMove_3) (fun u1 s3 h2 hf => ?_)
  refine gw_if_eq F (tgt := 60) dX3_readMove_6 (by decide) (sg_B_R h2) (fun c4 => ?_) (fun c4 => ?_)
  · have hf := hf.1 c4
    refine gw_aload_n F 1 rfl rfl (by decide) dX3_readMove_60 ?_
    refine gw_ldcS F (i := 6) rfl dX3_readMove_61 ?_
    refine gk_HZ F (gc_V F (S := []) (As := [sg_a (G.2.2.1 6)]) (T := TX9) (N := 8) (CX9_skipWord hst (by decide) hf) (so_3 hst) (by decide) rfl kw_399 kw_92 kw_612 kw_397 kw_398 hcX9_skipWord ⟨by decide, by decide⟩ rfl rfl (Nat.le_of_ble_eq_true rfl) ⟨by decide, by decide⟩ dX3_readMove_63) (fun u5 s7 h6 hf => ?_)
    refine gw_if_eq F (tgt := 131) dX3_readMove_66 (by decide) (sg_B_R h6) (fun c8 => ?_) (fun c8 => ?_)
    · have hf := hf.1 c8
      refine gw_aload_n F 1 rfl rfl (by decide) dX3_readMove_131 ?_
      refine gw_ldcS F (i := 8) rfl dX3_readMove_132 ?_
      refine gk_HZ F (gc_V F (S := []) (As := [sg_a (G.2.2.1 8)]) (T := TX9) (N := 8) (CX9_skipWord hst (by decide) hf) (so_3 hst) (by decide) rfl kw_399 kw_92 kw_612 kw_397 kw_398 hcX9_skipWord ⟨by decide, by decide⟩ rfl rfl (Nat.le_of_ble_eq_true rfl) ⟨by decide, by decide⟩ dX3_readMove_134) (fun u9 s11 h10 hf => ?_)
      refine gw_if_eq F (tgt := 171) dX3_readMove_137 (by decide) (sg_B_R h10) (fun c12 => ?_) (fun c12 => ?_)
      · have hf := hf.1 c12
        refine gw_aload_n F 1 rfl rfl (by decide) dX3_readMove_171 ?_
        refine gw_ldcS F (i := 9) rfl dX3_readMove_172 ?_
        refine gk_HZ F (gc_V F (S := []) (As := [sg_a (G.2.2.1 9)]) (T := TX9) (N := 8) (CX9_skipWord hst (by decide) hf) (so_3 hst) (by decide) rfl kw_399 kw_92 kw_612 kw_397 kw_398 hcX9_skipWord ⟨by decide, by decide⟩ rfl rfl (Nat.le_of_ble_eq_true rfl) ⟨by decide, by decide⟩ dX3_readMove_174) (fun u13 s15 h14 hf => ?_)
        refine gw_if_eq F (tgt := 200) dX3_readMove_177 (by decide) (sg_B_R h14) (fun c16 => ?_) (fun c16 => ?_)
        · have hf := hf.1 c16
          refine gw_aload_n F 1 rfl rfl (by decide) dX3_readMove_200 ?_
          refine gw_iconst F dX3_readMove_201 ?_
          refine gk_HV F (gc_V F (S := []) (As := [sg_i 1]) (T := TX9) (N := 8) (CX9_fail hst (by decide) hf) (so_3 hst) (by decide) rfl kw_457 kw_92 kw_634 kw_455 kw_456 hcX9_fail ⟨by decide, by decide⟩ rfl rfl (Nat.le_of_ble_eq_true rfl) ⟨by decide, by decide⟩ dX3_readMove_202) (fun s17 hf => ?_)
          exact gr_HV F hf (by decide) (by decide) dX3_readMove_205
        · have hf := hf.2 c16
          refine gw_aload_n F 0 rfl rfl to.1 dX3_readMove_180 ?_
          refine gw_aload_n F 0 rfl rfl to.1 dX3_readMove_181 ?_
          refine gw_get0 F to (by decide) rfl sg_lay_RX3 (j := 3) (by decide) rfl (host := "") (.inl kw_182) dX3_readMove_182 (fun h18 => ?_)
          refine gw_aload_n F 0 rfl rfl to.1 dX3_readMove_185 ?_
          refine gw_get0 F to (by decide) rfl sg_lay_RX3 (j := 4) (by decide) rfl (host := "") (.inl kw_183) dX3_readMove_186 (fun h19 => ?_)
          refine gw_aload_n F 0 rfl rfl to.1 dX3_readMove_189 ?_
          refine gw_aload_n F 1 rfl rfl (by decide) dX3_readMove_190 ?_
          refine gk_HI F (gc_V F (S := [sg_i (s15 o 4), sg_i (s15 o 3), sg_r o]) (As := [sg_r 3]) (T := TX3) (N := 5) (CX3_readTicks hst to hf) to (by decide) rfl kw_623 kw_95 kw_621 kw_622 kw_15 hcX3_readTicks ⟨by decide, by decide⟩ rfl rfl (Nat.le_of_ble_eq_true rfl) ⟨by decide, by decide⟩ dX3_readMove_191) (fun u20 s22 h21 hf => ?_)
          refine gk_HV F (gc_V F (S := []) (As := [sg_i (s15 o 3), sg_i (s15 o 4), sg_i u20]) (T := TX3) (N := 5) (CX3_move to h18 h19 h21 hf) to (by decide) rfl kw_626 kw_95 kw_624 kw_625 kw_16 hcX3_move ⟨by decide, by decide⟩ rfl rfl (Nat.le_of_ble_eq_true rfl) ⟨by decide, by decide⟩ dX3_readMove_194) (fun s23 hf => ?_)
          refine gw_goto F (tgt := 205) dX3_readMove_197 (by decide) ?_
          exact gr_HV F hf (by decide) (by decide) dX3_readMove_205
      · have hf := hf.2 c12
        refine gw_aload_n F 1 rfl rfl (by decide) dX3_readMove_140 ?_
        refine gw_iconst F dX3_readMove_141 ?_
        refine gw_sipush F rfl dX3_readMove_142 ?_
        refine gw_sipush F rfl dX3_readMove_145 ?_
        refine gk_HI F (gc_V F (S := []) (As := [sg_i 0, sg_i 999, sg_i 999]) (T := TX9) (N := 8) (CX9_number hst (by decide) (by decide) (by decide) hf) (so_3 hst) (by decide) rfl kw_453 kw_92 kw_614 kw_451 kw_452 hcX9_number ⟨by decide, by decide⟩ rfl rfl (Nat.le_of_ble_eq_true rfl) ⟨by decide, by decide⟩ dX3_readMove_148) (fun u24 s26 h25 hf => ?_)
        refine gw_istore_n F rfl (by decide) rfl dX3_readMove_151 ?_
        refine gw_aload_n F 2 rfl rfl (by decide) dX3_readMove_152 ?_
        refine gw_ldcS F (i := 7) rfl dX3_readMove_153 ?_
        refine gk_HV F (gc_V F (S := []) (As := [sg_a (G.2.2.1 7)]) (T := TX9) (N := 8) (CX9_mustBeWord hst (by decide) hf) (so_3 hst) (by decide) rfl kw_619 kw_92 kw_616 kw_617 kw_618 hcX9_mustBeWord ⟨by decide, by decide⟩ rfl rfl (Nat.le_of_ble_eq_true rfl) ⟨by decide, by decide⟩ dX3_readMove_155) (fun s27 hf => ?_)
        refine gw_aload_n F 1 rfl rfl to.1 dX3_readMove_158 ?_
        refine gw_iload_n F 0 rfl rfl dX3_readMove_159 ?_
        refine gw_aload_n F 1 rfl rfl to.1 dX3_readMove_160 ?_
        refine gw_aload_n F 2 rfl rfl (by decide) dX3_readMove_161 ?_
        refine gk_HI F (gc_V F (S := [sg_i u24, sg_r o]) (As := [sg_r 3]) (T := TX3) (N := 5) (CX3_readTicks hst to hf) to (by decide) rfl kw_623 kw_95 kw_621 kw_622 kw_15 hcX3_readTicks ⟨by decide, by decide⟩ rfl rfl (Nat.le_of_ble_eq_true rfl) ⟨by decide, by decide⟩ dX3_readMove_162) (fun u28 s30 h29 hf => ?_)
        refine gk_HV F (gc_V F (S := []) (As := [sg_i u24, sg_i u28]) (T := TX3) (N := 5) (CX3_shake to h25 h29 hf) to (by decide) rfl kw_632 kw_95 kw_630 kw_631 kw_18 hcX3_shake ⟨by decide, by decide⟩ rfl rfl (Nat.le_of_ble_eq_true rfl) ⟨by decide, by decide⟩ dX3_readMove_165) (fun s31 hf => ?_)
        refine gw_goto F (tgt := 205) dX3_readMove_168 (by decide) ?_
        exact gr_HV F hf (by decide) (by decide) dX3_readMove_205
    · have hf := hf.2 c8
      refine gw_aload_n F 1 rfl rfl (by decide) dX3_readMove_69 ?_
      refine gw_bipush F rfl dX3_readMove_70 ?_
      refine gk_HZ F (gc_V F (S := []) (As := [sg_i 45]) (T := TX9) (N := 8) (CX9_skipSign hst (by decide) hf) (so_3 hst) (by decide) rfl kw_464 kw_92 kw_613 kw_462 kw_463 hcX9_skipSign ⟨by decide, by decide⟩ rfl rfl (Nat.le_of_ble_eq_true rfl) ⟨by decide, by decide⟩ dX3_readMove_72) (fun u32 s34 h33 hf => ?_)
      refine gw_aload_n F 1 rfl rfl (by decide) dX3_readMove_75 ?_
      refine gw_iconst F dX3_readMove_76 ?_
      refine gw_sipush F rfl dX3_readMove_77 ?_
      refine gw_sipush F rfl dX3_readMove_80 ?_
      refine gk_HI F (gc_V F (S := [sg_i u32]) (As := [sg_i 0, sg_i 9999, sg_i 9999]) (T := TX9) (N := 8) (CX9_number hst (by decide) (by decide) (by decide) hf) (so_3 hst) (by decide) rfl kw_453 kw_92 kw_614 kw_451 kw_452 hcX9_number ⟨by decide, by decide⟩ rfl rfl (Nat.le_of_ble_eq_true rfl) ⟨by decide, by decide⟩ dX3_readMove_83) (fun u35 s37 h36 hf => ?_)
      refine gk_PI F (gc_SN F (S := []) (As := [sg_i u32, sg_i u35]) (CX11_signed h33 h36 hf) kw_471 kw_90 kw_615 kw_470 hcX11_signed ⟨by decide, by decide⟩ rfl rfl (Nat.le_of_ble_eq_true rfl) ⟨by decide, by decide⟩ dX3_readMove_86) (fun u38 h39 hf => ?_)
      refine gw_istore_n F rfl (by decide) rfl dX3_readMove_89 ?_
      refine gw_aload_n F 2 rfl rfl (by decide) dX3_readMove_90 ?_
      refine gw_bipush F rfl dX3_readMove_91 ?_
      refine gk_HZ F (gc_V F (S := []) (As := [sg_i 45]) (T := TX9) (N := 8) (CX9_skipSign hst (by decide) hf) (so_3 hst) (by decide) rfl kw_464 kw_92 kw_613 kw_462 kw_463 hcX9_skipSign ⟨by decide, by decide⟩ rfl rfl (Nat.le_of_ble_eq_true rfl) ⟨by decide, by decide⟩ dX3_readMove_93) (fun u40 s42 h41 hf => ?_)
      refine gw_aload_n F 2 rfl rfl (by decide) dX3_readMove_96 ?_
      refine gw_iconst F dX3_readMove_97 ?_
      refine gw_sipush F rfl dX3_readMove_98 ?_
      refine gw_sipush F rfl dX3_readMove_101 ?_
      refine gk_HI F (gc_V F (S := [sg_i u40]) (As := [sg_i 0, sg_i 9999, sg_i 9999]) (T := TX9) (N := 8) (CX9_number hst (by decide) (by decide) (by decide) hf) (so_3 hst) (by decide) rfl kw_453 kw_92 kw_614 kw_451 kw_452 hcX9_number ⟨by decide, by decide⟩ rfl rfl (Nat.le_of_ble_eq_true rfl) ⟨by decide, by decide⟩ dX3_readMove_104) (fun u43 s45 h44 hf => ?_)
      refine gk_PI F (gc_SN F (S := []) (As := [sg_i u40, sg_i u43]) (CX11_signed h41 h44 hf) kw_471 kw_90 kw_615 kw_470 hcX11_signed ⟨by decide, by decide⟩ rfl rfl (Nat.le_of_ble_eq_true rfl) ⟨by decide, by decide⟩ dX3_readMove_107) (fun u46 h47 hf => ?_)
      refine gw_istore_n F rfl (by decide) rfl dX3_readMove_110 ?_
      refine gw_aload_n F 3 rfl rfl (by decide) dX3_readMove_111 ?_
      refine gw_ldcS F (i := 7) rfl dX3_readMove_112 ?_
      refine gk_HV F (gc_V F (S := []) (As := [sg_a (G.2.2.1 7)]) (T := TX9) (N := 8) (CX9_mustBeWord hst (by decide) hf) (so_3 hst) (by decide) rfl kw_619 kw_92 kw_616 kw_617 kw_618 hcX9_mustBeWord ⟨by decide, by decide⟩ rfl rfl (Nat.le_of_ble_eq_true rfl) ⟨by decide, by decide⟩ dX3_readMove_114) (fun s48 hf => ?_)
      refine gw_aload_n F 2 rfl rfl to.1 dX3_readMove_117 ?_
      refine gw_iload_n F 1 rfl rfl dX3_readMove_118 ?_
      refine gw_iload_n F 0 rfl rfl dX3_readMove_119 ?_
      refine gw_aload_n F 2 rfl rfl to.1 dX3_readMove_120 ?_
      refine gw_aload_n F 3 rfl rfl (by decide) dX3_readMove_121 ?_
      refine gk_HI F (gc_V F (S := [sg_i u46, sg_i u38, sg_r o]) (As := [sg_r 3]) (T := TX3) (N := 5) (CX3_readTicks hst to hf) to (by decide) rfl kw_623 kw_95 kw_621 kw_622 kw_15 hcX3_readTicks ⟨by decide, by decide⟩ rfl rfl (Nat.le_of_ble_eq_true rfl) ⟨by decide, by decide⟩ dX3_readMove_122) (fun u49 s51 h50 hf => ?_)
      refine gk_HV F (gc_V F (S := []) (As := [sg_i u38, sg_i u46, sg_i u49]) (T := TX3) (N := 5) (CX3_move to h39 h47 h50 hf) to (by decide) rfl kw_626 kw_95 kw_624 kw_625 kw_16 hcX3_move ⟨by decide, by decide⟩ rfl rfl (Nat.le_of_ble_eq_true rfl) ⟨by decide, by decide⟩ dX3_readMove_125) (fun s52 hf => ?_)
      refine gw_goto F (tgt := 205) dX3_readMove_128 (by decide) ?_
      exact gr_HV F hf (by decide) (by decide) dX3_readMove_205
  · have hf := hf.2 c4
    refine gw_aload_n F 0 rfl rfl to.1 dX3_readMove_9 ?_
    refine gw_aload_n F 1 rfl rfl (by decide) dX3_readMove_10 ?_
    refine gw_bipush F rfl dX3_readMove_11 ?_
    refine gk_HZ F (gc_V F (S := [sg_r o]) (As := [sg_i 45]) (T := TX9) (N := 8) (CX9_skipSign hst (by decide) hf) (so_3 hst) (by decide) rfl kw_464 kw_92 kw_613 kw_462 kw_463 hcX9_skipSign ⟨by decide, by decide⟩ rfl rfl (Nat.le_of_ble_eq_true rfl) ⟨by decide, by decide⟩ dX3_readMove_13) (fun u53 s55 h54 hf => ?_)
    refine gw_aload_n F 1 rfl rfl (by decide) dX3_readMove_16 ?_
    refine gw_iconst F dX3_readMove_17 ?_
    refine gw_sipush F rfl dX3_readMove_18 ?_
    refine gw_sipush F rfl dX3_readMove_21 ?_
    refine gk_HI F (gc_V F (S := [sg_i u53, sg_r o]) (As := [sg_i 0, sg_i 9999, sg_i 9999]) (T := TX9) (N := 8) (CX9_number hst (by decide) (by decide) (by decide) hf) (so_3 hst) (by decide) rfl kw_453 kw_92 kw_614 kw_451 kw_452 hcX9_number ⟨by decide, by decide⟩ rfl rfl (Nat.le_of_ble_eq_true rfl) ⟨by decide, by decide⟩ dX3_readMove_24) (fun u56 s58 h57 hf => ?_)
    refine gk_PI F (gc_SN F (S := [sg_r o]) (As := [sg_i u53, sg_i u56]) (CX11_signed h54 h57 hf) kw_471 kw_90 kw_615 kw_470 hcX11_signed ⟨by decide, by decide⟩ rfl rfl (Nat.le_of_ble_eq_true rfl) ⟨by decide, by decide⟩ dX3_readMove_27) (fun u59 h60 hf => ?_)
    obtain ⟨s61, e62⟩ : ∃ z : sg_M, z = sg_up s58 o 3 u59 := ⟨_, rfl⟩
    have hf := hf s61 e62
    refine gw_put0 F to (by decide) rfl sg_lay_RX3 (j := 3) (by decide) h60 e62 tyX3_ok nmX3 rfl (tyX3_ok 3 (by decide)) rfl (host := "") (.inl kw_182) dX3_readMove_30 ?_
    refine gw_aload_n F 0 rfl rfl to.1 dX3_readMove_33 ?_
    refine gw_aload_n F 1 rfl rfl (by decide) dX3_readMove_34 ?_
    refine gw_bipush F rfl dX3_readMove_35 ?_
    refine gk_HZ F (gc_V F (S := [sg_r o]) (As := [sg_i 45]) (T := TX9) (N := 8) (CX9_skipSign hst (by decide) hf) (so_3 hst) (by decide) rfl kw_464 kw_92 kw_613 kw_462 kw_463 hcX9_skipSign ⟨by decide, by decide⟩ rfl rfl (Nat.le_of_ble_eq_true rfl) ⟨by decide, by decide⟩ dX3_readMove_37) (fun u63 s65 h64 hf => ?_)
    refine gw_aload_n F 1 rfl rfl (by decide) dX3_readMove_40 ?_
    refine gw_iconst F dX3_readMove_41 ?_
    refine gw_sipush F rfl dX3_readMove_42 ?_
    refine gw_sipush F rfl dX3_readMove_45 ?_
    refine gk_HI F (gc_V F (S := [sg_i u63, sg_r o]) (As := [sg_i 0, sg_i 9999, sg_i 9999]) (T := TX9) (N := 8) (CX9_number hst (by decide) (by decide) (by decide) hf) (so_3 hst) (by decide) rfl kw_453 kw_92 kw_614 kw_451 kw_452 hcX9_number ⟨by decide, by decide⟩ rfl rfl (Nat.le_of_ble_eq_true rfl) ⟨by decide, by decide⟩ dX3_readMove_48) (fun u66 s68 h67 hf => ?_)
    refine gk_PI F (gc_SN F (S := [sg_r o]) (As := [sg_i u63, sg_i u66]) (CX11_signed h64 h67 hf) kw_471 kw_90 kw_615 kw_470 hcX11_signed ⟨by decide, by decide⟩ rfl rfl (Nat.le_of_ble_eq_true rfl) ⟨by decide, by decide⟩ dX3_readMove_51) (fun u69 h70 hf => ?_)
    obtain ⟨s71, e72⟩ : ∃ z : sg_M, z = sg_up s68 o 4 u69 := ⟨_, rfl⟩
    have hf := hf s71 e72
    refine gw_put0 F to (by decide) rfl sg_lay_RX3 (j := 4) (by decide) h70 e72 tyX3_ok nmX3 rfl (tyX3_ok 4 (by decide)) rfl (host := "") (.inl kw_183) dX3_readMove_54 ?_
    refine gw_goto F (tgt := 205) dX3_readMove_57 (by decide) ?_
    exact gr_HV F hf (by decide) (by decide) dX3_readMove_205

theorem dX9_mustBeSign_0 : decode cX9_mustBeSign 0 = .ok (.aload_n 0, 1) := by decide +kernel
theorem dX9_mustBeSign_1 : decode cX9_mustBeSign 1 = .ok (.iload_n 1, 1) := by decide +kernel
theorem dX9_mustBeSign_2 : decode cX9_mustBeSign 2 = .ok (.invokevirtual 78, 3) := by decide +kernel
theorem dX9_mustBeSign_5 : decode cX9_mustBeSign 5 = .ok (.ifCond .ne 8, 3) := by decide +kernel
theorem dX9_mustBeSign_8 : decode cX9_mustBeSign 8 = .ok (.aload_n 0, 1) := by decide +kernel
theorem dX9_mustBeSign_9 : decode cX9_mustBeSign 9 = .ok (.iconst 1, 1) := by decide +kernel
theorem dX9_mustBeSign_10 : decode cX9_mustBeSign 10 = .ok (.invokevirtual 81, 3) := by decide +kernel
theorem dX9_mustBeSign_13 : decode cX9_mustBeSign 13 = .ok (.return_, 1) := by decide +kernel
theorem hcX9_mustBeSign : yX9_mustBeSign.cls ≠ "java/lang/invoke/MethodHandle" ∧ yX9_mustBeSign.cls ≠ "java/lang/invoke/VarHandle" ∧ (parseMethodDescriptor yX9_mustBeSign.desc).map (fun d => d.parameters.length) = some 1 := ⟨by decide +kernel, by decide +kernel, by decide +kernel⟩
def fX9_mustBeSign (s0 : sg_M) (x1 : Int) (Q : sg_M → Prop) : Prop := fX9_skipSign s0 x1 (fun u1 s3 => ((u1 ≠ 0 → Q s3) ∧ (u1 = 0 → fX9_fail s3 1 (fun s5 => Q s5))))
set_option maxHeartbeats 4000000 in
set_option maxRecDepth 100000 in
theorem CX9_mustBeSign {l : Launch} {G : sg_G} {La : sg_L} {s0 : sg_M} (hst : sg_St La) {x1 : Int} (r1 : sg_R x1) {Q : sg_M → Prop} (hf : fX9_mustBeSign s0 x1 Q) : sg_C l G yX9_mustBeSign cX9_mustBeSign 2 (none) 4 0 0 La s0 [sg_r 3, sg_i x1] (sg_HV La Q) := by
  refine sg_body (by decide +kernel) (Nat.le_of_ble_eq_true rfl) ?_
  intro p e s m args below meth c F hnm
  unfold fX9_mustBeSign at hf
  show sg_W p l e (sg_rm 4 0 0) s m args below meth c (MQ below (sg_Q (none) G La s.heap.size (sg_HV La Q)) args s 0 0 (sg_A La s.heap.size)) 2 G (sg_A La s.heap.size) La s0 0 0 0 [(0, sg_r 3), (1, sg_i x1)] []
  refine gw_aload_n F 0 rfl rfl (by decide) dX9_mustBeSign_0 ?_
  refine gw_iload_n F 1 rfl rfl dX9_mustBeSign_1 ?_
  refine gk_HZ F (gc_V F (S := []) (As := [sg_i x1]) (T := TX9) (N := 8) (CX9_skipSign hst r1 hf) (so_3 hst) (by decide) rfl kw_464 kw_92 kw_483 kw_462 kw_463 hcX9_skipSign ⟨by decide, by decide⟩ rfl rfl (Nat.le_of_ble_eq_true rfl) ⟨by decide, by decide⟩ dX9_mustBeSign_2) (fun u1 s3 h2 hf => ?_)
  refine gw_if_ne F (tgt := 13) dX9_mustBeSign_5 (by decide) (sg_B_R h2) (fun c4 => ?_) (fun c4 => ?_)
  · have hf := hf.1 c4
    exact gr_HV F hf (by decide) (by decide) dX9_mustBeSign_13
  · have hf := hf.2 c4
    refine gw_aload_n F 0 rfl rfl (by decide) dX9_mustBeSign_8 ?_
    refine gw_iconst F dX9_mustBeSign_9 ?_
    refine gk_HV F (gc_V F (S := []) (As := [sg_i 1]) (T := TX9) (N := 8) (CX9_fail hst (by decide) hf) (so_3 hst) (by decide) rfl kw_457 kw_92 kw_454 kw_455 kw_456 hcX9_fail ⟨by decide, by decide⟩ rfl rfl (Nat.le_of_ble_eq_true rfl) ⟨by decide, by decide⟩ dX9_mustBeSign_10) (fun s5 hf => ?_)
    exact gr_HV F hf (by decide) (by decide) dX9_mustBeSign_13

theorem dX3_readFrom_0 : decode cX3_readFrom 0 = .ok (.iconst 0, 1) := by decide +kernel
theorem dX3_readFrom_1 : decode cX3_readFrom 1 = .ok (.istore_n 2, 1) := by decide +kernel
theorem dX3_readFrom_2 : decode cX3_readFrom 2 = .ok (.iload_n 2, 1) := by decide +kernel
theorem dX3_readFrom_3 : decode cX3_readFrom 3 = .ok (.sipush 540, 3) := by decide +kernel
theorem dX3_readFrom_6 : decode cX3_readFrom 6 = .ok (.if_icmp .ge 27, 3) := by decide +kernel
theorem dX3_readFrom_9 : decode cX3_readFrom 9 = .ok (.aload_n 1, 1) := by decide +kernel
theorem dX3_readFrom_10 : decode cX3_readFrom 10 = .ok (.invokevirtual 28, 3) := by decide +kernel
theorem dX3_readFrom_13 : decode cX3_readFrom 13 = .ok (.ifCond .eq 20, 3) := by decide +kernel
theorem dX3_readFrom_16 : decode cX3_readFrom 16 = .ok (.aload_n 0, 1) := by decide +kernel
theorem dX3_readFrom_17 : decode cX3_readFrom 17 = .ok (.aload_n 1, 1) := by decide +kernel
theorem dX3_readFrom_18 : decode cX3_readFrom 18 = .ok (.invokevirtual 34, 3) := by decide +kernel
theorem dX3_readFrom_21 : decode cX3_readFrom 21 = .ok (.aload_n 1, 1) := by decide +kernel
theorem dX3_readFrom_22 : decode cX3_readFrom 22 = .ok (.bipush 59, 2) := by decide +kernel
theorem dX3_readFrom_24 : decode cX3_readFrom 24 = .ok (.invokevirtual 38, 3) := by decide +kernel
theorem dX3_readFrom_27 : decode cX3_readFrom 27 = .ok (.iinc 2 1, 3) := by decide +kernel
theorem dX3_readFrom_30 : decode cX3_readFrom 30 = .ok (.goto (-28), 3) := by decide +kernel
theorem dX3_readFrom_33 : decode cX3_readFrom 33 = .ok (.return_, 1) := by decide +kernel
theorem hcX3_readFrom : yX3_readFrom.cls ≠ "java/lang/invoke/MethodHandle" ∧ yX3_readFrom.cls ≠ "java/lang/invoke/VarHandle" ∧ (parseMethodDescriptor yX3_readFrom.desc).map (fun d => d.parameters.length) = some 1 := ⟨by decide +kernel, by decide +kernel, by decide +kernel⟩
def fX3_readFrom_L2 (o : Int) (Q : sg_M → Prop) : Nat → sg_M → Int → Prop
  | 0, _, _ => False
  | n_2 + 1, s_2, x2_2 => ((540 ≤ x2_2 → Q s_2) ∧ (¬ (540 ≤ x2_2) → fX9_isGoingOn s_2 (fun u2 => ((u2 = 0 → Q s_2) ∧ (¬ (u2 = 0) → fX3_readMove s_2 o (fun s5 => fX9_mustBeSign s5 59 (fun s6 => sg_R (x2_2 + 1) ∧ (fX3_readFrom_L2 o Q n_2) s6 (x2_2 + 1))))))))
def fX3_readFrom (s0 : sg_M) (o : Int) (Q : sg_M → Prop) : Prop := (∃ n8 : Nat, fX3_readFrom_L2 o Q n8 s0 0)
set_option maxHeartbeats 4000000 in
set_option maxRecDepth 100000 in
theorem CX3_readFrom {l : Launch} {G : sg_G} {La : sg_L} {s0 : sg_M} (hst : sg_St La) {o : Int} (to : sg_O La o 3) {Q : sg_M → Prop} (hf : fX3_readFrom s0 o Q) : sg_C l G yX3_readFrom cX3_readFrom 3 (none) 9 0 0 La s0 [sg_r o, sg_r 3] (sg_HV La Q) := by
  refine sg_body (by decide +kernel) (Nat.le_of_ble_eq_true rfl) ?_
  intro p e s m args below meth c F hnm
  unfold fX3_readFrom at hf
  show sg_W p l e (sg_rm 9 0 0) s m args below meth c (MQ below (sg_Q (none) G La s.heap.size (sg_HV La Q)) args s 0 0 (sg_A La s.heap.size)) 3 G (sg_A La s.heap.size) La s0 0 0 0 [(0, sg_r o), (1, sg_r 3)] []
  refine gw_iconst F dX3_readFrom_0 ?_
  refine gw_istore_n F rfl (by decide) rfl dX3_readFrom_1 ?_
  have L2 : ∀ n_2 : Nat, ∀ (s_2 : sg_M) (x2_2 : Int), sg_R x2_2 → fX3_readFrom_L2 o Q n_2 s_2 x2_2 → sg_W p l e (sg_rm 9 0 0) s m args below meth c (MQ below (sg_Q (none) G La s.heap.size (sg_HV La Q)) args s 0 0 (sg_A La s.heap.size)) 3 G (sg_A La s.heap.size) La s_2 0 0 2 [(0, sg_r o), (1, sg_r 3), (2, sg_i x2_2)] [] := by
    intro n_2
    induction n_2 with
    | zero => intro s_2 x2_2 r2_2 hf; exact hf.elim
    | succ n_2 ih =>
      intro s_2 x2_2 r2_2 hf
      unfold fX3_readFrom_L2 at hf
      refine gw_iload_n F 2 rfl rfl dX3_readFrom_2 ?_
      refine gw_sipush F rfl dX3_readFrom_3 ?_
      refine gw_icmp_ge F (tgt := 33) dX3_readFrom_6 (by decide) r2_2 (by decide) (fun c1 => ?_) (fun c1 => ?_)
      · have hf := hf.1 c1
        exact gr_HV F hf (by decide) (by decide) dX3_readFrom_33
      · have hf := hf.2 c1
        refine gw_aload_n F 1 rfl rfl (by decide) dX3_readFrom_9 ?_
        refine gk_PZ F (gc_V F (S := []) (As := []) (T := TX9) (N := 8) (CX9_isGoingOn hst hf) (so_3 hst) (by decide) rfl kw_392 kw_92 kw_608 kw_390 kw_391 hcX9_isGoingOn ⟨by decide, by decide⟩ rfl rfl (Nat.le_of_ble_eq_true rfl) ⟨by decide, by decide⟩ dX3_readFrom_10) (fun u2 h3 hf => ?_)
        refine gw_if_eq F (tgt := 33) dX3_readFrom_13 (by decide) (sg_B_R h3) (fun c4 => ?_) (fun c4 => ?_)
        · have hf := hf.1 c4
          exact gr_HV F hf (by decide) (by decide) dX3_readFrom_33
        · have hf := hf.2 c4
          refine gw_aload_n F 0 rfl rfl to.1 dX3_readFrom_16 ?_
          refine gw_aload_n F 1 rfl rfl (by decide) dX3_readFrom_17 ?_
          refine gk_HV F (gc_V F (S := []) (As := [sg_r 3]) (T := TX3) (N := 5) (CX3_readMove hst to hf) to (by decide) rfl kw_611 kw_95 kw_609 kw_610 kw_14 hcX3_readMove ⟨by decide, by decide⟩ rfl rfl (Nat.le_of_ble_eq_true rfl) ⟨by decide, by decide⟩ dX3_readFrom_18) (fun s5 hf => ?_)
          refine gw_aload_n F 1 rfl rfl (by decide) dX3_readFrom_21 ?_
          refine gw_bipush F rfl dX3_readFrom_22 ?_
          refine gk_HV F (gc_V F (S := []) (As := [sg_i 59]) (T := TX9) (N := 8) (CX9_mustBeSign hst (by decide) hf) (so_3 hst) (by decide) rfl kw_482 kw_92 kw_635 kw_480 kw_481 hcX9_mustBeSign ⟨by decide, by decide⟩ rfl rfl (Nat.le_of_ble_eq_true rfl) ⟨by decide, by decide⟩ dX3_readFrom_24) (fun s6 hf => ?_)
          refine gw_iinc F (z := (x2_2 + 1)) 2 rfl (by omega) (by decide) rfl dX3_readFrom_27 ?_
          refine gw_goto F (tgt := 2) dX3_readFrom_30 (by decide) ?_
          obtain ⟨g7, hf⟩ := hf
          refine gw_sub [1, 2, 0] rfl ?_
          exact ih s6 (x2_2 + 1) g7 hf
  obtain ⟨n8, hf⟩ := hf
  refine gw_sub [1, 2, 0] rfl ?_
  refine L2   n8 s0 0 (by decide) hf

theorem dX9_open_0 : decode cX9_open 0 = .ok (.aload_n 0, 1) := by decide +kernel
theorem dX9_open_1 : decode cX9_open 1 = .ok (.iload_n 1, 1) := by decide +kernel
theorem dX9_open_2 : decode cX9_open 2 = .ok (.putfield 7, 3) := by decide +kernel
theorem dX9_open_5 : decode cX9_open 5 = .ok (.aload_n 0, 1) := by decide +kernel
theorem dX9_open_6 : decode cX9_open 6 = .ok (.iconst 0, 1) := by decide +kernel
theorem dX9_open_7 : decode cX9_open 7 = .ok (.putfield 19, 3) := by decide +kernel
theorem dX9_open_10 : decode cX9_open 10 = .ok (.aload_n 0, 1) := by decide +kernel
theorem dX9_open_11 : decode cX9_open 11 = .ok (.iconst 0, 1) := by decide +kernel
theorem dX9_open_12 : decode cX9_open 12 = .ok (.putfield 25, 3) := by decide +kernel
theorem dX9_open_15 : decode cX9_open 15 = .ok (.aload_n 0, 1) := by decide +kernel
theorem dX9_open_16 : decode cX9_open 16 = .ok (.iconst 0, 1) := by decide +kernel
theorem dX9_open_17 : decode cX9_open 17 = .ok (.putfield 28, 3) := by decide +kernel
theorem dX9_open_20 : decode cX9_open 20 = .ok (.aload_n 0, 1) := by decide +kernel
theorem dX9_open_21 : decode cX9_open 21 = .ok (.invokevirtual 35, 3) := by decide +kernel
theorem dX9_open_24 : decode cX9_open 24 = .ok (.return_, 1) := by decide +kernel
theorem hcX9_open : yX9_open.cls ≠ "java/lang/invoke/MethodHandle" ∧ yX9_open.cls ≠ "java/lang/invoke/VarHandle" ∧ (parseMethodDescriptor yX9_open.desc).map (fun d => d.parameters.length) = some 1 := ⟨by decide +kernel, by decide +kernel, by decide +kernel⟩
def fX9_open (s0 : sg_M) (x1 : Int) (Q : sg_M → Prop) : Prop := ∀ s1 : sg_M, s1 = sg_up s0 3 1 x1 → ∀ s3 : sg_M, s3 = sg_up s1 3 4 0 → ∀ s5 : sg_M, s5 = sg_up s3 3 6 0 → ∀ s7 : sg_M, s7 = sg_up s5 3 7 0 → fX9_advance s7 (fun s9 => Q s9)
set_option maxHeartbeats 4000000 in
set_option maxRecDepth 100000 in
theorem CX9_open {l : Launch} {G : sg_G} {La : sg_L} {s0 : sg_M} (hst : sg_St La) {x1 : Int} (r1 : sg_R x1) {Q : sg_M → Prop} (hf : fX9_open s0 x1 Q) : sg_C l G yX9_open cX9_open 2 (none) 3 0 0 La s0 [sg_r 3, sg_i x1] (sg_HV La Q) := by
  refine sg_body (by decide +kernel) (Nat.le_of_ble_eq_true rfl) ?_
  intro p e s m args below meth c F hnm
  unfold fX9_open at hf
  show sg_W p l e (sg_rm 3 0 0) s m args below meth c (MQ below (sg_Q (none) G La s.heap.size (sg_HV La Q)) args s 0 0 (sg_A La s.heap.size)) 2 G (sg_A La s.heap.size) La s0 0 0 0 [(0, sg_r 3), (1, sg_i x1)] []
  refine gw_aload_n F 0 rfl rfl (by decide) dX9_open_0 ?_
  refine gw_iload_n F 1 rfl rfl dX9_open_1 ?_
  obtain ⟨s1, e2⟩ : ∃ z : sg_M, z = sg_up s0 3 1 x1 := ⟨_, rfl⟩
  have hf := hf s1 e2
  refine gw_put0 F (so_3 hst) (by decide) rfl sg_lay_RX9 (j := 1) (by decide) r1 e2 tyX9_ok nmX9 rfl (tyX9_ok 1 (by decide)) rfl (host := "") (.inl kw_139) dX9_open_2 ?_
  refine gw_aload_n F 0 rfl rfl (by decide) dX9_open_5 ?_
  refine gw_iconst F dX9_open_6 ?_
  obtain ⟨s3, e4⟩ : ∃ z : sg_M, z = sg_up s1 3 4 0 := ⟨_, rfl⟩
  have hf := hf s3 e4
  refine gw_put0 F (so_3 hst) (by decide) rfl sg_lay_RX9 (j := 4) (by decide) (by decide) e4 tyX9_ok nmX9 rfl (tyX9_ok 4 (by decide)) rfl (host := "") (.inl kw_142) dX9_open_7 ?_
  refine gw_aload_n F 0 rfl rfl (by decide) dX9_open_10 ?_
  refine gw_iconst F dX9_open_11 ?_
  obtain ⟨s5, e6⟩ : ∃ z : sg_M, z = sg_up s3 3 6 0 := ⟨_, rfl⟩
  have hf := hf s5 e6
  refine gw_put0 F (so_3 hst) (by decide) rfl sg_lay_RX9 (j := 6) (by decide) (by decide) e6 tyX9_ok nmX9 rfl (tyX9_ok 6 (by decide)) rfl (host := "") (.inl kw_144) dX9_open_12 ?_
  refine gw_aload_n F 0 rfl rfl (by decide) dX9_open_15 ?_
  refine gw_iconst F dX9_open_16 ?_
  obtain ⟨s7, e8⟩ : ∃ z : sg_M, z = sg_up s5 3 7 0 := ⟨_, rfl⟩
  have hf := hf s7 e8
  refine gw_put0 F (so_3 hst) (by decide) rfl sg_lay_RX9 (j := 7) (by decide) (by decide) e8 tyX9_ok nmX9 rfl (tyX9_ok 7 (by decide)) rfl (host := "") (.inl kw_148) dX9_open_17 ?_
  refine gw_aload_n F 0 rfl rfl (by decide) dX9_open_20 ?_
  refine gk_HV F (gc_V F (S := []) (As := []) (T := TX9) (N := 8) (CX9_advance hst hf) (so_3 hst) (by decide) rfl kw_368 kw_92 kw_365 kw_366 kw_367 hcX9_advance ⟨by decide, by decide⟩ rfl rfl (Nat.le_of_ble_eq_true rfl) ⟨by decide, by decide⟩ dX9_open_21) (fun s9 hf => ?_)
  exact gr_HV F hf (by decide) (by decide) dX9_open_24

theorem dX11_hand_0 : decode cX11_hand 0 = .ok (.new 30, 3) := by decide +kernel
theorem dX11_hand_3 : decode cX11_hand 3 = .ok (.dup, 1) := by decide +kernel
theorem dX11_hand_4 : decode cX11_hand 4 = .ok (.invokespecial 32, 3) := by decide +kernel
theorem dX11_hand_7 : decode cX11_hand 7 = .ok (.astore_n 1, 1) := by decide +kernel
theorem dX11_hand_8 : decode cX11_hand 8 = .ok (.aload_n 0, 1) := by decide +kernel
theorem dX11_hand_9 : decode cX11_hand 9 = .ok (.getfield 21, 3) := by decide +kernel
theorem dX11_hand_12 : decode cX11_hand 12 = .ok (.sipush 300, 3) := by decide +kernel
theorem dX11_hand_15 : decode cX11_hand 15 = .ok (.invokevirtual 128, 3) := by decide +kernel
theorem dX11_hand_18 : decode cX11_hand 18 = .ok (.aload_n 1, 1) := by decide +kernel
theorem dX11_hand_19 : decode cX11_hand 19 = .ok (.aload_n 0, 1) := by decide +kernel
theorem dX11_hand_20 : decode cX11_hand 20 = .ok (.getfield 21, 3) := by decide +kernel
theorem dX11_hand_23 : decode cX11_hand 23 = .ok (.invokevirtual 211, 3) := by decide +kernel
theorem dX11_hand_26 : decode cX11_hand 26 = .ok (.aload_n 0, 1) := by decide +kernel
theorem dX11_hand_27 : decode cX11_hand 27 = .ok (.getfield 21, 3) := by decide +kernel
theorem dX11_hand_30 : decode cX11_hand 30 = .ok (.getfield 135, 3) := by decide +kernel
theorem dX11_hand_33 : decode cX11_hand 33 = .ok (.ifCond .ne 11, 3) := by decide +kernel
theorem dX11_hand_36 : decode cX11_hand 36 = .ok (.aload_n 0, 1) := by decide +kernel
theorem dX11_hand_37 : decode cX11_hand 37 = .ok (.getfield 39, 3) := by decide +kernel
theorem dX11_hand_40 : decode cX11_hand 40 = .ok (.aload_n 1, 1) := by decide +kernel
theorem dX11_hand_41 : decode cX11_hand 41 = .ok (.putfield 212, 3) := by decide +kernel
theorem dX11_hand_44 : decode cX11_hand 44 = .ok (.aload_n 0, 1) := by decide +kernel
theorem dX11_hand_45 : decode cX11_hand 45 = .ok (.aload_n 1, 1) := by decide +kernel
theorem dX11_hand_46 : decode cX11_hand 46 = .ok (.getfield 216, 3) := by decide +kernel
theorem dX11_hand_49 : decode cX11_hand 49 = .ok (.invokevirtual 139, 3) := by decide +kernel
theorem dX11_hand_52 : decode cX11_hand 52 = .ok (.ireturn, 1) := by decide +kernel
theorem hcX11_hand : yX11_hand.cls ≠ "java/lang/invoke/MethodHandle" ∧ yX11_hand.cls ≠ "java/lang/invoke/VarHandle" ∧ (parseMethodDescriptor yX11_hand.desc).map (fun d => d.parameters.length) = some 0 := ⟨by decide +kernel, by decide +kernel, by decide +kernel⟩
def fX11_hand (La : sg_L) (s0 : sg_M) (Q : Int → sg_L → sg_M → Prop) : Prop := ∀ (q1 : Nat) (La2 : sg_L), La2 = sg_pu La 23 q1 → ∀ s3 : sg_M, s3 = sg_nw s0 La.1 23 → ∀ o4 : Int, o4 = (La.1 : Int) → fX3_init La2 s3 o4 (fun La13 s14 => fX9_open s14 300 (fun s20 => fX3_readFrom s20 o4 (fun s22 => (((s22 3 6) ≠ 0 → fX11_closeText s22 (s22 o4 2) (fun u27 s29 => Q u27 La13 s29)) ∧ ((s22 3 6) = 0 → ∀ s31 : sg_M, s31 = sg_up s22 4 1 o4 → fX11_closeText s31 (s31 o4 2) (fun u34 s36 => Q u34 La13 s36))))))
set_option maxHeartbeats 4000000 in
set_option maxRecDepth 100000 in
theorem CX11_hand {l : Launch} {G : sg_G} {La : sg_L} {s0 : sg_M} (hst : sg_St La) {Q : Int → sg_L → sg_M → Prop} (hf : fX11_hand La s0 Q) : sg_C l G yX11_hand cX11_hand 2 (some .int) 10 3 405 La s0 [sg_r 0] (sg_BI La Q) := by
  refine sg_body (by decide +kernel) (Nat.le_of_ble_eq_true rfl) ?_
  intro p e s m args below meth c F hnm
  unfold fX11_hand at hf
  show sg_W p l e (sg_rm 10 3 405) s m args below meth c (MQ below (sg_Q (some .int) G La s.heap.size (sg_BI La Q)) args s 3 405 (sg_A La s.heap.size)) 2 G (sg_A La s.heap.size) La s0 0 0 0 [(0, sg_r 0)] []
  refine gy_new F (kd := 23) (T := TX3) (by decide) rfl sg_lay_RX3 tyX3_ok kw_172 kw_173 kw_95 ns_X3 nf_X3 nr_X3 (by decide) (by decide) (List.forall_mem_cons.mpr ⟨(Or.inl (so_0 hst).2.1), (fun _ h => absurd h List.not_mem_nil)⟩) (fun _ h => absurd h List.not_mem_nil) dX11_hand_0 (fun q1 La2 s3 o4 e5 e6 e7 t8 hX9 => ?_)
  have hf := hf q1 La2 e5 s3 e6 o4 e7
  have hn10 : La.1 ≤ o4.toNat := by rw [e7, Int.toNat_natCast]; exact (sg_X.rf : sg_X La La).1
  have hst11 := hst.X hX9
  have hX12 := sg_X.tr (sg_X.rf) hX9
  refine gw_dup F rfl dX11_hand_3 ?_
  refine gk_BV F (gc_IN F (S := [sg_r o4]) (As := []) (CX3_init t8 hf) t8.1 kw_176 kw_95 kw_174 kw_175 rfl hcX3_init ⟨by decide, by decide⟩ rfl rfl (Nat.le_of_ble_eq_true rfl) ⟨by decide, by decide⟩ dX11_hand_4) (List.forall_mem_cons.mpr ⟨(Or.inl (so_0 hst11).2.1), (fun _ h => absurd h List.not_mem_nil)⟩) (List.forall_mem_cons.mpr ⟨(Or.inl t8.2.1), (fun _ h => absurd h List.not_mem_nil)⟩) (fun La13 s14 hX15 hf => ?_)
  have t16 := (sg_O_sealed t8).X hX15
  have hst17 := (sg_St_sx hst11 t8 ⟨by decide, by decide, by decide⟩).X hX15
  have hX18 := (sg_X_sx (hX12) hn10).tr hX15
  refine gw_astore_n F rfl t16.1 (by decide) rfl dX11_hand_7 ?_
  refine gw_aload_n F 1 rfl rfl (by decide) dX11_hand_8 ?_
  refine gw_get7 F (so_0 hst17) (by decide) rfl sg_lay_RX11 (j := 1) (by decide) (o1 := 3) (by first | rfl | omega) rfl (host := "") (.inl kw_327) dX11_hand_9 (fun h19 => ?_)
  refine gw_sipush F rfl dX11_hand_12 ?_
  refine gk_HV F (gc_V F (S := []) (As := [sg_i 300]) (T := TX9) (N := 8) (CX9_open hst17 (by decide) hf) (so_3 hst17) (by decide) rfl kw_364 kw_92 kw_361 kw_362 kw_363 hcX9_open ⟨by decide, by decide⟩ rfl rfl (Nat.le_of_ble_eq_true rfl) ⟨by decide, by decide⟩ dX11_hand_15) (fun s20 hf => ?_)
  refine gw_aload_n F 0 rfl rfl t16.1 dX11_hand_18 ?_
  refine gw_aload_n F 1 rfl rfl (by decide) dX11_hand_19 ?_
  refine gw_get7 F (so_0 hst17) (by decide) rfl sg_lay_RX11 (j := 1) (by decide) (o1 := 3) (by first | rfl | omega) rfl (host := "") (.inl kw_327) dX11_hand_20 (fun h21 => ?_)
  refine gk_HV F (gc_V F (S := []) (As := [sg_r 3]) (T := TX3) (N := 5) (CX3_readFrom hst17 t16 hf) t16 (by decide) rfl kw_607 kw_95 kw_604 kw_605 kw_606 hcX3_readFrom ⟨by decide, by decide⟩ rfl rfl (Nat.le_of_ble_eq_true rfl) ⟨by decide, by decide⟩ dX11_hand_23) (fun s22 hf => ?_)
  refine gw_aload_n F 1 rfl rfl (by decide) dX11_hand_26 ?_
  refine gw_get7 F (so_0 hst17) (by decide) rfl sg_lay_RX11 (j := 1) (by decide) (o1 := 3) (by first | rfl | omega) rfl (host := "") (.inl kw_327) dX11_hand_27 (fun h23 => ?_)
  refine gw_get0 F (so_3 hst17) (by decide) rfl sg_lay_RX9 (j := 6) (by decide) rfl (.inr kw_145) dX11_hand_30 (fun h24 => ?_)
  refine gw_if_ne F (tgt := 44) dX11_hand_33 (by decide) h24 (fun c25 => ?_) (fun c25 => ?_)
  · have hf := hf.1 c25
    refine gw_aload_n F 1 rfl rfl (by decide) dX11_hand_44 ?_
    refine gw_aload_n F 0 rfl rfl t16.1 dX11_hand_45 ?_
    refine gw_get0 F t16 (by decide) rfl sg_lay_RX3 (j := 2) (by decide) rfl (.inr kw_181) dX11_hand_46 (fun h26 => ?_)
    refine gk_HI F (gc_V F (S := []) (As := [sg_i (s22 o4 2)]) (T := TX11) (N := 19) (CX11_closeText hst17 h26 hf) (so_0 hst17) (by decide) rfl kw_487 kw_90 kw_485 kw_486 kw_2 hcX11_closeText ⟨by decide, by decide⟩ rfl rfl (Nat.le_of_ble_eq_true rfl) ⟨by decide, by decide⟩ dX11_hand_49) (fun u27 s29 h28 hf => ?_)
    exact gr_BI F h28 hf (hX18) (by decide) (by decide) dX11_hand_52
  · have hf := hf.2 c25
    refine gw_aload_n F 1 rfl rfl (by decide) dX11_hand_36 ?_
    refine gw_get7 F (so_0 hst17) (by decide) rfl sg_lay_RX11 (j := 2) (by decide) (o1 := 4) (by first | rfl | omega) rfl (host := "") (.inl kw_328) dX11_hand_37 (fun h30 => ?_)
    refine gw_aload_n F 0 rfl rfl t16.1 dX11_hand_40 ?_
    obtain ⟨s31, e32⟩ : ∃ z : sg_M, z = sg_up s22 4 1 o4 := ⟨_, rfl⟩
    have hf := hf s31 e32
    refine gw_put4 F (so_4 hst17) (by decide) rfl sg_lay_RX7 (j := 1) (by decide) t16.1 t16 e32 tyX7_ok nmX7 rfl (tyX7_ok 1 (by decide)) rfl (.inr kw_236) dX11_hand_41 ?_
    refine gw_aload_n F 1 rfl rfl (by decide) dX11_hand_44 ?_
    refine gw_aload_n F 0 rfl rfl t16.1 dX11_hand_45 ?_
    refine gw_get0 F t16 (by decide) rfl sg_lay_RX3 (j := 2) (by decide) rfl (.inr kw_181) dX11_hand_46 (fun h33 => ?_)
    refine gk_HI F (gc_V F (S := []) (As := [sg_i (s31 o4 2)]) (T := TX11) (N := 19) (CX11_closeText hst17 h33 hf) (so_0 hst17) (by decide) rfl kw_487 kw_90 kw_485 kw_486 kw_2 hcX11_closeText ⟨by decide, by decide⟩ rfl rfl (Nat.le_of_ble_eq_true rfl) ⟨by decide, by decide⟩ dX11_hand_49) (fun u34 s36 h35 hf => ?_)
    exact gr_BI F h35 hf (hX18) (by decide) (by decide) dX11_hand_52

theorem dX6_readNotes_0 : decode cX6_readNotes 0 = .ok (.aload_n 0, 1) := by decide +kernel
theorem dX6_readNotes_1 : decode cX6_readNotes 1 = .ok (.getfield 20, 3) := by decide +kernel
theorem dX6_readNotes_4 : decode cX6_readNotes 4 = .ok (.invokevirtual 27, 3) := by decide +kernel
theorem dX6_readNotes_7 : decode cX6_readNotes 7 = .ok (.aload_n 1, 1) := by decide +kernel
theorem dX6_readNotes_8 : decode cX6_readNotes 8 = .ok (.getfield 30, 3) := by decide +kernel
theorem dX6_readNotes_11 : decode cX6_readNotes 11 = .ok (.iconst 2, 1) := by decide +kernel
theorem dX6_readNotes_12 : decode cX6_readNotes 12 = .ok (.if_icmp .lt 21, 3) := by decide +kernel
theorem dX6_readNotes_15 : decode cX6_readNotes 15 = .ok (.aload_n 1, 1) := by decide +kernel
theorem dX6_readNotes_16 : decode cX6_readNotes 16 = .ok (.getfield 30, 3) := by decide +kernel
theorem dX6_readNotes_19 : decode cX6_readNotes 19 = .ok (.bipush 120, 2) := by decide +kernel
theorem dX6_readNotes_21 : decode cX6_readNotes 21 = .ok (.if_icmp .gt 12, 3) := by decide +kernel
theorem dX6_readNotes_24 : decode cX6_readNotes 24 = .ok (.aload_n 1, 1) := by decide +kernel
theorem dX6_readNotes_25 : decode cX6_readNotes 25 = .ok (.getfield 30, 3) := by decide +kernel
theorem dX6_readNotes_28 : decode cX6_readNotes 28 = .ok (.iconst 2, 1) := by decide +kernel
theorem dX6_readNotes_29 : decode cX6_readNotes 29 = .ok (.irem, 1) := by decide +kernel
theorem dX6_readNotes_30 : decode cX6_readNotes 30 = .ok (.ifCond .eq 5, 3) := by decide +kernel
theorem dX6_readNotes_33 : decode cX6_readNotes 33 = .ok (.iconst 0, 1) := by decide +kernel
theorem dX6_readNotes_34 : decode cX6_readNotes 34 = .ok (.ireturn, 1) := by decide +kernel
theorem dX6_readNotes_35 : decode cX6_readNotes 35 = .ok (.iconst 0, 1) := by decide +kernel
theorem dX6_readNotes_36 : decode cX6_readNotes 36 = .ok (.istore_n 2, 1) := by decide +kernel
theorem dX6_readNotes_37 : decode cX6_readNotes 37 = .ok (.iload_n 2, 1) := by decide +kernel
theorem dX6_readNotes_38 : decode cX6_readNotes 38 = .ok (.aload_n 1, 1) := by decide +kernel
theorem dX6_readNotes_39 : decode cX6_readNotes 39 = .ok (.getfield 30, 3) := by decide +kernel
theorem dX6_readNotes_42 : decode cX6_readNotes 42 = .ok (.if_icmp .ge 34, 3) := by decide +kernel
theorem dX6_readNotes_45 : decode cX6_readNotes 45 = .ok (.aload_n 1, 1) := by decide +kernel
theorem dX6_readNotes_46 : decode cX6_readNotes 46 = .ok (.iload_n 2, 1) := by decide +kernel
theorem dX6_readNotes_47 : decode cX6_readNotes 47 = .ok (.invokevirtual 36, 3) := by decide +kernel
theorem dX6_readNotes_50 : decode cX6_readNotes 50 = .ok (.invokestatic 40, 3) := by decide +kernel
theorem dX6_readNotes_53 : decode cX6_readNotes 53 = .ok (.ifCond .ne 5, 3) := by decide +kernel
theorem dX6_readNotes_56 : decode cX6_readNotes 56 = .ok (.iconst 0, 1) := by decide +kernel
theorem dX6_readNotes_57 : decode cX6_readNotes 57 = .ok (.ireturn, 1) := by decide +kernel
theorem dX6_readNotes_58 : decode cX6_readNotes 58 = .ok (.aload_n 0, 1) := by decide +kernel
theorem dX6_readNotes_59 : decode cX6_readNotes 59 = .ok (.getfield 20, 3) := by decide +kernel
theorem dX6_readNotes_62 : decode cX6_readNotes 62 = .ok (.aload_n 1, 1) := by decide +kernel
theorem dX6_readNotes_63 : decode cX6_readNotes 63 = .ok (.iload_n 2, 1) := by decide +kernel
theorem dX6_readNotes_64 : decode cX6_readNotes 64 = .ok (.invokevirtual 36, 3) := by decide +kernel
theorem dX6_readNotes_67 : decode cX6_readNotes 67 = .ok (.invokevirtual 44, 3) := by decide +kernel
theorem dX6_readNotes_70 : decode cX6_readNotes 70 = .ok (.iinc 2 2, 3) := by decide +kernel
theorem dX6_readNotes_73 : decode cX6_readNotes 73 = .ok (.goto (-36), 3) := by decide +kernel
theorem dX6_readNotes_76 : decode cX6_readNotes 76 = .ok (.iconst 1, 1) := by decide +kernel
theorem dX6_readNotes_77 : decode cX6_readNotes 77 = .ok (.ireturn, 1) := by decide +kernel
theorem hcX6_readNotes : yX6_readNotes.cls ≠ "java/lang/invoke/MethodHandle" ∧ yX6_readNotes.cls ≠ "java/lang/invoke/VarHandle" ∧ (parseMethodDescriptor yX6_readNotes.desc).map (fun d => d.parameters.length) = some 1 := ⟨by decide +kernel, by decide +kernel, by decide +kernel⟩
def fX6_readNotes_L37 (La : sg_L) (Q : Int → sg_M → Prop) : Nat → sg_M → Int → Prop
  | 0, _, _ => False
  | n_37 + 1, s_37, x2_37 => (((s_37 1 1) ≤ x2_37 → Q 1 s_37) ∧ (¬ ((s_37 1 1) ≤ x2_37) → fX8_pairAt s_37 x2_37 (fun u12 => fX11_isTone u12 (fun u14 => ((u14 ≠ 0 → fX8_pairAt s_37 x2_37 (fun u18 => fX4_add La s_37 48 u18 (fun s20 => sg_R (x2_37 + 2) ∧ (fX6_readNotes_L37 La Q n_37) s20 (x2_37 + 2)))) ∧ (u14 = 0 → Q 0 s_37))))))
def fX6_readNotes (La : sg_L) (s0 : sg_M) (Q : Int → sg_M → Prop) : Prop := fX4_clear s0 48 (fun s2 => (((s2 1 1) < 2 → Q 0 s2) ∧ (¬ ((s2 1 1) < 2) → ((120 < (s2 1 1) → Q 0 s2) ∧ (¬ (120 < (s2 1 1)) → sg_R (Int.tmod (s2 1 1) 2) ∧ (((Int.tmod (s2 1 1) 2) = 0 → (∃ n22 : Nat, fX6_readNotes_L37 La Q n22 s2 0)) ∧ (¬ ((Int.tmod (s2 1 1) 2) = 0) → Q 0 s2)))))))
set_option maxHeartbeats 4000000 in
set_option maxRecDepth 100000 in
theorem CX6_readNotes {l : Launch} {G : sg_G} {La : sg_L} {s0 : sg_M} (hst : sg_St La) {Q : Int → sg_M → Prop} (hf : fX6_readNotes La s0 Q) : sg_C l G yX6_readNotes cX6_readNotes 3 (some .boolean) 3 0 0 La s0 [sg_r 46, sg_r 1] (sg_HZ La Q) := by
  refine sg_body (by decide +kernel) (Nat.le_of_ble_eq_true rfl) ?_
  intro p e s m args below meth c F hnm
  unfold fX6_readNotes at hf
  show sg_W p l e (sg_rm 3 0 0) s m args below meth c (MQ below (sg_Q (some .boolean) G La s.heap.size (sg_HZ La Q)) args s 0 0 (sg_A La s.heap.size)) 3 G (sg_A La s.heap.size) La s0 0 0 0 [(0, sg_r 46), (1, sg_r 1)] []
  refine gw_aload_n F 0 rfl rfl (by decide) dX6_readNotes_0 ?_
  refine gw_get3 F (so_46 hst) (by decide) rfl sg_lay_RX6 (j := 1) (by decide) (o1 := 48) (by first | rfl | omega) rfl (host := "") (.inl kw_313) dX6_readNotes_1 (fun h1 => ?_)
  refine gk_HV F (gc_V F (S := []) (As := []) (T := TX4) (N := 3) (CX4_clear (so_48 hst) hf) (so_48 hst) (by decide) rfl kw_531 kw_97 kw_676 kw_529 kw_530 hcX4_clear ⟨by decide, by decide⟩ rfl rfl (Nat.le_of_ble_eq_true rfl) ⟨by decide, by decide⟩ dX6_readNotes_4) (fun s2 hf => ?_)
  refine gw_aload_n F 1 rfl rfl (by decide) dX6_readNotes_7 ?_
  refine gw_get0 F (so_1 hst) (by decide) rfl sg_lay_RX8 (j := 1) (by decide) rfl (.inr kw_129) dX6_readNotes_8 (fun h3 => ?_)
  refine gw_iconst F dX6_readNotes_11 ?_
  refine gw_icmp_lt F (tgt := 33) dX6_readNotes_12 (by decide) h3 (by decide) (fun c4 => ?_) (fun c4 => ?_)
  · have hf := hf.1 c4
    refine gw_iconst F dX6_readNotes_33 ?_
    exact gr_HZ F (by decide) hf (by decide) (by decide) dX6_readNotes_34
  · have hf := hf.2 c4
    refine gw_aload_n F 1 rfl rfl (by decide) dX6_readNotes_15 ?_
    refine gw_get0 F (so_1 hst) (by decide) rfl sg_lay_RX8 (j := 1) (by decide) rfl (.inr kw_129) dX6_readNotes_16 (fun h5 => ?_)
    refine gw_bipush F rfl dX6_readNotes_19 ?_
    refine gw_icmp_gt F (tgt := 33) dX6_readNotes_21 (by decide) h5 (by decide) (fun c6 => ?_) (fun c6 => ?_)
    · have hf := hf.1 c6
      refine gw_iconst F dX6_readNotes_33 ?_
      exact gr_HZ F (by decide) hf (by decide) (by decide) dX6_readNotes_34
    · have hf := hf.2 c6
      refine gw_aload_n F 1 rfl rfl (by decide) dX6_readNotes_24 ?_
      refine gw_get0 F (so_1 hst) (by decide) rfl sg_lay_RX8 (j := 1) (by decide) rfl (.inr kw_129) dX6_readNotes_25 (fun h7 => ?_)
      refine gw_iconst F dX6_readNotes_28 ?_
      refine gw_irem F h7 (by decide) (by decide) rfl dX6_readNotes_29 ?_
      obtain ⟨g8, hf⟩ := hf
      refine gw_if_eq F (tgt := 35) dX6_readNotes_30 (by decide) g8 (fun c9 => ?_) (fun c9 => ?_)
      · have hf := hf.1 c9
        refine gw_iconst F dX6_readNotes_35 ?_
        refine gw_istore_n F rfl (by decide) rfl dX6_readNotes_36 ?_
        have L37 : ∀ n_37 : Nat, ∀ (s_37 : sg_M) (x2_37 : Int), sg_R x2_37 → fX6_readNotes_L37 La Q n_37 s_37 x2_37 → sg_W p l e (sg_rm 3 0 0) s m args below meth c (MQ below (sg_Q (some .boolean) G La s.heap.size (sg_HZ La Q)) args s 0 0 (sg_A La s.heap.size)) 3 G (sg_A La s.heap.size) La s_37 0 0 37 [(0, sg_r 46), (1, sg_r 1), (2, sg_i x2_37)] [] := by
          intro n_37
          induction n_37 with
          | zero => intro s_37 x2_37 r2_37 hf; exact hf.elim
          | succ n_37 ih =>
            intro s_37 x2_37 r2_37 hf
            unfold fX6_readNotes_L37 at hf
            refine gw_iload_n F 2 rfl rfl dX6_readNotes_37 ?_
            refine gw_aload_n F 1 rfl rfl (by decide) dX6_readNotes_38 ?_
            refine gw_get0 F (so_1 hst) (by decide) rfl sg_lay_RX8 (j := 1) (by decide) rfl (.inr kw_129) dX6_readNotes_39 (fun h10 => ?_)
            refine gw_icmp_ge F (tgt := 76) dX6_readNotes_42 (by decide) r2_37 h10 (fun c11 => ?_) (fun c11 => ?_)
            · have hf := hf.1 c11
              refine gw_iconst F dX6_readNotes_76 ?_
              exact gr_HZ F (by decide) hf (by decide) (by decide) dX6_readNotes_77
            · have hf := hf.2 c11
              refine gw_aload_n F 1 rfl rfl (by decide) dX6_readNotes_45 ?_
              refine gw_iload_n F 2 rfl rfl dX6_readNotes_46 ?_
              refine gk_PI F (gc_V F (S := []) (As := [sg_i x2_37]) (T := TX8) (N := 2) (CX8_pairAt hst r2_37 hf) (so_1 hst) (by decide) rfl kw_680 kw_91 kw_677 kw_678 kw_679 hcX8_pairAt ⟨by decide, by decide⟩ rfl rfl (Nat.le_of_ble_eq_true rfl) ⟨by decide, by decide⟩ dX6_readNotes_47) (fun u12 h13 hf => ?_)
              refine gk_PZ F (gc_SN F (S := []) (As := [sg_i u12]) (CX11_isTone h13 hf) kw_684 kw_90 kw_682 kw_683 hcX11_isTone ⟨by decide, by decide⟩ rfl rfl (Nat.le_of_ble_eq_true rfl) ⟨by decide, by decide⟩ dX6_readNotes_50) (fun u14 h15 hf => ?_)
              refine gw_if_ne F (tgt := 58) dX6_readNotes_53 (by decide) (sg_B_R h15) (fun c16 => ?_) (fun c16 => ?_)
              · have hf := hf.1 c16
                refine gw_aload_n F 0 rfl rfl (by decide) dX6_readNotes_58 ?_
                refine gw_get3 F (so_46 hst) (by decide) rfl sg_lay_RX6 (j := 1) (by decide) (o1 := 48) (by first | rfl | omega) rfl (host := "") (.inl kw_313) dX6_readNotes_59 (fun h17 => ?_)
                refine gw_aload_n F 1 rfl rfl (by decide) dX6_readNotes_62 ?_
                refine gw_iload_n F 2 rfl rfl dX6_readNotes_63 ?_
                refine gk_PI F (gc_V F (S := [sg_r 48]) (As := [sg_i x2_37]) (T := TX8) (N := 2) (CX8_pairAt hst r2_37 hf) (so_1 hst) (by decide) rfl kw_680 kw_91 kw_677 kw_678 kw_679 hcX8_pairAt ⟨by decide, by decide⟩ rfl rfl (Nat.le_of_ble_eq_true rfl) ⟨by decide, by decide⟩ dX6_readNotes_64) (fun u18 h19 hf => ?_)
                refine gk_HV F (gc_V F (S := []) (As := [sg_i u18]) (T := TX4) (N := 3) (CX4_add (so_48 hst) h19 hf) (so_48 hst) (by decide) rfl kw_538 kw_97 kw_685 kw_536 kw_537 hcX4_add ⟨by decide, by decide⟩ rfl rfl (Nat.le_of_ble_eq_true rfl) ⟨by decide, by decide⟩ dX6_readNotes_67) (fun s20 hf => ?_)
                refine gw_iinc F (z := (x2_37 + 2)) 2 rfl (by omega) (by decide) rfl dX6_readNotes_70 ?_
                refine gw_goto F (tgt := 37) dX6_readNotes_73 (by decide) ?_
                obtain ⟨g21, hf⟩ := hf
                refine gw_sub [1, 2, 0] rfl ?_
                exact ih s20 (x2_37 + 2) g21 hf
              · have hf := hf.2 c16
                refine gw_iconst F dX6_readNotes_56 ?_
                exact gr_HZ F (by decide) hf (by decide) (by decide) dX6_readNotes_57
        obtain ⟨n22, hf⟩ := hf
        refine gw_sub [1, 2, 0] rfl ?_
        refine L37   n22 s2 0 (by decide) hf
      · have hf := hf.2 c9
        refine gw_iconst F dX6_readNotes_33 ?_
        exact gr_HZ F (by decide) hf (by decide) (by decide) dX6_readNotes_34

theorem dX4_copyFrom_0 : decode cX4_copyFrom 0 = .ok (.aload_n 0, 1) := by decide +kernel
theorem dX4_copyFrom_1 : decode cX4_copyFrom 1 = .ok (.invokevirtual 29, 3) := by decide +kernel
theorem dX4_copyFrom_4 : decode cX4_copyFrom 4 = .ok (.iconst 0, 1) := by decide +kernel
theorem dX4_copyFrom_5 : decode cX4_copyFrom 5 = .ok (.istore_n 2, 1) := by decide +kernel
theorem dX4_copyFrom_6 : decode cX4_copyFrom 6 = .ok (.iload_n 2, 1) := by decide +kernel
theorem dX4_copyFrom_7 : decode cX4_copyFrom 7 = .ok (.aload_n 1, 1) := by decide +kernel
theorem dX4_copyFrom_8 : decode cX4_copyFrom 8 = .ok (.getfield 9, 3) := by decide +kernel
theorem dX4_copyFrom_11 : decode cX4_copyFrom 11 = .ok (.if_icmp .ge 18, 3) := by decide +kernel
theorem dX4_copyFrom_14 : decode cX4_copyFrom 14 = .ok (.aload_n 0, 1) := by decide +kernel
theorem dX4_copyFrom_15 : decode cX4_copyFrom 15 = .ok (.aload_n 1, 1) := by decide +kernel
theorem dX4_copyFrom_16 : decode cX4_copyFrom 16 = .ok (.iload_n 2, 1) := by decide +kernel
theorem dX4_copyFrom_17 : decode cX4_copyFrom 17 = .ok (.invokevirtual 32, 3) := by decide +kernel
theorem dX4_copyFrom_20 : decode cX4_copyFrom 20 = .ok (.invokevirtual 36, 3) := by decide +kernel
theorem dX4_copyFrom_23 : decode cX4_copyFrom 23 = .ok (.iinc 2 1, 3) := by decide +kernel
theorem dX4_copyFrom_26 : decode cX4_copyFrom 26 = .ok (.goto (-20), 3) := by decide +kernel
theorem dX4_copyFrom_29 : decode cX4_copyFrom 29 = .ok (.return_, 1) := by decide +kernel
theorem hcX4_copyFrom : yX4_copyFrom.cls ≠ "java/lang/invoke/MethodHandle" ∧ yX4_copyFrom.cls ≠ "java/lang/invoke/VarHandle" ∧ (parseMethodDescriptor yX4_copyFrom.desc).map (fun d => d.parameters.length) = some 1 := ⟨by decide +kernel, by decide +kernel, by decide +kernel⟩
def fX4_copyFrom_L6 (La : sg_L) (o : Int) (o1 : Int) (Q : sg_M → Prop) : Nat → sg_M → Int → Prop
  | 0, _, _ => False
  | n_6 + 1, s_6, x2_6 => (((s_6 o1 1) ≤ x2_6 → Q s_6) ∧ (¬ ((s_6 o1 1) ≤ x2_6) → fX4_at La s_6 o1 x2_6 (fun u4 => fX4_add La s_6 o u4 (fun s6 => sg_R (x2_6 + 1) ∧ (fX4_copyFrom_L6 La o o1 Q n_6) s6 (x2_6 + 1)))))
def fX4_copyFrom (La : sg_L) (s0 : sg_M) (o : Int) (o1 : Int) (Q : sg_M → Prop) : Prop := fX4_clear s0 o (fun s1 => (∃ n8 : Nat, fX4_copyFrom_L6 La o o1 Q n8 s1 0))
set_option maxHeartbeats 4000000 in
set_option maxRecDepth 100000 in
theorem CX4_copyFrom {l : Launch} {G : sg_G} {La : sg_L} {s0 : sg_M} {o : Int} (to : sg_O La o 4) {o1 : Int} (t1 : sg_O La o1 4) {Q : sg_M → Prop} (hf : fX4_copyFrom La s0 o o1 Q) : sg_C l G yX4_copyFrom cX4_copyFrom 3 (none) 2 0 0 La s0 [sg_r o, sg_r o1] (sg_HV La Q) := by
  refine sg_body (by decide +kernel) (Nat.le_of_ble_eq_true rfl) ?_
  intro p e s m args below meth c F hnm
  unfold fX4_copyFrom at hf
  show sg_W p l e (sg_rm 2 0 0) s m args below meth c (MQ below (sg_Q (none) G La s.heap.size (sg_HV La Q)) args s 0 0 (sg_A La s.heap.size)) 3 G (sg_A La s.heap.size) La s0 0 0 0 [(0, sg_r o), (1, sg_r o1)] []
  refine gw_aload_n F 0 rfl rfl to.1 dX4_copyFrom_0 ?_
  refine gk_HV F (gc_V F (S := []) (As := []) (T := TX4) (N := 3) (CX4_clear to hf) to (by decide) rfl kw_531 kw_97 kw_870 kw_529 kw_530 hcX4_clear ⟨by decide, by decide⟩ rfl rfl (Nat.le_of_ble_eq_true rfl) ⟨by decide, by decide⟩ dX4_copyFrom_1) (fun s1 hf => ?_)
  refine gw_iconst F dX4_copyFrom_4 ?_
  refine gw_istore_n F rfl (by decide) rfl dX4_copyFrom_5 ?_
  have L6 : ∀ n_6 : Nat, ∀ (s_6 : sg_M) (x2_6 : Int), sg_R x2_6 → fX4_copyFrom_L6 La o o1 Q n_6 s_6 x2_6 → sg_W p l e (sg_rm 2 0 0) s m args below meth c (MQ below (sg_Q (none) G La s.heap.size (sg_HV La Q)) args s 0 0 (sg_A La s.heap.size)) 3 G (sg_A La s.heap.size) La s_6 0 0 6 [(0, sg_r o), (1, sg_r o1), (2, sg_i x2_6)] [] := by
    intro n_6
    induction n_6 with
    | zero => intro s_6 x2_6 r2_6 hf; exact hf.elim
    | succ n_6 ih =>
      intro s_6 x2_6 r2_6 hf
      unfold fX4_copyFrom_L6 at hf
      refine gw_iload_n F 2 rfl rfl dX4_copyFrom_6 ?_
      refine gw_aload_n F 1 rfl rfl t1.1 dX4_copyFrom_7 ?_
      refine gw_get0 F t1 (by decide) rfl sg_lay_RX4 (j := 1) (by decide) rfl (host := "") (.inl kw_200) dX4_copyFrom_8 (fun h2 => ?_)
      refine gw_icmp_ge F (tgt := 29) dX4_copyFrom_11 (by decide) r2_6 h2 (fun c3 => ?_) (fun c3 => ?_)
      · have hf := hf.1 c3
        exact gr_HV F hf (by decide) (by decide) dX4_copyFrom_29
      · have hf := hf.2 c3
        refine gw_aload_n F 0 rfl rfl to.1 dX4_copyFrom_14 ?_
        refine gw_aload_n F 1 rfl rfl t1.1 dX4_copyFrom_15 ?_
        refine gw_iload_n F 2 rfl rfl dX4_copyFrom_16 ?_
        refine gk_PI F (gc_V F (S := [sg_r o]) (As := [sg_i x2_6]) (T := TX4) (N := 3) (CX4_at t1 r2_6 hf) t1 (by decide) rfl kw_546 kw_97 kw_871 kw_544 kw_545 hcX4_at ⟨by decide, by decide⟩ rfl rfl (Nat.le_of_ble_eq_true rfl) ⟨by decide, by decide⟩ dX4_copyFrom_17) (fun u4 h5 hf => ?_)
        refine gk_HV F (gc_V F (S := []) (As := [sg_i u4]) (T := TX4) (N := 3) (CX4_add to h5 hf) to (by decide) rfl kw_538 kw_97 kw_872 kw_536 kw_537 hcX4_add ⟨by decide, by decide⟩ rfl rfl (Nat.le_of_ble_eq_true rfl) ⟨by decide, by decide⟩ dX4_copyFrom_20) (fun s6 hf => ?_)
        refine gw_iinc F (z := (x2_6 + 1)) 2 rfl (by omega) (by decide) rfl dX4_copyFrom_23 ?_
        refine gw_goto F (tgt := 6) dX4_copyFrom_26 (by decide) ?_
        obtain ⟨g7, hf⟩ := hf
        refine gw_sub [1, 2, 0] rfl ?_
        exact ih s6 (x2_6 + 1) g7 hf
  obtain ⟨n8, hf⟩ := hf
  refine gw_sub [1, 2, 0] rfl ?_
  refine L6   n8 s1 0 (by decide) hf

theorem dX11_hearBook_0 : decode cX11_hearBook 0 = .ok (.aload_n 0, 1) := by decide +kernel
theorem dX11_hearBook_1 : decode cX11_hearBook 1 = .ok (.getfield 93, 3) := by decide +kernel
theorem dX11_hearBook_4 : decode cX11_hearBook 4 = .ok (.getfield 346, 3) := by decide +kernel
theorem dX11_hearBook_7 : decode cX11_hearBook 7 = .ok (.ifCond .eq 4, 3) := by decide +kernel
theorem dX11_hearBook_10 : decode cX11_hearBook 10 = .ok (.return_, 1) := by decide +kernel
theorem dX11_hearBook_11 : decode cX11_hearBook 11 = .ok (.aload_n 0, 1) := by decide +kernel
theorem dX11_hearBook_12 : decode cX11_hearBook 12 = .ok (.getfield 93, 3) := by decide +kernel
theorem dX11_hearBook_15 : decode cX11_hearBook 15 = .ok (.invokevirtual 271, 3) := by decide +kernel
theorem dX11_hearBook_18 : decode cX11_hearBook 18 = .ok (.aload_n 0, 1) := by decide +kernel
theorem dX11_hearBook_19 : decode cX11_hearBook 19 = .ok (.getfield 96, 3) := by decide +kernel
theorem dX11_hearBook_22 : decode cX11_hearBook 22 = .ok (.invokevirtual 271, 3) := by decide +kernel
theorem dX11_hearBook_25 : decode cX11_hearBook 25 = .ok (.iconst 0, 1) := by decide +kernel
theorem dX11_hearBook_26 : decode cX11_hearBook 26 = .ok (.istore_n 1, 1) := by decide +kernel
theorem dX11_hearBook_27 : decode cX11_hearBook 27 = .ok (.iload_n 1, 1) := by decide +kernel
theorem dX11_hearBook_28 : decode cX11_hearBook 28 = .ok (.aload_n 0, 1) := by decide +kernel
theorem dX11_hearBook_29 : decode cX11_hearBook 29 = .ok (.getfield 39, 3) := by decide +kernel
theorem dX11_hearBook_32 : decode cX11_hearBook 32 = .ok (.getfield 237, 3) := by decide +kernel
theorem dX11_hearBook_35 : decode cX11_hearBook 35 = .ok (.getfield 241, 3) := by decide +kernel
theorem dX11_hearBook_38 : decode cX11_hearBook 38 = .ok (.if_icmp .ge 76, 3) := by decide +kernel
theorem dX11_hearBook_41 : decode cX11_hearBook 41 = .ok (.aload_n 0, 1) := by decide +kernel
theorem dX11_hearBook_42 : decode cX11_hearBook 42 = .ok (.aload_n 0, 1) := by decide +kernel
theorem dX11_hearBook_43 : decode cX11_hearBook 43 = .ok (.getfield 39, 3) := by decide +kernel
theorem dX11_hearBook_46 : decode cX11_hearBook 46 = .ok (.getfield 112, 3) := by decide +kernel
theorem dX11_hearBook_49 : decode cX11_hearBook 49 = .ok (.aload_n 0, 1) := by decide +kernel
theorem dX11_hearBook_50 : decode cX11_hearBook 50 = .ok (.getfield 39, 3) := by decide +kernel
theorem dX11_hearBook_53 : decode cX11_hearBook 53 = .ok (.getfield 237, 3) := by decide +kernel
theorem dX11_hearBook_56 : decode cX11_hearBook 56 = .ok (.getfield 352, 3) := by decide +kernel
theorem dX11_hearBook_59 : decode cX11_hearBook 59 = .ok (.iload_n 1, 1) := by decide +kernel
theorem dX11_hearBook_60 : decode cX11_hearBook 60 = .ok (.invokevirtual 182, 3) := by decide +kernel
theorem dX11_hearBook_63 : decode cX11_hearBook 63 = .ok (.aload_n 0, 1) := by decide +kernel
theorem dX11_hearBook_64 : decode cX11_hearBook 64 = .ok (.getfield 39, 3) := by decide +kernel
theorem dX11_hearBook_67 : decode cX11_hearBook 67 = .ok (.getfield 237, 3) := by decide +kernel
theorem dX11_hearBook_70 : decode cX11_hearBook 70 = .ok (.getfield 355, 3) := by decide +kernel
theorem dX11_hearBook_73 : decode cX11_hearBook 73 = .ok (.iload_n 1, 1) := by decide +kernel
theorem dX11_hearBook_74 : decode cX11_hearBook 74 = .ok (.invokevirtual 182, 3) := by decide +kernel
theorem dX11_hearBook_77 : decode cX11_hearBook 77 = .ok (.invokevirtual 225, 3) := by decide +kernel
theorem dX11_hearBook_80 : decode cX11_hearBook 80 = .ok (.aload_n 0, 1) := by decide +kernel
theorem dX11_hearBook_81 : decode cX11_hearBook 81 = .ok (.getfield 93, 3) := by decide +kernel
theorem dX11_hearBook_84 : decode cX11_hearBook 84 = .ok (.aload_n 0, 1) := by decide +kernel
theorem dX11_hearBook_85 : decode cX11_hearBook 85 = .ok (.getfield 54, 3) := by decide +kernel
theorem dX11_hearBook_88 : decode cX11_hearBook 88 = .ok (.getfield 228, 3) := by decide +kernel
theorem dX11_hearBook_91 : decode cX11_hearBook 91 = .ok (.invokevirtual 278, 3) := by decide +kernel
theorem dX11_hearBook_94 : decode cX11_hearBook 94 = .ok (.aload_n 0, 1) := by decide +kernel
theorem dX11_hearBook_95 : decode cX11_hearBook 95 = .ok (.getfield 96, 3) := by decide +kernel
theorem dX11_hearBook_98 : decode cX11_hearBook 98 = .ok (.aload_n 0, 1) := by decide +kernel
theorem dX11_hearBook_99 : decode cX11_hearBook 99 = .ok (.getfield 54, 3) := by decide +kernel
theorem dX11_hearBook_102 : decode cX11_hearBook 102 = .ok (.getfield 231, 3) := by decide +kernel
theorem dX11_hearBook_105 : decode cX11_hearBook 105 = .ok (.invokevirtual 278, 3) := by decide +kernel
theorem dX11_hearBook_108 : decode cX11_hearBook 108 = .ok (.iinc 1 1, 3) := by decide +kernel
theorem dX11_hearBook_111 : decode cX11_hearBook 111 = .ok (.goto (-84), 3) := by decide +kernel
theorem dX11_hearBook_114 : decode cX11_hearBook 114 = .ok (.aload_n 0, 1) := by decide +kernel
theorem dX11_hearBook_115 : decode cX11_hearBook 115 = .ok (.getfield 93, 3) := by decide +kernel
theorem dX11_hearBook_118 : decode cX11_hearBook 118 = .ok (.iconst 1, 1) := by decide +kernel
theorem dX11_hearBook_119 : decode cX11_hearBook 119 = .ok (.putfield 346, 3) := by decide +kernel
theorem dX11_hearBook_122 : decode cX11_hearBook 122 = .ok (.return_, 1) := by decide +kernel
theorem hcX11_hearBook : yX11_hearBook.cls ≠ "java/lang/invoke/MethodHandle" ∧ yX11_hearBook.cls ≠ "java/lang/invoke/VarHandle" ∧ (parseMethodDescriptor yX11_hearBook.desc).map (fun d => d.parameters.length) = some 0 := ⟨by decide +kernel, by decide +kernel, by decide +kernel⟩
def fX11_hearBook_L27 (La : sg_L) (Q : sg_M → Prop) : Nat → sg_M → Int → Prop
  | 0, _, _ => False
  | n_27 + 1, s_27, x1_27 => (((s_27 20 2) ≤ x1_27 → ∀ s13 : sg_M, s13 = sg_up s_27 58 2 1 → Q s13) ∧ (¬ ((s_27 20 2) ≤ x1_27) → fX4_at La s_27 21 x1_27 (fun u20 => fX4_at La s_27 23 x1_27 (fun u25 => (0 ≤ (s_27 4 0)) ∧ fX11_listenTo La s_27 (s_27 4 0) u20 u25 (fun s29 => fX4_add La s29 58 (s29 32 7) (fun s33 => fX4_add La s33 60 (s33 32 8) (fun s37 => sg_R (x1_27 + 1) ∧ (fX11_hearBook_L27 La Q n_27) s37 (x1_27 + 1))))))))
def fX11_hearBook (La : sg_L) (s0 : sg_M) (Q : sg_M → Prop) : Prop := (((s0 58 2) = 0 → fX4_clear s0 58 (fun s5 => fX4_clear s5 60 (fun s7 => (∃ n39 : Nat, fX11_hearBook_L27 La Q n39 s7 0)))) ∧ (¬ ((s0 58 2) = 0) → Q s0))
set_option maxHeartbeats 4000000 in
set_option maxRecDepth 100000 in
theorem CX11_hearBook {l : Launch} {G : sg_G} {La : sg_L} {s0 : sg_M} (hst : sg_St La) {Q : sg_M → Prop} (hf : fX11_hearBook La s0 Q) : sg_C l G yX11_hearBook cX11_hearBook 2 (none) 6 0 0 La s0 [sg_r 0] (sg_HV La Q) := by
  refine sg_body (by decide +kernel) (Nat.le_of_ble_eq_true rfl) ?_
  intro p e s m args below meth c F hnm
  unfold fX11_hearBook at hf
  show sg_W p l e (sg_rm 6 0 0) s m args below meth c (MQ below (sg_Q (none) G La s.heap.size (sg_HV La Q)) args s 0 0 (sg_A La s.heap.size)) 2 G (sg_A La s.heap.size) La s0 0 0 0 [(0, sg_r 0)] []
  refine gw_aload_n F 0 rfl rfl (by decide) dX11_hearBook_0 ?_
  refine gw_get7 F (so_0 hst) (by decide) rfl sg_lay_RX11 (j := 13) (by decide) (o1 := 58) (by first | rfl | omega) rfl (host := "") (.inl kw_339) dX11_hearBook_1 (fun h1 => ?_)
  refine gw_get1 F (so_58 hst) (by decide) rfl sg_lay_RX4 (j := 2) (by decide) rfl (.inr kw_206) dX11_hearBook_4 (fun h2 => ?_)
  refine gw_if_eq F (tgt := 11) dX11_hearBook_7 (by decide) (sg_B_R h2) (fun c3 => ?_) (fun c3 => ?_)
  · have hf := hf.1 c3
    refine gw_aload_n F 0 rfl rfl (by decide) dX11_hearBook_11 ?_
    refine gw_get7 F (so_0 hst) (by decide) rfl sg_lay_RX11 (j := 13) (by decide) (o1 := 58) (by first | rfl | omega) rfl (host := "") (.inl kw_339) dX11_hearBook_12 (fun h4 => ?_)
    refine gk_HV F (gc_V F (S := []) (As := []) (T := TX4) (N := 3) (CX4_clear (so_58 hst) hf) (so_58 hst) (by decide) rfl kw_531 kw_97 kw_652 kw_529 kw_530 hcX4_clear ⟨by decide, by decide⟩ rfl rfl (Nat.le_of_ble_eq_true rfl) ⟨by decide, by decide⟩ dX11_hearBook_15) (fun s5 hf => ?_)
    refine gw_aload_n F 0 rfl rfl (by decide) dX11_hearBook_18 ?_
    refine gw_get7 F (so_0 hst) (by decide) rfl sg_lay_RX11 (j := 14) (by decide) (o1 := 60) (by first | rfl | omega) rfl (host := "") (.inl kw_340) dX11_hearBook_19 (fun h6 => ?_)
    refine gk_HV F (gc_V F (S := []) (As := []) (T := TX4) (N := 3) (CX4_clear (so_60 hst) hf) (so_60 hst) (by decide) rfl kw_531 kw_97 kw_652 kw_529 kw_530 hcX4_clear ⟨by decide, by decide⟩ rfl rfl (Nat.le_of_ble_eq_true rfl) ⟨by decide, by decide⟩ dX11_hearBook_22) (fun s7 hf => ?_)
    refine gw_iconst F dX11_hearBook_25 ?_
    refine gw_istore_n F rfl (by decide) rfl dX11_hearBook_26 ?_
    have L27 : ∀ n_27 : Nat, ∀ (s_27 : sg_M) (x1_27 : Int), sg_R x1_27 → fX11_hearBook_L27 La Q n_27 s_27 x1_27 → sg_W p l e (sg_rm 6 0 0) s m args below meth c (MQ below (sg_Q (none) G La s.heap.size (sg_HV La Q)) args s 0 0 (sg_A La s.heap.size)) 2 G (sg_A La s.heap.size) La s_27 0 0 27 [(0, sg_r 0), (1, sg_i x1_27)] [] := by
      intro n_27
      induction n_27 with
      | zero => intro s_27 x1_27 r1_27 hf; exact hf.elim
      | succ n_27 ih =>
        intro s_27 x1_27 r1_27 hf
        unfold fX11_hearBook_L27 at hf
        refine gw_iload_n F 1 rfl rfl dX11_hearBook_27 ?_
        refine gw_aload_n F 0 rfl rfl (by decide) dX11_hearBook_28 ?_
        refine gw_get7 F (so_0 hst) (by decide) rfl sg_lay_RX11 (j := 2) (by decide) (o1 := 4) (by first | rfl | omega) rfl (host := "") (.inl kw_328) dX11_hearBook_29 (fun h8 => ?_)
        refine gw_get7 F (so_4 hst) (by decide) rfl sg_lay_RX7 (j := 3) (by decide) (o1 := 20) (by first | rfl | omega) rfl (.inr kw_240) dX11_hearBook_32 (fun h9 => ?_)
        refine gw_get0 F (so_20 hst) (by decide) rfl sg_lay_RX2 (j := 2) (by decide) rfl (.inr kw_230) dX11_hearBook_35 (fun h10 => ?_)
        refine gw_icmp_ge F (tgt := 114) dX11_hearBook_38 (by decide) r1_27 h10 (fun c11 => ?_) (fun c11 => ?_)
        · have hf := hf.1 c11
          refine gw_aload_n F 0 rfl rfl (by decide) dX11_hearBook_114 ?_
          refine gw_get7 F (so_0 hst) (by decide) rfl sg_lay_RX11 (j := 13) (by decide) (o1 := 58) (by first | rfl | omega) rfl (host := "") (.inl kw_339) dX11_hearBook_115 (fun h12 => ?_)
          refine gw_iconst F dX11_hearBook_118 ?_
          obtain ⟨s13, e14⟩ : ∃ z : sg_M, z = sg_up s_27 58 2 1 := ⟨_, rfl⟩
          have hf := hf s13 e14
          refine gw_put1 F (so_58 hst) (by decide) rfl sg_lay_RX4 (j := 2) (by decide) (by decide) e14 tyX4_ok nmX4 rfl (tyX4_ok 2 (by decide)) rfl (.inr kw_206) dX11_hearBook_119 ?_
          exact gr_HV F hf (by decide) (by decide) dX11_hearBook_122
        · have hf := hf.2 c11
          refine gw_aload_n F 0 rfl rfl (by decide) dX11_hearBook_41 ?_
          refine gw_aload_n F 0 rfl rfl (by decide) dX11_hearBook_42 ?_
          refine gw_get7 F (so_0 hst) (by decide) rfl sg_lay_RX11 (j := 2) (by decide) (o1 := 4) (by first | rfl | omega) rfl (host := "") (.inl kw_328) dX11_hearBook_43 (fun h15 => ?_)
          refine gw_get4 F (so_4 hst) (by decide) rfl sg_lay_RX7 (j := 0) (by decide) rfl (.inr kw_234) dX11_hearBook_46 (fun h16 => ?_)
          refine gw_aload_n F 0 rfl rfl (by decide) dX11_hearBook_49 ?_
          refine gw_get7 F (so_0 hst) (by decide) rfl sg_lay_RX11 (j := 2) (by decide) (o1 := 4) (by first | rfl | omega) rfl (host := "") (.inl kw_328) dX11_hearBook_50 (fun h17 => ?_)
          refine gw_get7 F (so_4 hst) (by decide) rfl sg_lay_RX7 (j := 3) (by decide) (o1 := 20) (by first | rfl | omega) rfl (.inr kw_240) dX11_hearBook_53 (fun h18 => ?_)
          refine gw_get3 F (so_20 hst) (by decide) rfl sg_lay_RX2 (j := 0) (by decide) (o1 := 21) (by first | rfl | omega) rfl (.inr kw_225) dX11_hearBook_56 (fun h19 => ?_)
          refine gw_iload_n F 1 rfl rfl dX11_hearBook_59 ?_
          refine gk_PI F (gc_V F (S := [sg_r (s_27 4 0), sg_r 0]) (As := [sg_i x1_27]) (T := TX4) (N := 3) (CX4_at (so_21 hst) r1_27 hf) (so_21 hst) (by decide) rfl kw_546 kw_97 kw_543 kw_544 kw_545 hcX4_at ⟨by decide, by decide⟩ rfl rfl (Nat.le_of_ble_eq_true rfl) ⟨by decide, by decide⟩ dX11_hearBook_60) (fun u20 h21 hf => ?_)
          refine gw_aload_n F 0 rfl rfl (by decide) dX11_hearBook_63 ?_
          refine gw_get7 F (so_0 hst) (by decide) rfl sg_lay_RX11 (j := 2) (by decide) (o1 := 4) (by first | rfl | omega) rfl (host := "") (.inl kw_328) dX11_hearBook_64 (fun h22 => ?_)
          refine gw_get7 F (so_4 hst) (by decide) rfl sg_lay_RX7 (j := 3) (by decide) (o1 := 20) (by first | rfl | omega) rfl (.inr kw_240) dX11_hearBook_67 (fun h23 => ?_)
          refine gw_get3 F (so_20 hst) (by decide) rfl sg_lay_RX2 (j := 1) (by decide) (o1 := 23) (by first | rfl | omega) rfl (.inr kw_227) dX11_hearBook_70 (fun h24 => ?_)
          refine gw_iload_n F 1 rfl rfl dX11_hearBook_73 ?_
          refine gk_PI F (gc_V F (S := [sg_i u20, sg_r (s_27 4 0), sg_r 0]) (As := [sg_i x1_27]) (T := TX4) (N := 3) (CX4_at (so_23 hst) r1_27 hf) (so_23 hst) (by decide) rfl kw_546 kw_97 kw_543 kw_544 kw_545 hcX4_at ⟨by decide, by decide⟩ rfl rfl (Nat.le_of_ble_eq_true rfl) ⟨by decide, by decide⟩ dX11_hearBook_74) (fun u25 h26 hf => ?_)
          obtain ⟨g27, hf⟩ := hf
          have t28 := sg_nn h16 g27
          refine gk_HV F (gc_V F (S := []) (As := [sg_r (s_27 4 0), sg_i u20, sg_i u25]) (T := TX11) (N := 19) (CX11_listenTo hst t28 h21 h26 hf) (so_0 hst) (by decide) rfl kw_655 kw_90 kw_653 kw_654 kw_20 hcX11_listenTo ⟨by decide, by decide⟩ rfl rfl (Nat.le_of_ble_eq_true rfl) ⟨by decide, by decide⟩ dX11_hearBook_77) (fun s29 hf => ?_)
          refine gw_aload_n F 0 rfl rfl (by decide) dX11_hearBook_80 ?_
          refine gw_get7 F (so_0 hst) (by decide) rfl sg_lay_RX11 (j := 13) (by decide) (o1 := 58) (by first | rfl | omega) rfl (host := "") (.inl kw_339) dX11_hearBook_81 (fun h30 => ?_)
          refine gw_aload_n F 0 rfl rfl (by decide) dX11_hearBook_84 ?_
          refine gw_get7 F (so_0 hst) (by decide) rfl sg_lay_RX11 (j := 5) (by decide) (o1 := 32) (by first | rfl | omega) rfl (host := "") (.inl kw_331) dX11_hearBook_85 (fun h31 => ?_)
          refine gw_get0 F (so_32 hst) (by decide) rfl sg_lay_RX0 (j := 7) (by decide) rfl (.inr kw_266) dX11_hearBook_88 (fun h32 => ?_)
          refine gk_HV F (gc_V F (S := []) (As := [sg_i (s29 32 7)]) (T := TX4) (N := 3) (CX4_add (so_58 hst) h32 hf) (so_58 hst) (by decide) rfl kw_538 kw_97 kw_663 kw_536 kw_537 hcX4_add ⟨by decide, by decide⟩ rfl rfl (Nat.le_of_ble_eq_true rfl) ⟨by decide, by decide⟩ dX11_hearBook_91) (fun s33 hf => ?_)
          refine gw_aload_n F 0 rfl rfl (by decide) dX11_hearBook_94 ?_
          refine gw_get7 F (so_0 hst) (by decide) rfl sg_lay_RX11 (j := 14) (by decide) (o1 := 60) (by first | rfl | omega) rfl (host := "") (.inl kw_340) dX11_hearBook_95 (fun h34 => ?_)
          refine gw_aload_n F 0 rfl rfl (by decide) dX11_hearBook_98 ?_
          refine gw_get7 F (so_0 hst) (by decide) rfl sg_lay_RX11 (j := 5) (by decide) (o1 := 32) (by first | rfl | omega) rfl (host := "") (.inl kw_331) dX11_hearBook_99 (fun h35 => ?_)
          refine gw_get0 F (so_32 hst) (by decide) rfl sg_lay_RX0 (j := 8) (by decide) rfl (.inr kw_269) dX11_hearBook_102 (fun h36 => ?_)
          refine gk_HV F (gc_V F (S := []) (As := [sg_i (s33 32 8)]) (T := TX4) (N := 3) (CX4_add (so_60 hst) h36 hf) (so_60 hst) (by decide) rfl kw_538 kw_97 kw_663 kw_536 kw_537 hcX4_add ⟨by decide, by decide⟩ rfl rfl (Nat.le_of_ble_eq_true rfl) ⟨by decide, by decide⟩ dX11_hearBook_105) (fun s37 hf => ?_)
          refine gw_iinc F (z := (x1_27 + 1)) 1 rfl (by omega) (by decide) rfl dX11_hearBook_108 ?_
          refine gw_goto F (tgt := 27) dX11_hearBook_111 (by decide) ?_
          obtain ⟨g38, hf⟩ := hf
          refine gw_sub [1, 0] rfl ?_
          exact ih s37 (x1_27 + 1) g38 hf
    obtain ⟨n39, hf⟩ := hf
    refine gw_sub [1, 0] rfl ?_
    refine L27   n39 s7 0 (by decide) hf
  · have hf := hf.2 c3
    exact gr_HV F hf (by decide) (by decide) dX11_hearBook_10

theorem dX11_range_0 : decode cX11_range 0 = .ok (.aload_n 0, 1) := by decide +kernel
theorem dX11_range_1 : decode cX11_range 1 = .ok (.invokevirtual 251, 3) := by decide +kernel
theorem dX11_range_4 : decode cX11_range 4 = .ok (.iconst (-1), 1) := by decide +kernel
theorem dX11_range_5 : decode cX11_range 5 = .ok (.istore_n 2, 1) := by decide +kernel
theorem dX11_range_6 : decode cX11_range 6 = .ok (.iconst (-1), 1) := by decide +kernel
theorem dX11_range_7 : decode cX11_range 7 = .ok (.istore_n 3, 1) := by decide +kernel
theorem dX11_range_8 : decode cX11_range 8 = .ok (.iconst 0, 1) := by decide +kernel
theorem dX11_range_9 : decode cX11_range 9 = .ok (.istore 4, 2) := by decide +kernel
theorem dX11_range_11 : decode cX11_range 11 = .ok (.iload 4, 2) := by decide +kernel
theorem dX11_range_13 : decode cX11_range 13 = .ok (.aload_n 0, 1) := by decide +kernel
theorem dX11_range_14 : decode cX11_range 14 = .ok (.getfield 93, 3) := by decide +kernel
theorem dX11_range_17 : decode cX11_range 17 = .ok (.getfield 181, 3) := by decide +kernel
theorem dX11_range_20 : decode cX11_range 20 = .ok (.if_icmp .ge 75, 3) := by decide +kernel
theorem dX11_range_23 : decode cX11_range 23 = .ok (.aload_n 0, 1) := by decide +kernel
theorem dX11_range_24 : decode cX11_range 24 = .ok (.getfield 93, 3) := by decide +kernel
theorem dX11_range_27 : decode cX11_range 27 = .ok (.iload 4, 2) := by decide +kernel
theorem dX11_range_29 : decode cX11_range 29 = .ok (.invokevirtual 182, 3) := by decide +kernel
theorem dX11_range_32 : decode cX11_range 32 = .ok (.istore 5, 2) := by decide +kernel
theorem dX11_range_34 : decode cX11_range 34 = .ok (.iload 5, 2) := by decide +kernel
theorem dX11_range_36 : decode cX11_range 36 = .ok (.ifCond .le 53, 3) := by decide +kernel
theorem dX11_range_39 : decode cX11_range 39 = .ok (.iload_n 2, 1) := by decide +kernel
theorem dX11_range_40 : decode cX11_range 40 = .ok (.iconst (-1), 1) := by decide +kernel
theorem dX11_range_41 : decode cX11_range 41 = .ok (.if_icmp .eq 16, 3) := by decide +kernel
theorem dX11_range_44 : decode cX11_range 44 = .ok (.iload 5, 2) := by decide +kernel
theorem dX11_range_46 : decode cX11_range 46 = .ok (.aload_n 0, 1) := by decide +kernel
theorem dX11_range_47 : decode cX11_range 47 = .ok (.getfield 93, 3) := by decide +kernel
theorem dX11_range_50 : decode cX11_range 50 = .ok (.iload_n 2, 1) := by decide +kernel
theorem dX11_range_51 : decode cX11_range 51 = .ok (.invokevirtual 182, 3) := by decide +kernel
theorem dX11_range_54 : decode cX11_range 54 = .ok (.if_icmp .ge 8, 3) := by decide +kernel
theorem dX11_range_57 : decode cX11_range 57 = .ok (.iload 4, 2) := by decide +kernel
theorem dX11_range_59 : decode cX11_range 59 = .ok (.goto 4, 3) := by decide +kernel
theorem dX11_range_62 : decode cX11_range 62 = .ok (.iload_n 2, 1) := by decide +kernel
theorem dX11_range_63 : decode cX11_range 63 = .ok (.istore_n 2, 1) := by decide +kernel
theorem dX11_range_64 : decode cX11_range 64 = .ok (.iload_n 3, 1) := by decide +kernel
theorem dX11_range_65 : decode cX11_range 65 = .ok (.iconst (-1), 1) := by decide +kernel
theorem dX11_range_66 : decode cX11_range 66 = .ok (.if_icmp .eq 16, 3) := by decide +kernel
theorem dX11_range_69 : decode cX11_range 69 = .ok (.iload 5, 2) := by decide +kernel
theorem dX11_range_71 : decode cX11_range 71 = .ok (.aload_n 0, 1) := by decide +kernel
theorem dX11_range_72 : decode cX11_range 72 = .ok (.getfield 93, 3) := by decide +kernel
theorem dX11_range_75 : decode cX11_range 75 = .ok (.iload_n 3, 1) := by decide +kernel
theorem dX11_range_76 : decode cX11_range 76 = .ok (.invokevirtual 182, 3) := by decide +kernel
theorem dX11_range_79 : decode cX11_range 79 = .ok (.if_icmp .le 8, 3) := by decide +kernel
theorem dX11_range_82 : decode cX11_range 82 = .ok (.iload 4, 2) := by decide +kernel
theorem dX11_range_84 : decode cX11_range 84 = .ok (.goto 4, 3) := by decide +kernel
theorem dX11_range_87 : decode cX11_range 87 = .ok (.iload_n 3, 1) := by decide +kernel
theorem dX11_range_88 : decode cX11_range 88 = .ok (.istore_n 3, 1) := by decide +kernel
theorem dX11_range_89 : decode cX11_range 89 = .ok (.iinc 4 1, 3) := by decide +kernel
theorem dX11_range_92 : decode cX11_range 92 = .ok (.goto (-81), 3) := by decide +kernel
theorem dX11_range_95 : decode cX11_range 95 = .ok (.iload_n 1, 1) := by decide +kernel
theorem dX11_range_96 : decode cX11_range 96 = .ok (.tableswitch 54 0 3 #[32, 41, 50, 52], 32) := by decide +kernel
theorem dX11_range_128 : decode cX11_range 128 = .ok (.aload_n 0, 1) := by decide +kernel
theorem dX11_range_129 : decode cX11_range 129 = .ok (.getfield 93, 3) := by decide +kernel
theorem dX11_range_132 : decode cX11_range 132 = .ok (.iload_n 2, 1) := by decide +kernel
theorem dX11_range_133 : decode cX11_range 133 = .ok (.invokevirtual 182, 3) := by decide +kernel
theorem dX11_range_136 : decode cX11_range 136 = .ok (.ireturn, 1) := by decide +kernel
theorem dX11_range_137 : decode cX11_range 137 = .ok (.aload_n 0, 1) := by decide +kernel
theorem dX11_range_138 : decode cX11_range 138 = .ok (.getfield 93, 3) := by decide +kernel
theorem dX11_range_141 : decode cX11_range 141 = .ok (.iload_n 3, 1) := by decide +kernel
theorem dX11_range_142 : decode cX11_range 142 = .ok (.invokevirtual 182, 3) := by decide +kernel
theorem dX11_range_145 : decode cX11_range 145 = .ok (.ireturn, 1) := by decide +kernel
theorem dX11_range_146 : decode cX11_range 146 = .ok (.iload_n 2, 1) := by decide +kernel
theorem dX11_range_147 : decode cX11_range 147 = .ok (.ireturn, 1) := by decide +kernel
theorem dX11_range_148 : decode cX11_range 148 = .ok (.iload_n 3, 1) := by decide +kernel
theorem dX11_range_149 : decode cX11_range 149 = .ok (.ireturn, 1) := by decide +kernel
theorem dX11_range_150 : decode cX11_range 150 = .ok (.iconst (-1), 1) := by decide +kernel
theorem dX11_range_151 : decode cX11_range 151 = .ok (.ireturn, 1) := by decide +kernel
theorem hcX11_range : yX11_range.cls ≠ "java/lang/invoke/MethodHandle" ∧ yX11_range.cls ≠ "java/lang/invoke/VarHandle" ∧ (parseMethodDescriptor yX11_range.desc).map (fun d => d.parameters.length) = some 1 := ⟨by decide +kernel, by decide +kernel, by decide +kernel⟩
def fX11_range_j89 (x4_11 : Int) (k11 : Int → Int → Int → Prop) (x2_89 : Int) (x3_89 : Int) : Prop := sg_R (x4_11 + 1) ∧ k11 x2_89 x3_89 (x4_11 + 1)
def fX11_range_j88 (y0_63 : Int) (k89 : Int → Int → Prop) (y0_88 : Int) : Prop := k89 y0_63 y0_88
def fX11_range_j82 (x4_11 : Int) (k88 : Int → Prop)  : Prop := k88 x4_11
def fX11_range_j63 (La : sg_L) (s1 : sg_M) (x3_11 : Int) (x4_11 : Int) (u6 : Int) (k89 : Int → Int → Prop) (y0_63 : Int) : Prop := ((x3_11 = (-1) → (fX11_range_j82 x4_11 (fX11_range_j88 y0_63 k89))) ∧ (¬ (x3_11 = (-1)) → fX4_at La s1 58 x3_11 (fun u12 => ((u6 ≤ u12 → (fX11_range_j88 y0_63 k89) x3_11) ∧ (¬ (u6 ≤ u12) → (fX11_range_j82 x4_11 (fX11_range_j88 y0_63 k89)))))))
def fX11_range_j57 (x4_11 : Int) (k63 : Int → Prop)  : Prop := k63 x4_11
def fX11_range_L11 (La : sg_L) (s1 : sg_M) (k95 : Int → Int → Prop) : Nat → Int → Int → Int → Prop
  | 0, _, _, _ => False
  | n_11 + 1, x2_11, x3_11, x4_11 => (((s1 58 1) ≤ x4_11 → k95 x2_11 x3_11) ∧ (¬ ((s1 58 1) ≤ x4_11) → fX4_at La s1 58 x4_11 (fun u6 => ((u6 ≤ 0 → (fX11_range_j89 x4_11 (fX11_range_L11 La s1 k95 n_11)) x2_11 x3_11) ∧ (¬ (u6 ≤ 0) → ((x2_11 = (-1) → (fX11_range_j57 x4_11 (fX11_range_j63 La s1 x3_11 x4_11 u6 (fX11_range_j89 x4_11 (fX11_range_L11 La s1 k95 n_11))))) ∧ (¬ (x2_11 = (-1)) → fX4_at La s1 58 x2_11 (fun u17 => ((u17 ≤ u6 → (fX11_range_j63 La s1 x3_11 x4_11 u6 (fX11_range_j89 x4_11 (fX11_range_L11 La s1 k95 n_11))) x2_11) ∧ (¬ (u17 ≤ u6) → (fX11_range_j57 x4_11 (fX11_range_j63 La s1 x3_11 x4_11 u6 (fX11_range_j89 x4_11 (fX11_range_L11 La s1 k95 n_11))))))))))))))
def fX11_range (La : sg_L) (s0 : sg_M) (x1 : Int) (Q : Int → sg_M → Prop) : Prop := fX11_hearBook La s0 (fun s1 => (∃ n20 : Nat, fX11_range_L11 La s1 (fun x2_95e11 x3_95e11 => ((x1 < 0 ∨ 3 < x1 → Q (-1) s1) ∧ (x1 = 0 → fX4_at La s1 58 x2_95e11 (fun u23 => Q u23 s1)) ∧ (x1 = 1 → fX4_at La s1 58 x3_95e11 (fun u26 => Q u26 s1)) ∧ (x1 = 2 → Q x2_95e11 s1) ∧ (x1 = 3 → Q x3_95e11 s1))) n20 (-1) (-1) 0))
set_option maxHeartbeats 4000000 in
set_option maxRecDepth 100000 in
theorem CX11_range {l : Launch} {G : sg_G} {La : sg_L} {s0 : sg_M} (hst : sg_St La) {x1 : Int} (r1 : sg_R x1) {Q : Int → sg_M → Prop} (hf : fX11_range La s0 x1 Q) : sg_C l G yX11_range cX11_range 6 (some .int) 7 0 0 La s0 [sg_r 0, sg_i x1] (sg_HI La Q) := by
  refine sg_body (by decide +kernel) (Nat.le_of_ble_eq_true rfl) ?_
  intro p e s m args below meth c F hnm
  unfold fX11_range at hf
  show sg_W p l e (sg_rm 7 0 0) s m args below meth c (MQ below (sg_Q (some .int) G La s.heap.size (sg_HI La Q)) args s 0 0 (sg_A La s.heap.size)) 6 G (sg_A La s.heap.size) La s0 0 0 0 [(0, sg_r 0), (1, sg_i x1)] []
  refine gw_aload_n F 0 rfl rfl (by decide) dX11_range_0 ?_
  refine gk_HV F (gc_V F (S := []) (As := []) (T := TX11) (N := 19) (CX11_hearBook hst hf) (so_0 hst) (by decide) rfl kw_651 kw_90 kw_649 kw_650 kw_19 hcX11_hearBook ⟨by decide, by decide⟩ rfl rfl (Nat.le_of_ble_eq_true rfl) ⟨by decide, by decide⟩ dX11_range_1) (fun s1 hf => ?_)
  refine gw_iconst F dX11_range_4 ?_
  refine gw_istore_n F rfl (by decide) rfl dX11_range_5 ?_
  refine gw_iconst F dX11_range_6 ?_
  refine gw_istore_n F rfl (by decide) rfl dX11_range_7 ?_
  refine gw_iconst F dX11_range_8 ?_
  refine gw_istore F (by decide) rfl dX11_range_9 ?_
  have L11 : ∀ (k95 : Int → Int → Prop) (hk95 : ∀ (x2_95e11 : Int) (x3_95e11 : Int), sg_R x2_95e11 → sg_R x3_95e11 → k95 x2_95e11 x3_95e11 → sg_W p l e (sg_rm 7 0 0) s m args below meth c (MQ below (sg_Q (some .int) G La s.heap.size (sg_HI La Q)) args s 0 0 (sg_A La s.heap.size)) 6 G (sg_A La s.heap.size) La s1 0 0 95 [(0, sg_r 0), (1, sg_i x1), (2, sg_i x2_95e11), (3, sg_i x3_95e11)] []), ∀ n_11 : Nat, ∀ (x2_11 : Int) (x3_11 : Int) (x4_11 : Int), sg_R x2_11 → sg_R x3_11 → sg_R x4_11 → fX11_range_L11 La s1 k95 n_11 x2_11 x3_11 x4_11 → sg_W p l e (sg_rm 7 0 0) s m args below meth c (MQ below (sg_Q (some .int) G La s.heap.size (sg_HI La Q)) args s 0 0 (sg_A La s.heap.size)) 6 G (sg_A La s.heap.size) La s1 0 0 11 [(0, sg_r 0), (1, sg_i x1), (2, sg_i x2_11), (3, sg_i x3_11), (4, sg_i x4_11)] [] := by
    intro k95 hk95 n_11
    induction n_11 with
    | zero => intro x2_11 x3_11 x4_11 r2_11 r3_11 r4_11 hf; exact hf.elim
    | succ n_11 ih =>
      intro x2_11 x3_11 x4_11 r2_11 r3_11 r4_11 hf
      unfold fX11_range_L11 at hf
      refine gw_iload F 4 rfl dX11_range_11 ?_
      refine gw_aload_n F 0 rfl rfl (by decide) dX11_range_13 ?_
      refine gw_get7 F (so_0 hst) (by decide) rfl sg_lay_RX11 (j := 13) (by decide) (o1 := 58) (by first | rfl | omega) rfl (host := "") (.inl kw_339) dX11_range_14 (fun h2 => ?_)
      refine gw_get0 F (so_58 hst) (by decide) rfl sg_lay_RX4 (j := 1) (by decide) rfl (.inr kw_204) dX11_range_17 (fun h3 => ?_)
      refine gw_icmp_ge F (tgt := 95) dX11_range_20 (by decide) r4_11 h3 (fun c4 => ?_) (fun c4 => ?_)
      · have hf := hf.1 c4
        refine gw_sub [0, 1, 2, 3] rfl ?_
        exact hk95 x2_11 x3_11 r2_11 r3_11 hf
      · have hf := hf.2 c4
        refine gw_aload_n F 0 rfl rfl (by decide) dX11_range_23 ?_
        refine gw_get7 F (so_0 hst) (by decide) rfl sg_lay_RX11 (j := 13) (by decide) (o1 := 58) (by first | rfl | omega) rfl (host := "") (.inl kw_339) dX11_range_24 (fun h5 => ?_)
        refine gw_iload F 4 rfl dX11_range_27 ?_
        refine gk_PI F (gc_V F (S := []) (As := [sg_i x4_11]) (T := TX4) (N := 3) (CX4_at (so_58 hst) r4_11 hf) (so_58 hst) (by decide) rfl kw_546 kw_97 kw_543 kw_544 kw_545 hcX4_at ⟨by decide, by decide⟩ rfl rfl (Nat.le_of_ble_eq_true rfl) ⟨by decide, by decide⟩ dX11_range_29) (fun u6 h7 hf => ?_)
        refine gw_istore F (by decide) rfl dX11_range_32 ?_
        refine gw_iload F 0 rfl dX11_range_34 ?_
        have J89 : ∀ (x2_89 : Int) (x3_89 : Int), sg_R x2_89 → sg_R x3_89 → (fX11_range_j89 x4_11 (fX11_range_L11 La s1 k95 n_11)) x2_89 x3_89 → sg_W p l e (sg_rm 7 0 0) s m args below meth c (MQ below (sg_Q (some .int) G La s.heap.size (sg_HI La Q)) args s 0 0 (sg_A La s.heap.size)) 6 G (sg_A La s.heap.size) La s1 0 0 89 [(0, sg_r 0), (1, sg_i x1), (2, sg_i x2_89), (3, sg_i x3_89), (4, sg_i x4_11)] [] := by
          intro x2_89 x3_89 r2_89 r3_89 hf
          unfold fX11_range_j89 at hf
          refine gw_iinc F (z := (x4_11 + 1)) 4 rfl (by omega) (by decide) rfl dX11_range_89 ?_
          refine gw_goto F (tgt := 11) dX11_range_92 (by decide) ?_
          obtain ⟨g8, hf⟩ := hf
          refine gw_sub [1, 2, 3, 4, 0] rfl ?_
          exact ih x2_89 x3_89 (x4_11 + 1) r2_89 r3_89 g8 hf
        refine gw_if_le F (tgt := 89) dX11_range_36 (by decide) h7 (fun c9 => ?_) (fun c9 => ?_)
        · have hf := hf.1 c9
          refine gw_sub [1, 2, 3, 4, 5] rfl ?_
          exact J89 x2_11 x3_11 r2_11 r3_11 hf
        · have hf := hf.2 c9
          refine gw_iload_n F 3 rfl rfl dX11_range_39 ?_
          refine gw_iconst F dX11_range_40 ?_
          have J63 : ∀ (y0_63 : Int), sg_R y0_63 → (fX11_range_j63 La s1 x3_11 x4_11 u6 (fX11_range_j89 x4_11 (fX11_range_L11 La s1 k95 n_11))) y0_63 → sg_W p l e (sg_rm 7 0 0) s m args below meth c (MQ below (sg_Q (some .int) G La s.heap.size (sg_HI La Q)) args s 0 0 (sg_A La s.heap.size)) 6 G (sg_A La s.heap.size) La s1 0 0 63 [(0, sg_r 0), (1, sg_i x1), (3, sg_i x3_11), (4, sg_i x4_11), (5, sg_i u6)] [sg_i y0_63] := by
            intro y0_63 ry0_63 hf
            unfold fX11_range_j63 at hf
            refine gw_istore_n F rfl (by decide) rfl dX11_range_63 ?_
            refine gw_iload_n F 3 rfl rfl dX11_range_64 ?_
            refine gw_iconst F dX11_range_65 ?_
            have J88 : ∀ (y0_88 : Int), sg_R y0_88 → (fX11_range_j88 y0_63 (fX11_range_j89 x4_11 (fX11_range_L11 La s1 k95 n_11))) y0_88 → sg_W p l e (sg_rm 7 0 0) s m args below meth c (MQ below (sg_Q (some .int) G La s.heap.size (sg_HI La Q)) args s 0 0 (sg_A La s.heap.size)) 6 G (sg_A La s.heap.size) La s1 0 0 88 [(0, sg_r 0), (1, sg_i x1), (2, sg_i y0_63), (4, sg_i x4_11)] [sg_i y0_88] := by
              intro y0_88 ry0_88 hf
              unfold fX11_range_j88 at hf
              refine gw_istore_n F rfl (by decide) rfl dX11_range_88 ?_
              refine gw_sub [1, 2, 3, 0, 4] rfl ?_
              exact J89 y0_63 y0_88 ry0_63 ry0_88 hf
            have J82 : (fX11_range_j82 x4_11 (fX11_range_j88 y0_63 (fX11_range_j89 x4_11 (fX11_range_L11 La s1 k95 n_11)))) → sg_W p l e (sg_rm 7 0 0) s m args below meth c (MQ below (sg_Q (some .int) G La s.heap.size (sg_HI La Q)) args s 0 0 (sg_A La s.heap.size)) 6 G (sg_A La s.heap.size) La s1 0 0 82 [(0, sg_r 0), (1, sg_i x1), (2, sg_i y0_63), (4, sg_i x4_11)] [] := by
              intro hf
              unfold fX11_range_j82 at hf
              refine gw_iload F 3 rfl dX11_range_82 ?_
              refine gw_goto F (tgt := 88) dX11_range_84 (by decide) ?_
              refine gw_sub [0, 1, 2, 3] rfl ?_
              exact J88 x4_11 r4_11 hf
            refine gw_icmp_eq F (tgt := 82) dX11_range_66 (by decide) r3_11 (by decide) (fun c10 => ?_) (fun c10 => ?_)
            · have hf := hf.1 c10
              refine gw_sub [1, 2, 0, 4] rfl ?_
              exact J82  hf
            · have hf := hf.2 c10
              refine gw_iload F 5 rfl dX11_range_69 ?_
              refine gw_aload_n F 1 rfl rfl (by decide) dX11_range_71 ?_
              refine gw_get7 F (so_0 hst) (by decide) rfl sg_lay_RX11 (j := 13) (by decide) (o1 := 58) (by first | rfl | omega) rfl (host := "") (.inl kw_339) dX11_range_72 (fun h11 => ?_)
              refine gw_iload_n F 3 rfl rfl dX11_range_75 ?_
              refine gk_PI F (gc_V F (S := [sg_i u6]) (As := [sg_i x3_11]) (T := TX4) (N := 3) (CX4_at (so_58 hst) r3_11 hf) (so_58 hst) (by decide) rfl kw_546 kw_97 kw_543 kw_544 kw_545 hcX4_at ⟨by decide, by decide⟩ rfl rfl (Nat.le_of_ble_eq_true rfl) ⟨by decide, by decide⟩ dX11_range_76) (fun u12 h13 hf => ?_)
              refine gw_icmp_le F (tgt := 87) dX11_range_79 (by decide) h7 h13 (fun c14 => ?_) (fun c14 => ?_)
              · have hf := hf.1 c14
                refine gw_iload_n F 3 rfl rfl dX11_range_87 ?_
                refine gw_sub [1, 2, 0, 4] rfl ?_
                exact J88 x3_11 r3_11 hf
              · have hf := hf.2 c14
                refine gw_sub [1, 2, 0, 4] rfl ?_
                exact J82  hf
          have J57 : (fX11_range_j57 x4_11 (fX11_range_j63 La s1 x3_11 x4_11 u6 (fX11_range_j89 x4_11 (fX11_range_L11 La s1 k95 n_11)))) → sg_W p l e (sg_rm 7 0 0) s m args below meth c (MQ below (sg_Q (some .int) G La s.heap.size (sg_HI La Q)) args s 0 0 (sg_A La s.heap.size)) 6 G (sg_A La s.heap.size) La s1 0 0 57 [(0, sg_r 0), (1, sg_i x1), (3, sg_i x3_11), (4, sg_i x4_11), (5, sg_i u6)] [] := by
            intro hf
            unfold fX11_range_j57 at hf
            refine gw_iload F 3 rfl dX11_range_57 ?_
            refine gw_goto F (tgt := 63) dX11_range_59 (by decide) ?_
            refine gw_sub [0, 1, 2, 3, 4] rfl ?_
            exact J63 x4_11 r4_11 hf
          refine gw_icmp_eq F (tgt := 57) dX11_range_41 (by decide) r2_11 (by decide) (fun c15 => ?_) (fun c15 => ?_)
          · have hf := hf.1 c15
            refine gw_sub [1, 2, 4, 5, 0] rfl ?_
            exact J57  hf
          · have hf := hf.2 c15
            refine gw_iload F 0 rfl dX11_range_44 ?_
            refine gw_aload_n F 1 rfl rfl (by decide) dX11_range_46 ?_
            refine gw_get7 F (so_0 hst) (by decide) rfl sg_lay_RX11 (j := 13) (by decide) (o1 := 58) (by first | rfl | omega) rfl (host := "") (.inl kw_339) dX11_range_47 (fun h16 => ?_)
            refine gw_iload_n F 3 rfl rfl dX11_range_50 ?_
            refine gk_PI F (gc_V F (S := [sg_i u6]) (As := [sg_i x2_11]) (T := TX4) (N := 3) (CX4_at (so_58 hst) r2_11 hf) (so_58 hst) (by decide) rfl kw_546 kw_97 kw_543 kw_544 kw_545 hcX4_at ⟨by decide, by decide⟩ rfl rfl (Nat.le_of_ble_eq_true rfl) ⟨by decide, by decide⟩ dX11_range_51) (fun u17 h18 hf => ?_)
            refine gw_icmp_ge F (tgt := 62) dX11_range_54 (by decide) h7 h18 (fun c19 => ?_) (fun c19 => ?_)
            · have hf := hf.1 c19
              refine gw_iload_n F 3 rfl rfl dX11_range_62 ?_
              refine gw_sub [1, 2, 4, 5, 0] rfl ?_
              exact J63 x2_11 r2_11 hf
            · have hf := hf.2 c19
              refine gw_sub [1, 2, 4, 5, 0] rfl ?_
              exact J57  hf
  obtain ⟨n20, hf⟩ := hf
  refine gw_sub [3, 4, 2, 1, 0] rfl ?_
  refine L11 _ (fun x2_95e11 x3_95e11 r2_95e11 r3_95e11 hf => ?_) n20 (-1) (-1) 0 (by decide) (by decide) (by decide) hf
  refine gw_iload_n F 1 rfl rfl dX11_range_95 ?_
  refine gw_switch F dX11_range_96 r1 (td := 150) (by decide) (fun c21 => ?_) (fun i hi1 hi2 => ?_)
  · have hf := hf.1 c21
    refine gw_iconst F dX11_range_150 ?_
    exact gr_HI F (by decide) hf (by decide) (by decide) dX11_range_151
  · rcases (show i = 0 ∨ i = 1 ∨ i = 2 ∨ i = 3 by omega) with rfl | rfl | rfl | rfl
    · have hf := hf.2.1 (by omega)
      refine ⟨32, 128, rfl, by decide, ?_⟩
      refine gw_aload_n F 0 rfl rfl (by decide) dX11_range_128 ?_
      refine gw_get7 F (so_0 hst) (by decide) rfl sg_lay_RX11 (j := 13) (by decide) (o1 := 58) (by first | rfl | omega) rfl (host := "") (.inl kw_339) dX11_range_129 (fun h22 => ?_)
      refine gw_iload_n F 2 rfl rfl dX11_range_132 ?_
      refine gk_PI F (gc_V F (S := []) (As := [sg_i x2_95e11]) (T := TX4) (N := 3) (CX4_at (so_58 hst) r2_95e11 hf) (so_58 hst) (by decide) rfl kw_546 kw_97 kw_543 kw_544 kw_545 hcX4_at ⟨by decide, by decide⟩ rfl rfl (Nat.le_of_ble_eq_true rfl) ⟨by decide, by decide⟩ dX11_range_133) (fun u23 h24 hf => ?_)
      exact gr_HI F h24 hf (by decide) (by decide) dX11_range_136
    · have hf := hf.2.2.1 (by omega)
      refine ⟨41, 137, rfl, by decide, ?_⟩
      refine gw_aload_n F 0 rfl rfl (by decide) dX11_range_137 ?_
      refine gw_get7 F (so_0 hst) (by decide) rfl sg_lay_RX11 (j := 13) (by decide) (o1 := 58) (by first | rfl | omega) rfl (host := "") (.inl kw_339) dX11_range_138 (fun h25 => ?_)
      refine gw_iload_n F 3 rfl rfl dX11_range_141 ?_
      refine gk_PI F (gc_V F (S := []) (As := [sg_i x3_95e11]) (T := TX4) (N := 3) (CX4_at (so_58 hst) r3_95e11 hf) (so_58 hst) (by decide) rfl kw_546 kw_97 kw_543 kw_544 kw_545 hcX4_at ⟨by decide, by decide⟩ rfl rfl (Nat.le_of_ble_eq_true rfl) ⟨by decide, by decide⟩ dX11_range_142) (fun u26 h27 hf => ?_)
      exact gr_HI F h27 hf (by decide) (by decide) dX11_range_145
    · have hf := hf.2.2.2.1 (by omega)
      refine ⟨50, 146, rfl, by decide, ?_⟩
      refine gw_iload_n F 2 rfl rfl dX11_range_146 ?_
      exact gr_HI F r2_95e11 hf (by decide) (by decide) dX11_range_147
    · have hf := hf.2.2.2.2 (by omega)
      refine ⟨52, 148, rfl, by decide, ?_⟩
      refine gw_iload_n F 3 rfl rfl dX11_range_148 ?_
      exact gr_HI F r3_95e11 hf (by decide) (by decide) dX11_range_149

theorem dX1_readOnce_0 : decode cX1_readOnce 0 = .ok (.iload_n 1, 1) := by decide +kernel
theorem dX1_readOnce_1 : decode cX1_readOnce 1 = .ok (.ifCond .eq 10, 3) := by decide +kernel
theorem dX1_readOnce_4 : decode cX1_readOnce 4 = .ok (.aload_n 0, 1) := by decide +kernel
theorem dX1_readOnce_5 : decode cX1_readOnce 5 = .ok (.iconst 3, 1) := by decide +kernel
theorem dX1_readOnce_6 : decode cX1_readOnce 6 = .ok (.invokevirtual 73, 3) := by decide +kernel
theorem dX1_readOnce_9 : decode cX1_readOnce 9 = .ok (.iload_n 1, 1) := by decide +kernel
theorem dX1_readOnce_10 : decode cX1_readOnce 10 = .ok (.ireturn, 1) := by decide +kernel
theorem dX1_readOnce_11 : decode cX1_readOnce 11 = .ok (.aload_n 0, 1) := by decide +kernel
theorem dX1_readOnce_12 : decode cX1_readOnce 12 = .ok (.invokevirtual 97, 3) := by decide +kernel
theorem dX1_readOnce_15 : decode cX1_readOnce 15 = .ok (.aload_n 0, 1) := by decide +kernel
theorem dX1_readOnce_16 : decode cX1_readOnce 16 = .ok (.iconst 1, 1) := by decide +kernel
theorem dX1_readOnce_17 : decode cX1_readOnce 17 = .ok (.sipush 9999, 3) := by decide +kernel
theorem dX1_readOnce_20 : decode cX1_readOnce 20 = .ok (.sipush 9999, 3) := by decide +kernel
theorem dX1_readOnce_23 : decode cX1_readOnce 23 = .ok (.invokevirtual 100, 3) := by decide +kernel
theorem dX1_readOnce_26 : decode cX1_readOnce 26 = .ok (.ireturn, 1) := by decide +kernel
theorem hcX1_readOnce : yX1_readOnce.cls ≠ "java/lang/invoke/MethodHandle" ∧ yX1_readOnce.cls ≠ "java/lang/invoke/VarHandle" ∧ (parseMethodDescriptor yX1_readOnce.desc).map (fun d => d.parameters.length) = some 2 := ⟨by decide +kernel, by decide +kernel, by decide +kernel⟩
def fX1_readOnce (s0 : sg_M) (x1 : Int) (Q : Int → sg_M → Prop) : Prop := ((x1 = 0 → fX9_advance s0 (fun s2 => fX9_number s2 1 9999 9999 (fun u3 s5 => Q u3 s5))) ∧ (¬ (x1 = 0) → fX9_fail s0 3 (fun s6 => Q x1 s6)))
set_option maxHeartbeats 4000000 in
set_option maxRecDepth 100000 in
theorem CX1_readOnce {l : Launch} {G : sg_G} {La : sg_L} {s0 : sg_M} (hst : sg_St La) {x1 : Int} (r1 : sg_R x1) {Q : Int → sg_M → Prop} (hf : fX1_readOnce s0 x1 Q) : sg_C l G yX1_readOnce cX1_readOnce 2 (some .int) 4 0 0 La s0 [sg_r 3, sg_i x1] (sg_HI La Q) := by
  refine sg_body (by decide +kernel) (Nat.le_of_ble_eq_true rfl) ?_
  intro p e s m args below meth c F hnm
  unfold fX1_readOnce at hf
  show sg_W p l e (sg_rm 4 0 0) s m args below meth c (MQ below (sg_Q (some .int) G La s.heap.size (sg_HI La Q)) args s 0 0 (sg_A La s.heap.size)) 2 G (sg_A La s.heap.size) La s0 0 0 0 [(0, sg_r 3), (1, sg_i x1)] []
  refine gw_iload_n F 1 rfl rfl dX1_readOnce_0 ?_
  refine gw_if_eq F (tgt := 11) dX1_readOnce_1 (by decide) r1 (fun c1 => ?_) (fun c1 => ?_)
  · have hf := hf.1 c1
    refine gw_aload_n F 0 rfl rfl (by decide) dX1_readOnce_11 ?_
    refine gk_HV F (gc_V F (S := []) (As := []) (T := TX9) (N := 8) (CX9_advance hst hf) (so_3 hst) (by decide) rfl kw_368 kw_92 kw_478 kw_366 kw_367 hcX9_advance ⟨by decide, by decide⟩ rfl rfl (Nat.le_of_ble_eq_true rfl) ⟨by decide, by decide⟩ dX1_readOnce_12) (fun s2 hf => ?_)
    refine gw_aload_n F 0 rfl rfl (by decide) dX1_readOnce_15 ?_
    refine gw_iconst F dX1_readOnce_16 ?_
    refine gw_sipush F rfl dX1_readOnce_17 ?_
    refine gw_sipush F rfl dX1_readOnce_20 ?_
    refine gk_HI F (gc_V F (S := []) (As := [sg_i 1, sg_i 9999, sg_i 9999]) (T := TX9) (N := 8) (CX9_number hst (by decide) (by decide) (by decide) hf) (so_3 hst) (by decide) rfl kw_453 kw_92 kw_450 kw_451 kw_452 hcX9_number ⟨by decide, by decide⟩ rfl rfl (Nat.le_of_ble_eq_true rfl) ⟨by decide, by decide⟩ dX1_readOnce_23) (fun u3 s5 h4 hf => ?_)
    exact gr_HI F h4 hf (by decide) (by decide) dX1_readOnce_26
  · have hf := hf.2 c1
    refine gw_aload_n F 0 rfl rfl (by decide) dX1_readOnce_4 ?_
    refine gw_iconst F dX1_readOnce_5 ?_
    refine gk_HV F (gc_V F (S := []) (As := [sg_i 3]) (T := TX9) (N := 8) (CX9_fail hst (by decide) hf) (so_3 hst) (by decide) rfl kw_457 kw_92 kw_477 kw_455 kw_456 hcX9_fail ⟨by decide, by decide⟩ rfl rfl (Nat.le_of_ble_eq_true rfl) ⟨by decide, by decide⟩ dX1_readOnce_6) (fun s6 hf => ?_)
    refine gw_iload_n F 1 rfl rfl dX1_readOnce_9 ?_
    exact gr_HI F r1 hf (by decide) (by decide) dX1_readOnce_10

theorem dX1_readPieces_0 : decode cX1_readPieces 0 = .ok (.aload_n 1, 1) := by decide +kernel
theorem dX1_readPieces_1 : decode cX1_readPieces 1 = .ok (.iconst 1, 1) := by decide +kernel
theorem dX1_readPieces_2 : decode cX1_readPieces 2 = .ok (.bipush 60, 2) := by decide +kernel
theorem dX1_readPieces_4 : decode cX1_readPieces 4 = .ok (.bipush 60, 2) := by decide +kernel
theorem dX1_readPieces_6 : decode cX1_readPieces 6 = .ok (.aload_n 0, 1) := by decide +kernel
theorem dX1_readPieces_7 : decode cX1_readPieces 7 = .ok (.getfield 24, 3) := by decide +kernel
theorem dX1_readPieces_10 : decode cX1_readPieces 10 = .ok (.isub, 1) := by decide +kernel
theorem dX1_readPieces_11 : decode cX1_readPieces 11 = .ok (.invokevirtual 100, 3) := by decide +kernel
theorem dX1_readPieces_14 : decode cX1_readPieces 14 = .ok (.istore_n 2, 1) := by decide +kernel
theorem dX1_readPieces_15 : decode cX1_readPieces 15 = .ok (.aload_n 1, 1) := by decide +kernel
theorem dX1_readPieces_16 : decode cX1_readPieces 16 = .ok (.iconst 1, 1) := by decide +kernel
theorem dX1_readPieces_17 : decode cX1_readPieces 17 = .ok (.bipush 99, 2) := by decide +kernel
theorem dX1_readPieces_19 : decode cX1_readPieces 19 = .ok (.bipush 99, 2) := by decide +kernel
theorem dX1_readPieces_21 : decode cX1_readPieces 21 = .ok (.invokevirtual 100, 3) := by decide +kernel
theorem dX1_readPieces_24 : decode cX1_readPieces 24 = .ok (.istore_n 3, 1) := by decide +kernel
theorem dX1_readPieces_25 : decode cX1_readPieces 25 = .ok (.aload_n 1, 1) := by decide +kernel
theorem dX1_readPieces_26 : decode cX1_readPieces 26 = .ok (.iconst 1, 1) := by decide +kernel
theorem dX1_readPieces_27 : decode cX1_readPieces 27 = .ok (.bipush 20, 2) := by decide +kernel
theorem dX1_readPieces_29 : decode cX1_readPieces 29 = .ok (.bipush 20, 2) := by decide +kernel
theorem dX1_readPieces_31 : decode cX1_readPieces 31 = .ok (.invokevirtual 100, 3) := by decide +kernel
theorem dX1_readPieces_34 : decode cX1_readPieces 34 = .ok (.istore 4, 2) := by decide +kernel
theorem dX1_readPieces_36 : decode cX1_readPieces 36 = .ok (.bipush 9, 2) := by decide +kernel
theorem dX1_readPieces_38 : decode cX1_readPieces 38 = .ok (.iload_n 3, 1) := by decide +kernel
theorem dX1_readPieces_39 : decode cX1_readPieces 39 = .ok (.iconst 1, 1) := by decide +kernel
theorem dX1_readPieces_40 : decode cX1_readPieces 40 = .ok (.isub, 1) := by decide +kernel
theorem dX1_readPieces_41 : decode cX1_readPieces 41 = .ok (.invokestatic 103, 3) := by decide +kernel
theorem dX1_readPieces_44 : decode cX1_readPieces 44 = .ok (.istore 5, 2) := by decide +kernel
theorem dX1_readPieces_46 : decode cX1_readPieces 46 = .ok (.aload_n 1, 1) := by decide +kernel
theorem dX1_readPieces_47 : decode cX1_readPieces 47 = .ok (.ldc 106, 2) := by decide +kernel
theorem dX1_readPieces_49 : decode cX1_readPieces 49 = .ok (.invokevirtual 81, 3) := by decide +kernel
theorem dX1_readPieces_52 : decode cX1_readPieces 52 = .ok (.ifCond .eq 15, 3) := by decide +kernel
theorem dX1_readPieces_55 : decode cX1_readPieces 55 = .ok (.aload_n 1, 1) := by decide +kernel
theorem dX1_readPieces_56 : decode cX1_readPieces 56 = .ok (.iconst 0, 1) := by decide +kernel
theorem dX1_readPieces_57 : decode cX1_readPieces 57 = .ok (.iload 5, 2) := by decide +kernel
theorem dX1_readPieces_59 : decode cX1_readPieces 59 = .ok (.iload 5, 2) := by decide +kernel
theorem dX1_readPieces_61 : decode cX1_readPieces 61 = .ok (.invokevirtual 100, 3) := by decide +kernel
theorem dX1_readPieces_64 : decode cX1_readPieces 64 = .ok (.goto 4, 3) := by decide +kernel
theorem dX1_readPieces_67 : decode cX1_readPieces 67 = .ok (.iconst 0, 1) := by decide +kernel
theorem dX1_readPieces_68 : decode cX1_readPieces 68 = .ok (.istore 6, 2) := by decide +kernel
theorem dX1_readPieces_70 : decode cX1_readPieces 70 = .ok (.aload_n 1, 1) := by decide +kernel
theorem dX1_readPieces_71 : decode cX1_readPieces 71 = .ok (.ldc 107, 2) := by decide +kernel
theorem dX1_readPieces_73 : decode cX1_readPieces 73 = .ok (.invokevirtual 81, 3) := by decide +kernel
theorem dX1_readPieces_76 : decode cX1_readPieces 76 = .ok (.ifCond .eq 24, 3) := by decide +kernel
theorem dX1_readPieces_79 : decode cX1_readPieces 79 = .ok (.aload_n 1, 1) := by decide +kernel
theorem dX1_readPieces_80 : decode cX1_readPieces 80 = .ok (.bipush 45, 2) := by decide +kernel
theorem dX1_readPieces_82 : decode cX1_readPieces 82 = .ok (.invokevirtual 109, 3) := by decide +kernel
theorem dX1_readPieces_85 : decode cX1_readPieces 85 = .ok (.aload_n 1, 1) := by decide +kernel
theorem dX1_readPieces_86 : decode cX1_readPieces 86 = .ok (.iconst 0, 1) := by decide +kernel
theorem dX1_readPieces_87 : decode cX1_readPieces 87 = .ok (.bipush 99, 2) := by decide +kernel
theorem dX1_readPieces_89 : decode cX1_readPieces 89 = .ok (.bipush 99, 2) := by decide +kernel
theorem dX1_readPieces_91 : decode cX1_readPieces 91 = .ok (.invokevirtual 100, 3) := by decide +kernel
theorem dX1_readPieces_94 : decode cX1_readPieces 94 = .ok (.invokestatic 112, 3) := by decide +kernel
theorem dX1_readPieces_97 : decode cX1_readPieces 97 = .ok (.goto 4, 3) := by decide +kernel
theorem dX1_readPieces_100 : decode cX1_readPieces 100 = .ok (.iconst 0, 1) := by decide +kernel
theorem dX1_readPieces_101 : decode cX1_readPieces 101 = .ok (.istore 7, 2) := by decide +kernel
theorem dX1_readPieces_103 : decode cX1_readPieces 103 = .ok (.aload_n 1, 1) := by decide +kernel
theorem dX1_readPieces_104 : decode cX1_readPieces 104 = .ok (.getfield 116, 3) := by decide +kernel
theorem dX1_readPieces_107 : decode cX1_readPieces 107 = .ok (.ifCond .ne 15, 3) := by decide +kernel
theorem dX1_readPieces_110 : decode cX1_readPieces 110 = .ok (.aload_n 0, 1) := by decide +kernel
theorem dX1_readPieces_111 : decode cX1_readPieces 111 = .ok (.iload_n 2, 1) := by decide +kernel
theorem dX1_readPieces_112 : decode cX1_readPieces 112 = .ok (.iload_n 3, 1) := by decide +kernel
theorem dX1_readPieces_113 : decode cX1_readPieces 113 = .ok (.iload 4, 2) := by decide +kernel
theorem dX1_readPieces_115 : decode cX1_readPieces 115 = .ok (.iload 6, 2) := by decide +kernel
theorem dX1_readPieces_117 : decode cX1_readPieces 117 = .ok (.iload 7, 2) := by decide +kernel
theorem dX1_readPieces_119 : decode cX1_readPieces 119 = .ok (.invokevirtual 34, 3) := by decide +kernel
theorem dX1_readPieces_122 : decode cX1_readPieces 122 = .ok (.return_, 1) := by decide +kernel
theorem hcX1_readPieces : yX1_readPieces.cls ≠ "java/lang/invoke/MethodHandle" ∧ yX1_readPieces.cls ≠ "java/lang/invoke/VarHandle" ∧ (parseMethodDescriptor yX1_readPieces.desc).map (fun d => d.parameters.length) = some 1 := ⟨by decide +kernel, by decide +kernel, by decide +kernel⟩
def fX1_readPieces_j101 (o : Int) (u3 : Int) (u6 : Int) (u9 : Int) (y0_68 : Int) (Q : sg_M → Prop) (s_101 : sg_M) (y0_101 : Int) : Prop := (((s_101 3 6) ≠ 0 → Q s_101) ∧ ((s_101 3 6) = 0 → fX1_addAlike s_101 o u3 u6 u9 y0_68 y0_101 (fun s21 => Q s21)))
def fX1_readPieces_j68 (o : Int) (u3 : Int) (u6 : Int) (u9 : Int) (Q : sg_M → Prop) (s_68 : sg_M) (y0_68 : Int) : Prop := fX9_skipWord s_68 2 (fun u16 s18 => ((u16 = 0 → (fX1_readPieces_j101 o u3 u6 u9 y0_68 Q) s18 0) ∧ (¬ (u16 = 0) → fX9_skipSign s18 45 (fun u23 s25 => fX9_number s25 0 99 99 (fun u26 s28 => fX11_signed u23 u26 (fun u29 => (fX1_readPieces_j101 o u3 u6 u9 y0_68 Q) s28 u29))))))
def fX1_readPieces (s0 : sg_M) (o : Int) (Q : sg_M → Prop) : Prop := sg_R (60 - (s0 o 4)) ∧ fX9_number s0 1 60 (60 - (s0 o 4)) (fun u3 s5 => fX9_number s5 1 99 99 (fun u6 s8 => fX9_number s8 1 20 20 (fun u9 s11 => sg_R (u6 - 1) ∧ fX9_skipWord s11 1 (fun u13 s15 => ((u13 = 0 → (fX1_readPieces_j68 o u3 u6 u9 Q) s15 0) ∧ (¬ (u13 = 0) → fX9_number s15 0 (sg_min 9 (u6 - 1)) (sg_min 9 (u6 - 1)) (fun u32 s34 => (fX1_readPieces_j68 o u3 u6 u9 Q) s34 u32)))))))
set_option maxHeartbeats 4000000 in
set_option maxRecDepth 100000 in
theorem CX1_readPieces {l : Launch} {G : sg_G} {La : sg_L} {s0 : sg_M} (hst : sg_St La) {o : Int} (to : sg_O La o 1) {Q : sg_M → Prop} (hf : fX1_readPieces s0 o Q) : sg_C l G yX1_readPieces cX1_readPieces 8 (none) 7 0 0 La s0 [sg_r o, sg_r 3] (sg_HV La Q) := by
  refine sg_body (by decide +kernel) (Nat.le_of_ble_eq_true rfl) ?_
  intro p e s m args below meth c F hnm
  unfold fX1_readPieces at hf
  show sg_W p l e (sg_rm 7 0 0) s m args below meth c (MQ below (sg_Q (none) G La s.heap.size (sg_HV La Q)) args s 0 0 (sg_A La s.heap.size)) 8 G (sg_A La s.heap.size) La s0 0 0 0 [(0, sg_r o), (1, sg_r 3)] []
  refine gw_aload_n F 1 rfl rfl (by decide) dX1_readPieces_0 ?_
  refine gw_iconst F dX1_readPieces_1 ?_
  refine gw_bipush F rfl dX1_readPieces_2 ?_
  refine gw_bipush F rfl dX1_readPieces_4 ?_
  refine gw_aload_n F 0 rfl rfl to.1 dX1_readPieces_6 ?_
  refine gw_get0 F to (by decide) rfl sg_lay_RX1 (j := 4) (by decide) rfl (host := "") (.inl kw_163) dX1_readPieces_7 (fun h1 => ?_)
  refine gw_isub F rfl dX1_readPieces_10 ?_
  obtain ⟨g2, hf⟩ := hf
  refine gk_HI F (gc_V F (S := []) (As := [sg_i 1, sg_i 60, sg_i (60 - (s0 o 4))]) (T := TX9) (N := 8) (CX9_number hst (by decide) (by decide) g2 hf) (so_3 hst) (by decide) rfl kw_453 kw_92 kw_450 kw_451 kw_452 hcX9_number ⟨by decide, by decide⟩ rfl rfl (Nat.le_of_ble_eq_true rfl) ⟨by decide, by decide⟩ dX1_readPieces_11) (fun u3 s5 h4 hf => ?_)
  refine gw_istore_n F rfl (by decide) rfl dX1_readPieces_14 ?_
  refine gw_aload_n F 2 rfl rfl (by decide) dX1_readPieces_15 ?_
  refine gw_iconst F dX1_readPieces_16 ?_
  refine gw_bipush F rfl dX1_readPieces_17 ?_
  refine gw_bipush F rfl dX1_readPieces_19 ?_
  refine gk_HI F (gc_V F (S := []) (As := [sg_i 1, sg_i 99, sg_i 99]) (T := TX9) (N := 8) (CX9_number hst (by decide) (by decide) (by decide) hf) (so_3 hst) (by decide) rfl kw_453 kw_92 kw_450 kw_451 kw_452 hcX9_number ⟨by decide, by decide⟩ rfl rfl (Nat.le_of_ble_eq_true rfl) ⟨by decide, by decide⟩ dX1_readPieces_21) (fun u6 s8 h7 hf => ?_)
  refine gw_istore_n F rfl (by decide) rfl dX1_readPieces_24 ?_
  refine gw_aload_n F 3 rfl rfl (by decide) dX1_readPieces_25 ?_
  refine gw_iconst F dX1_readPieces_26 ?_
  refine gw_bipush F rfl dX1_readPieces_27 ?_
  refine gw_bipush F rfl dX1_readPieces_29 ?_
  refine gk_HI F (gc_V F (S := []) (As := [sg_i 1, sg_i 20, sg_i 20]) (T := TX9) (N := 8) (CX9_number hst (by decide) (by decide) (by decide) hf) (so_3 hst) (by decide) rfl kw_453 kw_92 kw_450 kw_451 kw_452 hcX9_number ⟨by decide, by decide⟩ rfl rfl (Nat.le_of_ble_eq_true rfl) ⟨by decide, by decide⟩ dX1_readPieces_31) (fun u9 s11 h10 hf => ?_)
  refine gw_istore F (by decide) rfl dX1_readPieces_34 ?_
  refine gw_bipush F rfl dX1_readPieces_36 ?_
  refine gw_iload_n F 1 rfl rfl dX1_readPieces_38 ?_
  refine gw_iconst F dX1_readPieces_39 ?_
  refine gw_isub F rfl dX1_readPieces_40 ?_
  obtain ⟨g12, hf⟩ := hf
  refine gw_min F (by decide) g12 rfl kw_458 kw_min1 kw_math kw_min2 (Nat.le_of_ble_eq_true rfl) (by decide) (by decide) (by decide) (by decide) dX1_readPieces_41 ?_
  refine gw_istore F (by decide) rfl dX1_readPieces_44 ?_
  refine gw_aload_n F 5 rfl rfl (by decide) dX1_readPieces_46 ?_
  refine gw_ldcS F (i := 1) rfl dX1_readPieces_47 ?_
  refine gk_HZ F (gc_V F (S := []) (As := [sg_a (G.2.2.1 1)]) (T := TX9) (N := 8) (CX9_skipWord hst (by decide) hf) (so_3 hst) (by decide) rfl kw_399 kw_92 kw_396 kw_397 kw_398 hcX9_skipWord ⟨by decide, by decide⟩ rfl rfl (Nat.le_of_ble_eq_true rfl) ⟨by decide, by decide⟩ dX1_readPieces_49) (fun u13 s15 h14 hf => ?_)
  have J68 : ∀ (s_68 : sg_M) (y0_68 : Int), sg_R y0_68 → (fX1_readPieces_j68 o u3 u6 u9 Q) s_68 y0_68 → sg_W p l e (sg_rm 7 0 0) s m args below meth c (MQ below (sg_Q (none) G La s.heap.size (sg_HV La Q)) args s 0 0 (sg_A La s.heap.size)) 8 G (sg_A La s.heap.size) La s_68 0 0 68 [(0, sg_r o), (1, sg_r 3), (2, sg_i u3), (3, sg_i u6), (4, sg_i u9)] [sg_i y0_68] := by
    intro s_68 y0_68 ry0_68 hf
    unfold fX1_readPieces_j68 at hf
    refine gw_istore F (by decide) rfl dX1_readPieces_68 ?_
    refine gw_aload_n F 2 rfl rfl (by decide) dX1_readPieces_70 ?_
    refine gw_ldcS F (i := 2) rfl dX1_readPieces_71 ?_
    refine gk_HZ F (gc_V F (S := []) (As := [sg_a (G.2.2.1 2)]) (T := TX9) (N := 8) (CX9_skipWord hst (by decide) hf) (so_3 hst) (by decide) rfl kw_399 kw_92 kw_396 kw_397 kw_398 hcX9_skipWord ⟨by decide, by decide⟩ rfl rfl (Nat.le_of_ble_eq_true rfl) ⟨by decide, by decide⟩ dX1_readPieces_73) (fun u16 s18 h17 hf => ?_)
    have J101 : ∀ (s_101 : sg_M) (y0_101 : Int), sg_R y0_101 → (fX1_readPieces_j101 o u3 u6 u9 y0_68 Q) s_101 y0_101 → sg_W p l e (sg_rm 7 0 0) s m args below meth c (MQ below (sg_Q (none) G La s.heap.size (sg_HV La Q)) args s 0 0 (sg_A La s.heap.size)) 8 G (sg_A La s.heap.size) La s_101 0 0 101 [(0, sg_r o), (1, sg_r 3), (2, sg_i u3), (3, sg_i u6), (4, sg_i u9), (6, sg_i y0_68)] [sg_i y0_101] := by
      intro s_101 y0_101 ry0_101 hf
      unfold fX1_readPieces_j101 at hf
      refine gw_istore F (by decide) rfl dX1_readPieces_101 ?_
      refine gw_aload_n F 2 rfl rfl (by decide) dX1_readPieces_103 ?_
      refine gw_get0 F (so_3 hst) (by decide) rfl sg_lay_RX9 (j := 6) (by decide) rfl (.inr kw_147) dX1_readPieces_104 (fun h19 => ?_)
      refine gw_if_ne F (tgt := 122) dX1_readPieces_107 (by decide) h19 (fun c20 => ?_) (fun c20 => ?_)
      · have hf := hf.1 c20
        exact gr_HV F hf (by decide) (by decide) dX1_readPieces_122
      · have hf := hf.2 c20
        refine gw_aload_n F 1 rfl rfl to.1 dX1_readPieces_110 ?_
        refine gw_iload_n F 3 rfl rfl dX1_readPieces_111 ?_
        refine gw_iload_n F 4 rfl rfl dX1_readPieces_112 ?_
        refine gw_iload F 5 rfl dX1_readPieces_113 ?_
        refine gw_iload F 6 rfl dX1_readPieces_115 ?_
        refine gw_iload F 0 rfl dX1_readPieces_117 ?_
        refine gk_HV F (gc_V F (S := []) (As := [sg_i u3, sg_i u6, sg_i u9, sg_i y0_68, sg_i y0_101]) (T := TX1) (N := 7) (CX1_addAlike to h4 h7 h10 ry0_68 ry0_101 hf) to (by decide) rfl kw_321 kw_94 kw_472 kw_319 kw_320 hcX1_addAlike ⟨by decide, by decide⟩ rfl rfl (Nat.le_of_ble_eq_true rfl) ⟨by decide, by decide⟩ dX1_readPieces_119) (fun s21 hf => ?_)
        exact gr_HV F hf (by decide) (by decide) dX1_readPieces_122
    refine gw_if_eq F (tgt := 100) dX1_readPieces_76 (by decide) (sg_B_R h17) (fun c22 => ?_) (fun c22 => ?_)
    · have hf := hf.1 c22
      refine gw_iconst F dX1_readPieces_100 ?_
      refine gw_sub [1, 2, 3, 4, 5, 0] rfl ?_
      exact J101 s18 0 (by decide) hf
    · have hf := hf.2 c22
      refine gw_aload_n F 2 rfl rfl (by decide) dX1_readPieces_79 ?_
      refine gw_bipush F rfl dX1_readPieces_80 ?_
      refine gk_HZ F (gc_V F (S := []) (As := [sg_i 45]) (T := TX9) (N := 8) (CX9_skipSign hst (by decide) hf) (so_3 hst) (by decide) rfl kw_464 kw_92 kw_461 kw_462 kw_463 hcX9_skipSign ⟨by decide, by decide⟩ rfl rfl (Nat.le_of_ble_eq_true rfl) ⟨by decide, by decide⟩ dX1_readPieces_82) (fun u23 s25 h24 hf => ?_)
      refine gw_aload_n F 2 rfl rfl (by decide) dX1_readPieces_85 ?_
      refine gw_iconst F dX1_readPieces_86 ?_
      refine gw_bipush F rfl dX1_readPieces_87 ?_
      refine gw_bipush F rfl dX1_readPieces_89 ?_
      refine gk_HI F (gc_V F (S := [sg_i u23]) (As := [sg_i 0, sg_i 99, sg_i 99]) (T := TX9) (N := 8) (CX9_number hst (by decide) (by decide) (by decide) hf) (so_3 hst) (by decide) rfl kw_453 kw_92 kw_450 kw_451 kw_452 hcX9_number ⟨by decide, by decide⟩ rfl rfl (Nat.le_of_ble_eq_true rfl) ⟨by decide, by decide⟩ dX1_readPieces_91) (fun u26 s28 h27 hf => ?_)
      refine gk_PI F (gc_SN F (S := []) (As := [sg_i u23, sg_i u26]) (CX11_signed h24 h27 hf) kw_471 kw_90 kw_469 kw_470 hcX11_signed ⟨by decide, by decide⟩ rfl rfl (Nat.le_of_ble_eq_true rfl) ⟨by decide, by decide⟩ dX1_readPieces_94) (fun u29 h30 hf => ?_)
      refine gw_goto F (tgt := 101) dX1_readPieces_97 (by decide) ?_
      refine gw_sub [1, 2, 3, 4, 5, 0] rfl ?_
      exact J101 s28 u29 h30 hf
  refine gw_if_eq F (tgt := 67) dX1_readPieces_52 (by decide) (sg_B_R h14) (fun c31 => ?_) (fun c31 => ?_)
  · have hf := hf.1 c31
    refine gw_iconst F dX1_readPieces_67 ?_
    refine gw_sub [4, 5, 3, 2, 1] rfl ?_
    exact J68 s15 0 (by decide) hf
  · have hf := hf.2 c31
    refine gw_aload_n F 5 rfl rfl (by decide) dX1_readPieces_55 ?_
    refine gw_iconst F dX1_readPieces_56 ?_
    refine gw_iload F 0 rfl dX1_readPieces_57 ?_
    refine gw_iload F 0 rfl dX1_readPieces_59 ?_
    refine gk_HI F (gc_V F (S := []) (As := [sg_i 0, sg_i (sg_min 9 (u6 - 1)), sg_i (sg_min 9 (u6 - 1))]) (T := TX9) (N := 8) (CX9_number hst (by decide) (sg_min_R (by decide) g12) (sg_min_R (by decide) g12) hf) (so_3 hst) (by decide) rfl kw_453 kw_92 kw_450 kw_451 kw_452 hcX9_number ⟨by decide, by decide⟩ rfl rfl (Nat.le_of_ble_eq_true rfl) ⟨by decide, by decide⟩ dX1_readPieces_61) (fun u32 s34 h33 hf => ?_)
    refine gw_goto F (tgt := 68) dX1_readPieces_64 (by decide) ?_
    refine gw_sub [4, 5, 3, 2, 1] rfl ?_
    exact J68 s34 u32 h33 hf

theorem dX1_readLine_0 : decode cX1_readLine 0 = .ok (.aload_n 1, 1) := by decide +kernel
theorem dX1_readLine_1 : decode cX1_readLine 1 = .ok (.ldc 79, 2) := by decide +kernel
theorem dX1_readLine_3 : decode cX1_readLine 3 = .ok (.invokevirtual 81, 3) := by decide +kernel
theorem dX1_readLine_6 : decode cX1_readLine 6 = .ok (.ifCond .eq 11, 3) := by decide +kernel
theorem dX1_readLine_9 : decode cX1_readLine 9 = .ok (.aload_n 0, 1) := by decide +kernel
theorem dX1_readLine_10 : decode cX1_readLine 10 = .ok (.aload_n 1, 1) := by decide +kernel
theorem dX1_readLine_11 : decode cX1_readLine 11 = .ok (.invokevirtual 85, 3) := by decide +kernel
theorem dX1_readLine_14 : decode cX1_readLine 14 = .ok (.goto 56, 3) := by decide +kernel
theorem dX1_readLine_17 : decode cX1_readLine 17 = .ok (.aload_n 1, 1) := by decide +kernel
theorem dX1_readLine_18 : decode cX1_readLine 18 = .ok (.ldc 88, 2) := by decide +kernel
theorem dX1_readLine_20 : decode cX1_readLine 20 = .ok (.invokevirtual 89, 3) := by decide +kernel
theorem dX1_readLine_23 : decode cX1_readLine 23 = .ok (.ifCond .eq 18, 3) := by decide +kernel
theorem dX1_readLine_26 : decode cX1_readLine 26 = .ok (.aload_n 0, 1) := by decide +kernel
theorem dX1_readLine_27 : decode cX1_readLine 27 = .ok (.aload_n 1, 1) := by decide +kernel
theorem dX1_readLine_28 : decode cX1_readLine 28 = .ok (.aload_n 0, 1) := by decide +kernel
theorem dX1_readLine_29 : decode cX1_readLine 29 = .ok (.getfield 28, 3) := by decide +kernel
theorem dX1_readLine_32 : decode cX1_readLine 32 = .ok (.invokestatic 92, 3) := by decide +kernel
theorem dX1_readLine_35 : decode cX1_readLine 35 = .ok (.putfield 28, 3) := by decide +kernel
theorem dX1_readLine_38 : decode cX1_readLine 38 = .ok (.goto 32, 3) := by decide +kernel
theorem dX1_readLine_41 : decode cX1_readLine 41 = .ok (.aload_n 1, 1) := by decide +kernel
theorem dX1_readLine_42 : decode cX1_readLine 42 = .ok (.ldc 96, 2) := by decide +kernel
theorem dX1_readLine_44 : decode cX1_readLine 44 = .ok (.invokevirtual 89, 3) := by decide +kernel
theorem dX1_readLine_47 : decode cX1_readLine 47 = .ok (.ifCond .eq 18, 3) := by decide +kernel
theorem dX1_readLine_50 : decode cX1_readLine 50 = .ok (.aload_n 0, 1) := by decide +kernel
theorem dX1_readLine_51 : decode cX1_readLine 51 = .ok (.aload_n 1, 1) := by decide +kernel
theorem dX1_readLine_52 : decode cX1_readLine 52 = .ok (.aload_n 0, 1) := by decide +kernel
theorem dX1_readLine_53 : decode cX1_readLine 53 = .ok (.getfield 31, 3) := by decide +kernel
theorem dX1_readLine_56 : decode cX1_readLine 56 = .ok (.invokestatic 92, 3) := by decide +kernel
theorem dX1_readLine_59 : decode cX1_readLine 59 = .ok (.putfield 31, 3) := by decide +kernel
theorem dX1_readLine_62 : decode cX1_readLine 62 = .ok (.goto 8, 3) := by decide +kernel
theorem dX1_readLine_65 : decode cX1_readLine 65 = .ok (.aload_n 1, 1) := by decide +kernel
theorem dX1_readLine_66 : decode cX1_readLine 66 = .ok (.iconst 1, 1) := by decide +kernel
theorem dX1_readLine_67 : decode cX1_readLine 67 = .ok (.invokevirtual 73, 3) := by decide +kernel
theorem dX1_readLine_70 : decode cX1_readLine 70 = .ok (.return_, 1) := by decide +kernel
theorem hcX1_readLine : yX1_readLine.cls ≠ "java/lang/invoke/MethodHandle" ∧ yX1_readLine.cls ≠ "java/lang/invoke/VarHandle" ∧ (parseMethodDescriptor yX1_readLine.desc).map (fun d => d.parameters.length) = some 1 := ⟨by decide +kernel, by decide +kernel, by decide +kernel⟩
def fX1_readLine (s0 : sg_M) (o : Int) (Q : sg_M → Prop) : Prop := fX9_skipWord s0 0 (fun u1 s3 => ((u1 = 0 → fX9_isWord s3 3 (fun u5 => ((u5 = 0 → fX9_isWord s3 4 (fun u8 => ((u8 = 0 → fX9_fail s3 1 (fun s11 => Q s11)) ∧ (¬ (u8 = 0) → fX1_readOnce s3 (s3 o 6) (fun u13 s15 => ∀ s16 : sg_M, s16 = sg_up s15 o 6 u13 → Q s16))))) ∧ (¬ (u5 = 0) → fX1_readOnce s3 (s3 o 5) (fun u19 s21 => ∀ s22 : sg_M, s22 = sg_up s21 o 5 u19 → Q s22))))) ∧ (¬ (u1 = 0) → fX1_readPieces s3 o (fun s24 => Q s24))))
set_option maxHeartbeats 4000000 in
set_option maxRecDepth 100000 in
theorem CX1_readLine {l : Launch} {G : sg_G} {La : sg_L} {s0 : sg_M} (hst : sg_St La) {o : Int} (to : sg_O La o 1) {Q : sg_M → Prop} (hf : fX1_readLine s0 o Q) : sg_C l G yX1_readLine cX1_readLine 2 (none) 8 0 0 La s0 [sg_r o, sg_r 3] (sg_HV La Q) := by
  refine sg_body (by decide +kernel) (Nat.le_of_ble_eq_true rfl) ?_
  intro p e s m args below meth c F hnm
  unfold fX1_readLine at hf
  show sg_W p l e (sg_rm 8 0 0) s m args below meth c (MQ below (sg_Q (none) G La s.heap.size (sg_HV La Q)) args s 0 0 (sg_A La s.heap.size)) 2 G (sg_A La s.heap.size) La s0 0 0 0 [(0, sg_r o), (1, sg_r 3)] []
  refine gw_aload_n F 1 rfl rfl (by decide) dX1_readLine_0 ?_
  refine gw_ldcS F (i := 0) rfl dX1_readLine_1 ?_
  refine gk_HZ F (gc_V F (S := []) (As := [sg_a (G.2.2.1 0)]) (T := TX9) (N := 8) (CX9_skipWord hst (by decide) hf) (so_3 hst) (by decide) rfl kw_399 kw_92 kw_396 kw_397 kw_398 hcX9_skipWord ⟨by decide, by decide⟩ rfl rfl (Nat.le_of_ble_eq_true rfl) ⟨by decide, by decide⟩ dX1_readLine_3) (fun u1 s3 h2 hf => ?_)
  refine gw_if_eq F (tgt := 17) dX1_readLine_6 (by decide) (sg_B_R h2) (fun c4 => ?_) (fun c4 => ?_)
  · have hf := hf.1 c4
    refine gw_aload_n F 1 rfl rfl (by decide) dX1_readLine_17 ?_
    refine gw_ldcS F (i := 3) rfl dX1_readLine_18 ?_
    refine gk_PZ F (gc_V F (S := []) (As := [sg_a (G.2.2.1 3)]) (T := TX9) (N := 8) (CX9_isWord hst (by decide) hf) (so_3 hst) (by decide) rfl kw_403 kw_92 kw_473 kw_401 kw_402 hcX9_isWord ⟨by decide, by decide⟩ rfl rfl (Nat.le_of_ble_eq_true rfl) ⟨by decide, by decide⟩ dX1_readLine_20) (fun u5 h6 hf => ?_)
    refine gw_if_eq F (tgt := 41) dX1_readLine_23 (by decide) (sg_B_R h6) (fun c7 => ?_) (fun c7 => ?_)
    · have hf := hf.1 c7
      refine gw_aload_n F 1 rfl rfl (by decide) dX1_readLine_41 ?_
      refine gw_ldcS F (i := 4) rfl dX1_readLine_42 ?_
      refine gk_PZ F (gc_V F (S := []) (As := [sg_a (G.2.2.1 4)]) (T := TX9) (N := 8) (CX9_isWord hst (by decide) hf) (so_3 hst) (by decide) rfl kw_403 kw_92 kw_473 kw_401 kw_402 hcX9_isWord ⟨by decide, by decide⟩ rfl rfl (Nat.le_of_ble_eq_true rfl) ⟨by decide, by decide⟩ dX1_readLine_44) (fun u8 h9 hf => ?_)
      refine gw_if_eq F (tgt := 65) dX1_readLine_47 (by decide) (sg_B_R h9) (fun c10 => ?_) (fun c10 => ?_)
      · have hf := hf.1 c10
        refine gw_aload_n F 1 rfl rfl (by decide) dX1_readLine_65 ?_
        refine gw_iconst F dX1_readLine_66 ?_
        refine gk_HV F (gc_V F (S := []) (As := [sg_i 1]) (T := TX9) (N := 8) (CX9_fail hst (by decide) hf) (so_3 hst) (by decide) rfl kw_457 kw_92 kw_477 kw_455 kw_456 hcX9_fail ⟨by decide, by decide⟩ rfl rfl (Nat.le_of_ble_eq_true rfl) ⟨by decide, by decide⟩ dX1_readLine_67) (fun s11 hf => ?_)
        exact gr_HV F hf (by decide) (by decide) dX1_readLine_70
      · have hf := hf.2 c10
        refine gw_aload_n F 0 rfl rfl to.1 dX1_readLine_50 ?_
        refine gw_aload_n F 1 rfl rfl (by decide) dX1_readLine_51 ?_
        refine gw_aload_n F 0 rfl rfl to.1 dX1_readLine_52 ?_
        refine gw_get0 F to (by decide) rfl sg_lay_RX1 (j := 6) (by decide) rfl (host := "") (.inl kw_169) dX1_readLine_53 (fun h12 => ?_)
        refine gk_HI F (gc_S F (S := [sg_r o]) (As := [sg_r 3, sg_i (s3 o 6)]) (CX1_readOnce hst h12 hf) kw_476 kw_94 kw_474 kw_475 hcX1_readOnce ⟨by decide, by decide⟩ rfl rfl (Nat.le_of_ble_eq_true rfl) ⟨by decide, by decide⟩ dX1_readLine_56) (fun u13 s15 h14 hf => ?_)
        obtain ⟨s16, e17⟩ : ∃ z : sg_M, z = sg_up s15 o 6 u13 := ⟨_, rfl⟩
        have hf := hf s16 e17
        refine gw_put0 F to (by decide) rfl sg_lay_RX1 (j := 6) (by decide) h14 e17 tyX1_ok nmX1 rfl (tyX1_ok 6 (by decide)) rfl (host := "") (.inl kw_169) dX1_readLine_59 ?_
        refine gw_goto F (tgt := 70) dX1_readLine_62 (by decide) ?_
        exact gr_HV F hf (by decide) (by decide) dX1_readLine_70
    · have hf := hf.2 c7
      refine gw_aload_n F 0 rfl rfl to.1 dX1_readLine_26 ?_
      refine gw_aload_n F 1 rfl rfl (by decide) dX1_readLine_27 ?_
      refine gw_aload_n F 0 rfl rfl to.1 dX1_readLine_28 ?_
      refine gw_get0 F to (by decide) rfl sg_lay_RX1 (j := 5) (by decide) rfl (host := "") (.inl kw_166) dX1_readLine_29 (fun h18 => ?_)
      refine gk_HI F (gc_S F (S := [sg_r o]) (As := [sg_r 3, sg_i (s3 o 5)]) (CX1_readOnce hst h18 hf) kw_476 kw_94 kw_474 kw_475 hcX1_readOnce ⟨by decide, by decide⟩ rfl rfl (Nat.le_of_ble_eq_true rfl) ⟨by decide, by decide⟩ dX1_readLine_32) (fun u19 s21 h20 hf => ?_)
      obtain ⟨s22, e23⟩ : ∃ z : sg_M, z = sg_up s21 o 5 u19 := ⟨_, rfl⟩
      have hf := hf s22 e23
      refine gw_put0 F to (by decide) rfl sg_lay_RX1 (j := 5) (by decide) h20 e23 tyX1_ok nmX1 rfl (tyX1_ok 5 (by decide)) rfl (host := "") (.inl kw_166) dX1_readLine_35 ?_
      refine gw_goto F (tgt := 70) dX1_readLine_38 (by decide) ?_
      exact gr_HV F hf (by decide) (by decide) dX1_readLine_70
  · have hf := hf.2 c4
    refine gw_aload_n F 0 rfl rfl to.1 dX1_readLine_9 ?_
    refine gw_aload_n F 1 rfl rfl (by decide) dX1_readLine_10 ?_
    refine gk_HV F (gc_V F (S := []) (As := [sg_r 3]) (T := TX1) (N := 7) (CX1_readPieces hst to hf) to (by decide) rfl kw_449 kw_94 kw_447 kw_448 kw_1 hcX1_readPieces ⟨by decide, by decide⟩ rfl rfl (Nat.le_of_ble_eq_true rfl) ⟨by decide, by decide⟩ dX1_readLine_11) (fun s24 hf => ?_)
    refine gw_goto F (tgt := 70) dX1_readLine_14 (by decide) ?_
    exact gr_HV F hf (by decide) (by decide) dX1_readLine_70

theorem dX2_init_0 : decode cX2_init 0 = .ok (.aload_n 0, 1) := by decide +kernel
theorem dX2_init_1 : decode cX2_init 1 = .ok (.invokespecial 3, 3) := by decide +kernel
theorem dX2_init_4 : decode cX2_init 4 = .ok (.aload_n 0, 1) := by decide +kernel
theorem dX2_init_5 : decode cX2_init 5 = .ok (.new 9, 3) := by decide +kernel
theorem dX2_init_8 : decode cX2_init 8 = .ok (.dup, 1) := by decide +kernel
theorem dX2_init_9 : decode cX2_init 9 = .ok (.bipush 40, 2) := by decide +kernel
theorem dX2_init_11 : decode cX2_init 11 = .ok (.invokespecial 11, 3) := by decide +kernel
theorem dX2_init_14 : decode cX2_init 14 = .ok (.putfield 14, 3) := by decide +kernel
theorem dX2_init_17 : decode cX2_init 17 = .ok (.aload_n 0, 1) := by decide +kernel
theorem dX2_init_18 : decode cX2_init 18 = .ok (.new 9, 3) := by decide +kernel
theorem dX2_init_21 : decode cX2_init 21 = .ok (.dup, 1) := by decide +kernel
theorem dX2_init_22 : decode cX2_init 22 = .ok (.bipush 40, 2) := by decide +kernel
theorem dX2_init_24 : decode cX2_init 24 = .ok (.invokespecial 11, 3) := by decide +kernel
theorem dX2_init_27 : decode cX2_init 27 = .ok (.putfield 20, 3) := by decide +kernel
theorem dX2_init_30 : decode cX2_init 30 = .ok (.aload_n 0, 1) := by decide +kernel
theorem dX2_init_31 : decode cX2_init 31 = .ok (.iconst 0, 1) := by decide +kernel
theorem dX2_init_32 : decode cX2_init 32 = .ok (.putfield 23, 3) := by decide +kernel
theorem dX2_init_35 : decode cX2_init 35 = .ok (.return_, 1) := by decide +kernel
theorem hcX2_init : yX2_init.cls ≠ "java/lang/invoke/MethodHandle" ∧ yX2_init.cls ≠ "java/lang/invoke/VarHandle" ∧ (parseMethodDescriptor yX2_init.desc).map (fun d => d.parameters.length) = some 0 := ⟨by decide +kernel, by decide +kernel, by decide +kernel⟩
def fX2_init (La : sg_L) (s0 : sg_M) (o : Int) (Q : sg_L → sg_M → Prop) : Prop := ∀ (q1 : Nat) (La2 : sg_L), La2 = sg_pu La 24 q1 → ∀ s3 : sg_M, s3 = sg_nw s0 La.1 24 → ∀ o4 : Int, o4 = (La.1 : Int) → fX4_init La2 s3 o4 40 (fun La13 s14 => ∀ s19 : sg_M, s19 = sg_up s14 o 0 o4 → ∀ (q21 : Nat) (La22 : sg_L), La22 = sg_pu La13 24 q21 → ∀ s23 : sg_M, s23 = sg_nw s19 La13.1 24 → ∀ o24 : Int, o24 = (La13.1 : Int) → fX4_init La22 s23 o24 40 (fun La33 s34 => ∀ s39 : sg_M, s39 = sg_up s34 o 1 o24 → ∀ s41 : sg_M, s41 = sg_up s39 o 2 0 → sg_sealed La33 s41 o 22 2 ∧ ∀ La43 : sg_L, La43 = sg_se La33 o.toNat 2 → Q La43 s41))
set_option maxHeartbeats 4000000 in
set_option maxRecDepth 100000 in
theorem CX2_init {l : Launch} {G : sg_G} {La : sg_L} {s0 : sg_M} {o : Int} (to : sg_O La o 22) {Q : sg_L → sg_M → Prop} (hf : fX2_init La s0 o Q) : sg_C l G yX2_init cX2_init 1 (none) 2 4 406 La s0 [sg_r o] (sg_BV (sg_se La o.toNat 2) Q) := by
  refine sg_body (by decide +kernel) (Nat.le_of_ble_eq_true rfl) ?_
  intro p e s m args below meth c F hnm
  unfold fX2_init at hf
  show sg_W p l e (sg_rm 2 4 406) s m args below meth c (MQ below (sg_Q (none) G La s.heap.size (sg_BV (sg_se La o.toNat 2) Q)) args s 4 406 (sg_A La s.heap.size)) 1 G (sg_A La s.heap.size) La s0 0 0 0 [(0, sg_r o)] []
  have hin : meth.name = "<init>" := hnm
  refine gw_aload_n F 0 rfl rfl to.1 dX2_init_0 ?_
  refine gw_objInit F to.1 kw_221 kw_OI kw_OC (Nat.le_of_ble_eq_true rfl) (by decide) (by decide) dX2_init_1 ?_
  refine gw_aload_n F 0 rfl rfl to.1 dX2_init_4 ?_
  refine gy_new F (kd := 24) (T := TX4) (by decide) rfl sg_lay_RX4 tyX4_ok kw_222 kw_191 kw_97 ns_X4 nf_X4 nr_X4 (by decide) (by decide) (List.forall_mem_cons.mpr ⟨(Or.inl to.2.1), (fun _ h => absurd h List.not_mem_nil)⟩) (List.forall_mem_cons.mpr ⟨(Or.inl to.2.1), (fun _ h => absurd h List.not_mem_nil)⟩) dX2_init_5 (fun q1 La2 s3 o4 e5 e6 e7 t8 hX9 => ?_)
  have hf := hf q1 La2 e5 s3 e6 o4 e7
  have hn10 : La.1 ≤ o4.toNat := by rw [e7, Int.toNat_natCast]; exact (sg_X.rf : sg_X La La).1
  have t11 := to.X hX9
  have hX12 := sg_X.tr (sg_X.rf) hX9
  refine gw_dup F rfl dX2_init_8 ?_
  refine gw_bipush F rfl dX2_init_9 ?_
  refine gk_BV F (gc_I F (S := [sg_r o4, sg_r o]) (As := [sg_i 40]) (CX4_init t8 (by decide) hf) t8.1 kw_194 kw_97 kw_223 kw_193 rfl hcX4_init ⟨by decide, by decide⟩ rfl rfl (Nat.le_of_ble_eq_true rfl) ⟨by decide, by decide⟩ dX2_init_11) (List.forall_mem_cons.mpr ⟨(Or.inl t11.2.1), (fun _ h => absurd h List.not_mem_nil)⟩) (List.forall_mem_cons.mpr ⟨(Or.inl t8.2.1), (List.forall_mem_cons.mpr ⟨(Or.inl t11.2.1), (fun _ h => absurd h List.not_mem_nil)⟩)⟩) (fun La13 s14 hX15 hf => ?_)
  have t16 := (sg_O_sx t11 t8 (by decide)).X hX15
  have t17 := (sg_O_sealed t8).X hX15
  have hX18 := (sg_X_sx (hX12) hn10).tr hX15
  obtain ⟨s19, e20⟩ : ∃ z : sg_M, z = sg_up s14 o 0 o4 := ⟨_, rfl⟩
  have hf := hf s19 e20
  refine gw_put5F F t16 (by decide) rfl sg_lay_RX2 (j := 0) (by decide) (D0 := tyX2 0) (fun _ => ⟨rfl, rfl⟩) t17.1 t17.2.1 e20 tyX2_ok nmX2 rfl hin rfl (tyX2_ok 0 (by decide)) rfl (host := "") kw_224 dX2_init_14 ?_
  refine gw_aload_n F 0 rfl rfl t16.1 dX2_init_17 ?_
  refine gy_new F (kd := 24) (T := TX4) (by decide) rfl sg_lay_RX4 tyX4_ok kw_222 kw_191 kw_97 ns_X4 nf_X4 nr_X4 (by decide) (by decide) (List.forall_mem_cons.mpr ⟨(Or.inl t16.2.1), (fun _ h => absurd h List.not_mem_nil)⟩) (List.forall_mem_cons.mpr ⟨(Or.inl t16.2.1), (fun _ h => absurd h List.not_mem_nil)⟩) dX2_init_18 (fun q21 La22 s23 o24 e25 e26 e27 t28 hX29 => ?_)
  have hf := hf q21 La22 e25 s23 e26 o24 e27
  have hn30 : La.1 ≤ o24.toNat := by rw [e27, Int.toNat_natCast]; exact (hX18 : sg_X La La13).1
  have t31 := t16.X hX29
  have hX32 := sg_X.tr (hX18) hX29
  refine gw_dup F rfl dX2_init_21 ?_
  refine gw_bipush F rfl dX2_init_22 ?_
  refine gk_BV F (gc_I F (S := [sg_r o24, sg_r o]) (As := [sg_i 40]) (CX4_init t28 (by decide) hf) t28.1 kw_194 kw_97 kw_223 kw_193 rfl hcX4_init ⟨by decide, by decide⟩ rfl rfl (Nat.le_of_ble_eq_true rfl) ⟨by decide, by decide⟩ dX2_init_24) (List.forall_mem_cons.mpr ⟨(Or.inl t31.2.1), (fun _ h => absurd h List.not_mem_nil)⟩) (List.forall_mem_cons.mpr ⟨(Or.inl t28.2.1), (List.forall_mem_cons.mpr ⟨(Or.inl t31.2.1), (fun _ h => absurd h List.not_mem_nil)⟩)⟩) (fun La33 s34 hX35 hf => ?_)
  have t36 := (sg_O_sx t31 t28 (by decide)).X hX35
  have t37 := (sg_O_sealed t28).X hX35
  have hX38 := (sg_X_sx (hX32) hn30).tr hX35
  obtain ⟨s39, e40⟩ : ∃ z : sg_M, z = sg_up s34 o 1 o24 := ⟨_, rfl⟩
  have hf := hf s39 e40
  refine gw_put5F F t36 (by decide) rfl sg_lay_RX2 (j := 1) (by decide) (D0 := tyX2 1) (fun _ => ⟨rfl, rfl⟩) t37.1 t37.2.1 e40 tyX2_ok nmX2 rfl hin rfl (tyX2_ok 1 (by decide)) rfl (host := "") kw_226 dX2_init_27 ?_
  refine gw_aload_n F 0 rfl rfl t36.1 dX2_init_30 ?_
  refine gw_iconst F dX2_init_31 ?_
  obtain ⟨s41, e42⟩ : ∃ z : sg_M, z = sg_up s39 o 2 0 := ⟨_, rfl⟩
  have hf := hf s41 e42
  refine gw_put0 F t36 (by decide) rfl sg_lay_RX2 (j := 2) (by decide) (by decide) e42 tyX2_ok nmX2 rfl (tyX2_ok 2 (by decide)) rfl (host := "") (.inl kw_228) dX2_init_32 ?_
  obtain ⟨g44, hf⟩ := hf
  obtain ⟨La43, e45⟩ : ∃ z : sg_L, z = sg_se La33 o.toNat 2 := ⟨_, rfl⟩
  have hf := hf La43 e45
  refine gw_seal t36 ⟨by decide, by decide, by decide⟩ (by decide) (by decide) g44.1 g44.2 ?_
  rw [← e45]
  exact gr_BC F (o := o.toNat) (kd := 2) hf (by rw [e45]; exact sg_X.both hX38) (by decide) (by decide) dX2_init_35

theorem dX7_init_0 : decode cX7_init 0 = .ok (.aload_n 0, 1) := by decide +kernel
theorem dX7_init_1 : decode cX7_init 1 = .ok (.invokespecial 3, 3) := by decide +kernel
theorem dX7_init_4 : decode cX7_init 4 = .ok (.aload_n 0, 1) := by decide +kernel
theorem dX7_init_5 : decode cX7_init 5 = .ok (.new 9, 3) := by decide +kernel
theorem dX7_init_8 : decode cX7_init 8 = .ok (.dup, 1) := by decide +kernel
theorem dX7_init_9 : decode cX7_init 9 = .ok (.invokespecial 11, 3) := by decide +kernel
theorem dX7_init_12 : decode cX7_init 12 = .ok (.putfield 12, 3) := by decide +kernel
theorem dX7_init_15 : decode cX7_init 15 = .ok (.aload_n 0, 1) := by decide +kernel
theorem dX7_init_16 : decode cX7_init 16 = .ok (.iconst 4, 1) := by decide +kernel
theorem dX7_init_17 : decode cX7_init 17 = .ok (.anewarray 18, 3) := by decide +kernel
theorem dX7_init_20 : decode cX7_init 20 = .ok (.putfield 20, 3) := by decide +kernel
theorem dX7_init_23 : decode cX7_init 23 = .ok (.aload_n 0, 1) := by decide +kernel
theorem dX7_init_24 : decode cX7_init 24 = .ok (.aload_n 1, 1) := by decide +kernel
theorem dX7_init_25 : decode cX7_init 25 = .ok (.putfield 24, 3) := by decide +kernel
theorem dX7_init_28 : decode cX7_init 28 = .ok (.aload_n 0, 1) := by decide +kernel
theorem dX7_init_29 : decode cX7_init 29 = .ok (.aload_n 2, 1) := by decide +kernel
theorem dX7_init_30 : decode cX7_init 30 = .ok (.putfield 28, 3) := by decide +kernel
theorem dX7_init_33 : decode cX7_init 33 = .ok (.aload_n 0, 1) := by decide +kernel
theorem dX7_init_34 : decode cX7_init 34 = .ok (.aload_n 3, 1) := by decide +kernel
theorem dX7_init_35 : decode cX7_init 35 = .ok (.putfield 32, 3) := by decide +kernel
theorem dX7_init_38 : decode cX7_init 38 = .ok (.return_, 1) := by decide +kernel
theorem hcX7_init : yX7_init.cls ≠ "java/lang/invoke/MethodHandle" ∧ yX7_init.cls ≠ "java/lang/invoke/VarHandle" ∧ (parseMethodDescriptor yX7_init.desc).map (fun d => d.parameters.length) = some 3 := ⟨by decide +kernel, by decide +kernel, by decide +kernel⟩
def fX7_init_A (La : sg_L) (s0 : sg_M) (o : Int) (o1 : Int) (o2 : Int) (o3 : Int) (Q : sg_L → sg_M → Prop) : Prop := ∀ (q1 : Nat) (La2 : sg_L), La2 = sg_pu La 22 q1 → ∀ s3 : sg_M, s3 = sg_nw s0 La.1 22 → ∀ o4 : Int, o4 = (La.1 : Int) → fX2_init La2 s3 o4 (fun La16 s17 => ∀ s25 : sg_M, s25 = sg_up s17 o 3 o4 → ∀ (q27 : Nat) (La28 : sg_L), La28 = sg_pu La16 30004 q27 → ∀ s29 : sg_M, s29 = sg_nw s25 La16.1 30004 → ∀ o30 : Int, o30 = (La16.1 : Int) → ∀ s42 : sg_M, s42 = sg_up s29 o 4 o30 → ∀ s44 : sg_M, s44 = sg_up s42 o 0 o1 → ∀ s46 : sg_M, s46 = sg_up s44 o 1 o2 → ∀ s48 : sg_M, s48 = sg_up s46 o 2 o3 → sg_sealed La28 s48 o 47 27 ∧ ∀ La50 : sg_L, La50 = sg_se La28 o.toNat 27 → Q La50 s48)
set_option maxHeartbeats 4000000 in
set_option maxRecDepth 100000 in
theorem CX7_init_A {l : Launch} {G : sg_G} {La : sg_L} {s0 : sg_M} {o : Int} (to : sg_O La o 47) {o1 : Int} (t1 : sg_O La o1 1) {o2 : Int} (t2 : sg_O La o2 3) {o3 : Int} (t3 : sg_O La o3 5) {Q : sg_L → sg_M → Prop} (hf : fX7_init_A La s0 o o1 o2 o3 Q) : sg_C l G yX7_init cX7_init 4 (none) 3 6 413 La s0 [sg_r o, sg_r o1, sg_r o2, sg_r o3] (sg_BV (sg_se La o.toNat 27) Q) := by
  refine sg_body (by decide +kernel) (Nat.le_of_ble_eq_true rfl) ?_
  intro p e s m args below meth c F hnm
  unfold fX7_init_A at hf
  show sg_W p l e (sg_rm 3 6 413) s m args below meth c (MQ below (sg_Q (none) G La s.heap.size (sg_BV (sg_se La o.toNat 27) Q)) args s 6 413 (sg_A La s.heap.size)) 4 G (sg_A La s.heap.size) La s0 0 0 0 [(0, sg_r o), (1, sg_r o1), (2, sg_r o2), (3, sg_r o3)] []
  have hin : meth.name = "<init>" := hnm
  refine gw_aload_n F 0 rfl rfl to.1 dX7_init_0 ?_
  refine gw_objInit F to.1 kw_215 kw_OI kw_OC (Nat.le_of_ble_eq_true rfl) (by decide) (by decide) dX7_init_1 ?_
  refine gw_aload_n F 0 rfl rfl to.1 dX7_init_4 ?_
  refine gy_new F (kd := 22) (T := TX2) (by decide) rfl sg_lay_RX2 tyX2_ok kw_216 kw_217 kw_99 ns_X2 nf_X2 nr_X2 (by decide) (by decide) (List.forall_mem_cons.mpr ⟨(Or.inl to.2.1), (List.forall_mem_cons.mpr ⟨(Or.inl t1.2.1), (List.forall_mem_cons.mpr ⟨(Or.inl t2.2.1), (List.forall_mem_cons.mpr ⟨(Or.inl t3.2.1), (fun _ h => absurd h List.not_mem_nil)⟩)⟩)⟩)⟩) (List.forall_mem_cons.mpr ⟨(Or.inl to.2.1), (fun _ h => absurd h List.not_mem_nil)⟩) dX7_init_5 (fun q1 La2 s3 o4 e5 e6 e7 t8 hX9 => ?_)
  have hf := hf q1 La2 e5 s3 e6 o4 e7
  have hn10 : La.1 ≤ o4.toNat := by rw [e7, Int.toNat_natCast]; exact (sg_X.rf : sg_X La La).1
  have t11 := to.X hX9
  have t12 := t1.X hX9
  have t13 := t2.X hX9
  have t14 := t3.X hX9
  have hX15 := sg_X.tr (sg_X.rf) hX9
  refine gw_dup F rfl dX7_init_8 ?_
  refine gk_BV F (gc_IN F (S := [sg_r o4, sg_r o]) (As := []) (CX2_init t8 hf) t8.1 kw_220 kw_99 kw_218 kw_219 rfl hcX2_init ⟨by decide, by decide⟩ rfl rfl (Nat.le_of_ble_eq_true rfl) ⟨by decide, by decide⟩ dX7_init_9) (List.forall_mem_cons.mpr ⟨(Or.inl t11.2.1), (List.forall_mem_cons.mpr ⟨(Or.inl t12.2.1), (List.forall_mem_cons.mpr ⟨(Or.inl t13.2.1), (List.forall_mem_cons.mpr ⟨(Or.inl t14.2.1), (fun _ h => absurd h List.not_mem_nil)⟩)⟩)⟩)⟩) (List.forall_mem_cons.mpr ⟨(Or.inl t8.2.1), (List.forall_mem_cons.mpr ⟨(Or.inl t11.2.1), (fun _ h => absurd h List.not_mem_nil)⟩)⟩) (fun La16 s17 hX18 hf => ?_)
  have t19 := (sg_O_sx t11 t8 (by decide)).X hX18
  have t20 := (sg_O_sx t12 t8 (by decide)).X hX18
  have t21 := (sg_O_sx t13 t8 (by decide)).X hX18
  have t22 := (sg_O_sx t14 t8 (by decide)).X hX18
  have t23 := (sg_O_sealed t8).X hX18
  have hX24 := (sg_X_sx (hX15) hn10).tr hX18
  obtain ⟨s25, e26⟩ : ∃ z : sg_M, z = sg_up s17 o 3 o4 := ⟨_, rfl⟩
  have hf := hf s25 e26
  refine gw_put5F F t19 (by decide) rfl sg_lay_RX7 (j := 3) (by decide) (D0 := tyX7 3) (fun _ => ⟨rfl, rfl⟩) t23.1 t23.2.1 e26 tyX7_ok nmX7 rfl hin rfl (tyX7_ok 3 (by decide)) rfl (host := "") kw_239 dX7_init_12 ?_
  refine gw_aload_n F 0 rfl rfl t19.1 dX7_init_15 ?_
  refine gw_iconst F dX7_init_16 ?_
  refine gy_newB F (N := 4) kw_231 (F.2.2.2.2.2.2.2.2.2.1 _ kw_232) rfl (by decide) (by decide) (by decide) (List.forall_mem_cons.mpr ⟨(Or.inl t19.2.1), (List.forall_mem_cons.mpr ⟨(Or.inl t20.2.1), (List.forall_mem_cons.mpr ⟨(Or.inl t21.2.1), (List.forall_mem_cons.mpr ⟨(Or.inl t22.2.1), (fun _ h => absurd h List.not_mem_nil)⟩)⟩)⟩)⟩) (List.forall_mem_cons.mpr ⟨(Or.inl t19.2.1), (fun _ h => absurd h List.not_mem_nil)⟩) dX7_init_17 (fun q27 La28 s29 o30 e31 e32 e33 t34 hX35 => ?_)
  have hf := hf q27 La28 e31 s29 e32 o30 e33
  have hn36 : La.1 ≤ o30.toNat := by rw [e33, Int.toNat_natCast]; exact (hX24 : sg_X La La16).1
  have t37 := t19.X hX35
  have t38 := t20.X hX35
  have t39 := t21.X hX35
  have t40 := t22.X hX35
  have hX41 := sg_X.tr (hX24) hX35
  obtain ⟨s42, e43⟩ : ∃ z : sg_M, z = sg_up s29 o 4 o30 := ⟨_, rfl⟩
  have hf := hf s42 e43
  refine gw_put5F F t37 (by decide) rfl sg_lay_RX7 (j := 4) (by decide) (D0 := tyX7 4) (fun _ => ⟨rfl, rfl⟩) t34.1 t34.2.1 e43 tyX7_ok nmX7 rfl hin rfl (tyX7_ok 4 (by decide)) rfl (host := "") kw_241 dX7_init_20 ?_
  refine gw_aload_n F 0 rfl rfl t37.1 dX7_init_23 ?_
  refine gw_aload_n F 1 rfl rfl t38.1 dX7_init_24 ?_
  obtain ⟨s44, e45⟩ : ∃ z : sg_M, z = sg_up s42 o 0 o1 := ⟨_, rfl⟩
  have hf := hf s44 e45
  refine gw_put5 F t37 (by decide) rfl sg_lay_RX7 (j := 0) (by decide) (D0 := tyX7 0) (fun _ => ⟨rfl, rfl⟩) t38.1 t38.2.1 e45 tyX7_ok nmX7 rfl (tyX7_ok 0 (by decide)) rfl (host := "") (.inl kw_233) dX7_init_25 ?_
  refine gw_aload_n F 0 rfl rfl t37.1 dX7_init_28 ?_
  refine gw_aload_n F 2 rfl rfl t39.1 dX7_init_29 ?_
  obtain ⟨s46, e47⟩ : ∃ z : sg_M, z = sg_up s44 o 1 o2 := ⟨_, rfl⟩
  have hf := hf s46 e47
  refine gw_put5 F t37 (by decide) rfl sg_lay_RX7 (j := 1) (by decide) (D0 := tyX7 1) (fun _ => ⟨rfl, rfl⟩) t39.1 t39.2.1 e47 tyX7_ok nmX7 rfl (tyX7_ok 1 (by decide)) rfl (host := "") (.inl kw_235) dX7_init_30 ?_
  refine gw_aload_n F 0 rfl rfl t37.1 dX7_init_33 ?_
  refine gw_aload_n F 3 rfl rfl t40.1 dX7_init_34 ?_
  obtain ⟨s48, e49⟩ : ∃ z : sg_M, z = sg_up s46 o 2 o3 := ⟨_, rfl⟩
  have hf := hf s48 e49
  refine gw_put5 F t37 (by decide) rfl sg_lay_RX7 (j := 2) (by decide) (D0 := tyX7 2) (fun _ => ⟨rfl, rfl⟩) t40.1 t40.2.1 e49 tyX7_ok nmX7 rfl (tyX7_ok 2 (by decide)) rfl (host := "") (.inl kw_237) dX7_init_35 ?_
  obtain ⟨g51, hf⟩ := hf
  obtain ⟨La50, e52⟩ : ∃ z : sg_L, z = sg_se La28 o.toNat 27 := ⟨_, rfl⟩
  have hf := hf La50 e52
  refine gw_seal t37 ⟨by decide, by decide, by decide⟩ (by decide) (by decide) g51.1 g51.2 ?_
  rw [← e52]
  exact gr_BC F (o := o.toNat) (kd := 27) hf (by rw [e52]; exact sg_X.both hX41) (by decide) (by decide) dX7_init_38
