theorem hcX5_readCond : yX5_readCond.cls ≠ "java/lang/invoke/MethodHandle" ∧ yX5_readCond.cls ≠ "java/lang/invoke/VarHandle" ∧ (parseMethodDescriptor yX5_readCond.desc).map (fun d => d.parameters.length) = some 2 := ⟨by decide +kernel, by decide +kernel, by decide +kernel⟩
theorem hcX5_readAll : yX5_readAll.cls ≠ "java/lang/invoke/MethodHandle" ∧ yX5_readAll.cls ≠ "java/lang/invoke/VarHandle" ∧ (parseMethodDescriptor yX5_readAll.desc).map (fun d => d.parameters.length) = some 2 := ⟨by decide +kernel, by decide +kernel, by decide +kernel⟩
theorem hcX5_readOne : yX5_readOne.cls ≠ "java/lang/invoke/MethodHandle" ∧ yX5_readOne.cls ≠ "java/lang/invoke/VarHandle" ∧ (parseMethodDescriptor yX5_readOne.desc).map (fun d => d.parameters.length) = some 2 := ⟨by decide +kernel, by decide +kernel, by decide +kernel⟩
theorem dX5_readCond_0 : decode cX5_readCond 0 = .ok (.aload_n 0, 1) := by decide +kernel
theorem dX5_readCond_1 : decode cX5_readCond 1 = .ok (.aload_n 1, 1) := by decide +kernel
theorem dX5_readCond_2 : decode cX5_readCond 2 = .ok (.iload_n 2, 1) := by decide +kernel
theorem dX5_readCond_3 : decode cX5_readCond 3 = .ok (.invokevirtual 43, 3) := by decide +kernel
theorem dX5_readCond_6 : decode cX5_readCond 6 = .ok (.iconst 0, 1) := by decide +kernel
theorem dX5_readCond_7 : decode cX5_readCond 7 = .ok (.istore_n 3, 1) := by decide +kernel
theorem dX5_readCond_8 : decode cX5_readCond 8 = .ok (.iload_n 3, 1) := by decide +kernel
theorem dX5_readCond_9 : decode cX5_readCond 9 = .ok (.bipush 20, 2) := by decide +kernel
theorem dX5_readCond_11 : decode cX5_readCond 11 = .ok (.if_icmp .ge 32, 3) := by decide +kernel
theorem dX5_readCond_14 : decode cX5_readCond 14 = .ok (.aload_n 1, 1) := by decide +kernel
theorem dX5_readCond_15 : decode cX5_readCond 15 = .ok (.ldc 46, 2) := by decide +kernel
theorem dX5_readCond_17 : decode cX5_readCond 17 = .ok (.invokevirtual 48, 3) := by decide +kernel
theorem dX5_readCond_20 : decode cX5_readCond 20 = .ok (.ifCond .eq 23, 3) := by decide +kernel
theorem dX5_readCond_23 : decode cX5_readCond 23 = .ok (.aload_n 0, 1) := by decide +kernel
theorem dX5_readCond_24 : decode cX5_readCond 24 = .ok (.aload_n 1, 1) := by decide +kernel
theorem dX5_readCond_25 : decode cX5_readCond 25 = .ok (.iload_n 2, 1) := by decide +kernel
theorem dX5_readCond_26 : decode cX5_readCond 26 = .ok (.invokevirtual 43, 3) := by decide +kernel
theorem dX5_readCond_29 : decode cX5_readCond 29 = .ok (.aload_n 0, 1) := by decide +kernel
theorem dX5_readCond_30 : decode cX5_readCond 30 = .ok (.bipush 11, 2) := by decide +kernel
theorem dX5_readCond_32 : decode cX5_readCond 32 = .ok (.iconst 0, 1) := by decide +kernel
theorem dX5_readCond_33 : decode cX5_readCond 33 = .ok (.iconst 0, 1) := by decide +kernel
theorem dX5_readCond_34 : decode cX5_readCond 34 = .ok (.invokevirtual 52, 3) := by decide +kernel
theorem dX5_readCond_37 : decode cX5_readCond 37 = .ok (.iinc 3 1, 3) := by decide +kernel
theorem dX5_readCond_40 : decode cX5_readCond 40 = .ok (.goto (-32), 3) := by decide +kernel
theorem dX5_readCond_43 : decode cX5_readCond 43 = .ok (.return_, 1) := by decide +kernel
def fX5_readCond_L8 (La : sg_L) (o : Int) (x2 : Int) (rc : Nat → sg_L → sg_M → Int → Int → (sg_M → Prop) → Prop) (Q : sg_M → Prop) : Nat → sg_M → Int → Prop
  | 0, _, _ => False
  | n_8 + 1, s_8, x3_8 => ((20 ≤ x3_8 → Q s_8) ∧ (¬ (20 ≤ x3_8) → fX9_skipWord s_8 21 (fun u3 s5 => ((u3 = 0 → Q s5) ∧ (¬ (u3 = 0) → rc 1 La s5 o x2 (fun s7 => fX5_addStep La s7 o 11 0 0 (fun s8 => sg_R (x3_8 + 1) ∧ (fX5_readCond_L8 La o x2 rc Q n_8) s8 (x3_8 + 1))))))))
def fX5_readCond_b (rc : Nat → sg_L → sg_M → Int → Int → (sg_M → Prop) → Prop) (La : sg_L) (s0 : sg_M) (o : Int) (x2 : Int) (Q : sg_M → Prop) : Prop := rc 1 La s0 o x2 (fun s1 => (∃ n10 : Nat, fX5_readCond_L8 La o x2 rc Q n10 s1 0))
set_option maxHeartbeats 4000000 in
set_option maxRecDepth 100000 in
theorem CX5_readCond_b {l : Launch} {G : sg_G} {La : sg_L} {s0 : sg_M} (hst : sg_St La) {o : Int} (to : sg_O La o 5) {x2 : Int} (r2 : sg_R x2) {Q : sg_M → Prop} {d : Nat} (hd : 6 ≤ d) {rc : Nat → sg_L → sg_M → Int → Int → (sg_M → Prop) → Prop} (ih0 : ∀ {s0 : sg_M} {o : Int} (to : sg_O La o 5) {x2 : Int} (r2 : sg_R x2) {Q : sg_M → Prop}, rc 0 La s0 o x2 Q → sg_C l G yX5_readCond cX5_readCond 4 (none) d 0 0 La s0 [sg_r o, sg_r 3, sg_i x2] (sg_HV La Q)) (ih1 : ∀ {s0 : sg_M} {o : Int} (to : sg_O La o 5) {x2 : Int} (r2 : sg_R x2) {Q : sg_M → Prop}, rc 1 La s0 o x2 Q → sg_C l G yX5_readAll cX5_readAll 4 (none) d 0 0 La s0 [sg_r o, sg_r 3, sg_i x2] (sg_HV La Q)) (ih2 : ∀ {s0 : sg_M} {o : Int} (to : sg_O La o 5) {x2 : Int} (r2 : sg_R x2) {Q : sg_M → Prop}, rc 2 La s0 o x2 Q → sg_C l G yX5_readOne cX5_readOne 4 (none) d 0 0 La s0 [sg_r o, sg_r 3, sg_i x2] (sg_HV La Q)) (hf : fX5_readCond_b rc La s0 o x2 Q) : sg_C l G yX5_readCond cX5_readCond 4 (none) (d + 1) 0 0 La s0 [sg_r o, sg_r 3, sg_i x2] (sg_HV La Q) := by
  refine sg_body (by decide +kernel) (Nat.le_of_ble_eq_true rfl) ?_
  intro p e s m args below meth c F hnm
  unfold fX5_readCond_b at hf
  show sg_W p l e (sg_rm (d + 1) 0 0) s m args below meth c (MQ below (sg_Q (none) G La s.heap.size (sg_HV La Q)) args s 0 0 (sg_A La s.heap.size)) 4 G (sg_A La s.heap.size) La s0 0 0 0 [(0, sg_r o), (1, sg_r 3), (2, sg_i x2)] []
  refine gw_aload_n F 0 rfl rfl to.1 dX5_readCond_0 ?_
  refine gw_aload_n F 1 rfl rfl (by decide) dX5_readCond_1 ?_
  refine gw_iload_n F 2 rfl rfl dX5_readCond_2 ?_
  refine gk_HV F (gc_V F (S := []) (As := [sg_r 3, sg_i x2]) (T := TX5) (N := 4) (ih1 to r2 hf) to (by decide) rfl kw_805 kw_96 kw_803 kw_804 kw_32 hcX5_readAll ⟨by simp only [sg_rm]; omega, by simp only [sg_rm]; omega⟩ rfl rfl (Nat.le_of_ble_eq_true rfl) ⟨by simp only [sg_rm]; omega, by simp only [sg_rm]; omega⟩ dX5_readCond_3) (fun s1 hf => ?_)
  refine gw_iconst F dX5_readCond_6 ?_
  refine gw_istore_n F rfl (by decide) rfl dX5_readCond_7 ?_
  have L8 : ∀ n_8 : Nat, ∀ (s_8 : sg_M) (x3_8 : Int), sg_R x3_8 → fX5_readCond_L8 La o x2 rc Q n_8 s_8 x3_8 → sg_W p l e (sg_rm (d + 1) 0 0) s m args below meth c (MQ below (sg_Q (none) G La s.heap.size (sg_HV La Q)) args s 0 0 (sg_A La s.heap.size)) 4 G (sg_A La s.heap.size) La s_8 0 0 8 [(0, sg_r o), (1, sg_r 3), (2, sg_i x2), (3, sg_i x3_8)] [] := by
    intro n_8
    induction n_8 with
    | zero => intro s_8 x3_8 r3_8 hf; exact hf.elim
    | succ n_8 ih =>
      intro s_8 x3_8 r3_8 hf
      unfold fX5_readCond_L8 at hf
      refine gw_iload_n F 3 rfl rfl dX5_readCond_8 ?_
      refine gw_bipush F rfl dX5_readCond_9 ?_
      refine gw_icmp_ge F (tgt := 43) dX5_readCond_11 (by decide) r3_8 (by decide) (fun c2 => ?_) (fun c2 => ?_)
      · have hf := hf.1 c2
        exact gr_HV F hf (by decide) (by decide) dX5_readCond_43
      · have hf := hf.2 c2
        refine gw_aload_n F 1 rfl rfl (by decide) dX5_readCond_14 ?_
        refine gw_ldcS F (i := 21) rfl dX5_readCond_15 ?_
        refine gk_HZ F (gc_V F (S := []) (As := [sg_a (G.2.2.1 21)]) (T := TX9) (N := 8) (CX9_skipWord hst (by decide) hf) (so_3 hst) (by decide) rfl kw_399 kw_92 kw_815 kw_397 kw_398 hcX9_skipWord ⟨by simp only [sg_rm]; omega, by simp only [sg_rm]; omega⟩ rfl rfl (Nat.le_of_ble_eq_true rfl) ⟨by simp only [sg_rm]; omega, by simp only [sg_rm]; omega⟩ dX5_readCond_17) (fun u3 s5 h4 hf => ?_)
        refine gw_if_eq F (tgt := 43) dX5_readCond_20 (by decide) (sg_B_R h4) (fun c6 => ?_) (fun c6 => ?_)
        · have hf := hf.1 c6
          exact gr_HV F hf (by decide) (by decide) dX5_readCond_43
        · have hf := hf.2 c6
          refine gw_aload_n F 0 rfl rfl to.1 dX5_readCond_23 ?_
          refine gw_aload_n F 1 rfl rfl (by decide) dX5_readCond_24 ?_
          refine gw_iload_n F 2 rfl rfl dX5_readCond_25 ?_
          refine gk_HV F (gc_V F (S := []) (As := [sg_r 3, sg_i x2]) (T := TX5) (N := 4) (ih1 to r2 hf) to (by decide) rfl kw_805 kw_96 kw_803 kw_804 kw_32 hcX5_readAll ⟨by simp only [sg_rm]; omega, by simp only [sg_rm]; omega⟩ rfl rfl (Nat.le_of_ble_eq_true rfl) ⟨by simp only [sg_rm]; omega, by simp only [sg_rm]; omega⟩ dX5_readCond_26) (fun s7 hf => ?_)
          refine gw_aload_n F 0 rfl rfl to.1 dX5_readCond_29 ?_
          refine gw_bipush F rfl dX5_readCond_30 ?_
          refine gw_iconst F dX5_readCond_32 ?_
          refine gw_iconst F dX5_readCond_33 ?_
          refine gk_HV F (gc_V F (S := []) (As := [sg_i 11, sg_i 0, sg_i 0]) (T := TX5) (N := 4) (CX5_addStep to (by decide) (by decide) (by decide) hf) to (by decide) rfl kw_818 kw_96 kw_816 kw_817 kw_34 hcX5_addStep ⟨by simp only [sg_rm]; omega, by simp only [sg_rm]; omega⟩ rfl rfl (Nat.le_of_ble_eq_true rfl) ⟨by simp only [sg_rm]; omega, by simp only [sg_rm]; omega⟩ dX5_readCond_34) (fun s8 hf => ?_)
          refine gw_iinc F (z := (x3_8 + 1)) 3 rfl (by omega) (by decide) rfl dX5_readCond_37 ?_
          refine gw_goto F (tgt := 8) dX5_readCond_40 (by decide) ?_
          obtain ⟨g9, hf⟩ := hf
          refine gw_sub [1, 2, 3, 0] rfl ?_
          exact ih s8 (x3_8 + 1) g9 hf
  obtain ⟨n10, hf⟩ := hf
  refine gw_sub [1, 2, 3, 0] rfl ?_
  refine L8   n10 s1 0 (by decide) hf

theorem dX5_readAll_0 : decode cX5_readAll 0 = .ok (.aload_n 0, 1) := by decide +kernel
theorem dX5_readAll_1 : decode cX5_readAll 1 = .ok (.aload_n 1, 1) := by decide +kernel
theorem dX5_readAll_2 : decode cX5_readAll 2 = .ok (.iload_n 2, 1) := by decide +kernel
theorem dX5_readAll_3 : decode cX5_readAll 3 = .ok (.invokevirtual 56, 3) := by decide +kernel
theorem dX5_readAll_6 : decode cX5_readAll 6 = .ok (.iconst 0, 1) := by decide +kernel
theorem dX5_readAll_7 : decode cX5_readAll 7 = .ok (.istore_n 3, 1) := by decide +kernel
theorem dX5_readAll_8 : decode cX5_readAll 8 = .ok (.iload_n 3, 1) := by decide +kernel
theorem dX5_readAll_9 : decode cX5_readAll 9 = .ok (.bipush 20, 2) := by decide +kernel
theorem dX5_readAll_11 : decode cX5_readAll 11 = .ok (.if_icmp .ge 32, 3) := by decide +kernel
theorem dX5_readAll_14 : decode cX5_readAll 14 = .ok (.aload_n 1, 1) := by decide +kernel
theorem dX5_readAll_15 : decode cX5_readAll 15 = .ok (.ldc 59, 2) := by decide +kernel
theorem dX5_readAll_17 : decode cX5_readAll 17 = .ok (.invokevirtual 48, 3) := by decide +kernel
theorem dX5_readAll_20 : decode cX5_readAll 20 = .ok (.ifCond .eq 23, 3) := by decide +kernel
theorem dX5_readAll_23 : decode cX5_readAll 23 = .ok (.aload_n 0, 1) := by decide +kernel
theorem dX5_readAll_24 : decode cX5_readAll 24 = .ok (.aload_n 1, 1) := by decide +kernel
theorem dX5_readAll_25 : decode cX5_readAll 25 = .ok (.iload_n 2, 1) := by decide +kernel
theorem dX5_readAll_26 : decode cX5_readAll 26 = .ok (.invokevirtual 56, 3) := by decide +kernel
theorem dX5_readAll_29 : decode cX5_readAll 29 = .ok (.aload_n 0, 1) := by decide +kernel
theorem dX5_readAll_30 : decode cX5_readAll 30 = .ok (.bipush 10, 2) := by decide +kernel
theorem dX5_readAll_32 : decode cX5_readAll 32 = .ok (.iconst 0, 1) := by decide +kernel
theorem dX5_readAll_33 : decode cX5_readAll 33 = .ok (.iconst 0, 1) := by decide +kernel
theorem dX5_readAll_34 : decode cX5_readAll 34 = .ok (.invokevirtual 52, 3) := by decide +kernel
theorem dX5_readAll_37 : decode cX5_readAll 37 = .ok (.iinc 3 1, 3) := by decide +kernel
theorem dX5_readAll_40 : decode cX5_readAll 40 = .ok (.goto (-32), 3) := by decide +kernel
theorem dX5_readAll_43 : decode cX5_readAll 43 = .ok (.return_, 1) := by decide +kernel
def fX5_readAll_L8 (La : sg_L) (o : Int) (x2 : Int) (rc : Nat → sg_L → sg_M → Int → Int → (sg_M → Prop) → Prop) (Q : sg_M → Prop) : Nat → sg_M → Int → Prop
  | 0, _, _ => False
  | n_8 + 1, s_8, x3_8 => ((20 ≤ x3_8 → Q s_8) ∧ (¬ (20 ≤ x3_8) → fX9_skipWord s_8 20 (fun u3 s5 => ((u3 = 0 → Q s5) ∧ (¬ (u3 = 0) → rc 2 La s5 o x2 (fun s7 => fX5_addStep La s7 o 10 0 0 (fun s8 => sg_R (x3_8 + 1) ∧ (fX5_readAll_L8 La o x2 rc Q n_8) s8 (x3_8 + 1))))))))
def fX5_readAll_b (rc : Nat → sg_L → sg_M → Int → Int → (sg_M → Prop) → Prop) (La : sg_L) (s0 : sg_M) (o : Int) (x2 : Int) (Q : sg_M → Prop) : Prop := rc 2 La s0 o x2 (fun s1 => (∃ n10 : Nat, fX5_readAll_L8 La o x2 rc Q n10 s1 0))
set_option maxHeartbeats 4000000 in
set_option maxRecDepth 100000 in
theorem CX5_readAll_b {l : Launch} {G : sg_G} {La : sg_L} {s0 : sg_M} (hst : sg_St La) {o : Int} (to : sg_O La o 5) {x2 : Int} (r2 : sg_R x2) {Q : sg_M → Prop} {d : Nat} (hd : 6 ≤ d) {rc : Nat → sg_L → sg_M → Int → Int → (sg_M → Prop) → Prop} (ih0 : ∀ {s0 : sg_M} {o : Int} (to : sg_O La o 5) {x2 : Int} (r2 : sg_R x2) {Q : sg_M → Prop}, rc 0 La s0 o x2 Q → sg_C l G yX5_readCond cX5_readCond 4 (none) d 0 0 La s0 [sg_r o, sg_r 3, sg_i x2] (sg_HV La Q)) (ih1 : ∀ {s0 : sg_M} {o : Int} (to : sg_O La o 5) {x2 : Int} (r2 : sg_R x2) {Q : sg_M → Prop}, rc 1 La s0 o x2 Q → sg_C l G yX5_readAll cX5_readAll 4 (none) d 0 0 La s0 [sg_r o, sg_r 3, sg_i x2] (sg_HV La Q)) (ih2 : ∀ {s0 : sg_M} {o : Int} (to : sg_O La o 5) {x2 : Int} (r2 : sg_R x2) {Q : sg_M → Prop}, rc 2 La s0 o x2 Q → sg_C l G yX5_readOne cX5_readOne 4 (none) d 0 0 La s0 [sg_r o, sg_r 3, sg_i x2] (sg_HV La Q)) (hf : fX5_readAll_b rc La s0 o x2 Q) : sg_C l G yX5_readAll cX5_readAll 4 (none) (d + 1) 0 0 La s0 [sg_r o, sg_r 3, sg_i x2] (sg_HV La Q) := by
  refine sg_body (by decide +kernel) (Nat.le_of_ble_eq_true rfl) ?_
  intro p e s m args below meth c F hnm
  unfold fX5_readAll_b at hf
  show sg_W p l e (sg_rm (d + 1) 0 0) s m args below meth c (MQ below (sg_Q (none) G La s.heap.size (sg_HV La Q)) args s 0 0 (sg_A La s.heap.size)) 4 G (sg_A La s.heap.size) La s0 0 0 0 [(0, sg_r o), (1, sg_r 3), (2, sg_i x2)] []
  refine gw_aload_n F 0 rfl rfl to.1 dX5_readAll_0 ?_
  refine gw_aload_n F 1 rfl rfl (by decide) dX5_readAll_1 ?_
  refine gw_iload_n F 2 rfl rfl dX5_readAll_2 ?_
  refine gk_HV F (gc_V F (S := []) (As := [sg_r 3, sg_i x2]) (T := TX5) (N := 4) (ih2 to r2 hf) to (by decide) rfl kw_808 kw_96 kw_806 kw_807 kw_33 hcX5_readOne ⟨by simp only [sg_rm]; omega, by simp only [sg_rm]; omega⟩ rfl rfl (Nat.le_of_ble_eq_true rfl) ⟨by simp only [sg_rm]; omega, by simp only [sg_rm]; omega⟩ dX5_readAll_3) (fun s1 hf => ?_)
  refine gw_iconst F dX5_readAll_6 ?_
  refine gw_istore_n F rfl (by decide) rfl dX5_readAll_7 ?_
  have L8 : ∀ n_8 : Nat, ∀ (s_8 : sg_M) (x3_8 : Int), sg_R x3_8 → fX5_readAll_L8 La o x2 rc Q n_8 s_8 x3_8 → sg_W p l e (sg_rm (d + 1) 0 0) s m args below meth c (MQ below (sg_Q (none) G La s.heap.size (sg_HV La Q)) args s 0 0 (sg_A La s.heap.size)) 4 G (sg_A La s.heap.size) La s_8 0 0 8 [(0, sg_r o), (1, sg_r 3), (2, sg_i x2), (3, sg_i x3_8)] [] := by
    intro n_8
    induction n_8 with
    | zero => intro s_8 x3_8 r3_8 hf; exact hf.elim
    | succ n_8 ih =>
      intro s_8 x3_8 r3_8 hf
      unfold fX5_readAll_L8 at hf
      refine gw_iload_n F 3 rfl rfl dX5_readAll_8 ?_
      refine gw_bipush F rfl dX5_readAll_9 ?_
      refine gw_icmp_ge F (tgt := 43) dX5_readAll_11 (by decide) r3_8 (by decide) (fun c2 => ?_) (fun c2 => ?_)
      · have hf := hf.1 c2
        exact gr_HV F hf (by decide) (by decide) dX5_readAll_43
      · have hf := hf.2 c2
        refine gw_aload_n F 1 rfl rfl (by decide) dX5_readAll_14 ?_
        refine gw_ldcS F (i := 20) rfl dX5_readAll_15 ?_
        refine gk_HZ F (gc_V F (S := []) (As := [sg_a (G.2.2.1 20)]) (T := TX9) (N := 8) (CX9_skipWord hst (by decide) hf) (so_3 hst) (by decide) rfl kw_399 kw_92 kw_815 kw_397 kw_398 hcX9_skipWord ⟨by simp only [sg_rm]; omega, by simp only [sg_rm]; omega⟩ rfl rfl (Nat.le_of_ble_eq_true rfl) ⟨by simp only [sg_rm]; omega, by simp only [sg_rm]; omega⟩ dX5_readAll_17) (fun u3 s5 h4 hf => ?_)
        refine gw_if_eq F (tgt := 43) dX5_readAll_20 (by decide) (sg_B_R h4) (fun c6 => ?_) (fun c6 => ?_)
        · have hf := hf.1 c6
          exact gr_HV F hf (by decide) (by decide) dX5_readAll_43
        · have hf := hf.2 c6
          refine gw_aload_n F 0 rfl rfl to.1 dX5_readAll_23 ?_
          refine gw_aload_n F 1 rfl rfl (by decide) dX5_readAll_24 ?_
          refine gw_iload_n F 2 rfl rfl dX5_readAll_25 ?_
          refine gk_HV F (gc_V F (S := []) (As := [sg_r 3, sg_i x2]) (T := TX5) (N := 4) (ih2 to r2 hf) to (by decide) rfl kw_808 kw_96 kw_806 kw_807 kw_33 hcX5_readOne ⟨by simp only [sg_rm]; omega, by simp only [sg_rm]; omega⟩ rfl rfl (Nat.le_of_ble_eq_true rfl) ⟨by simp only [sg_rm]; omega, by simp only [sg_rm]; omega⟩ dX5_readAll_26) (fun s7 hf => ?_)
          refine gw_aload_n F 0 rfl rfl to.1 dX5_readAll_29 ?_
          refine gw_bipush F rfl dX5_readAll_30 ?_
          refine gw_iconst F dX5_readAll_32 ?_
          refine gw_iconst F dX5_readAll_33 ?_
          refine gk_HV F (gc_V F (S := []) (As := [sg_i 10, sg_i 0, sg_i 0]) (T := TX5) (N := 4) (CX5_addStep to (by decide) (by decide) (by decide) hf) to (by decide) rfl kw_818 kw_96 kw_816 kw_817 kw_34 hcX5_addStep ⟨by simp only [sg_rm]; omega, by simp only [sg_rm]; omega⟩ rfl rfl (Nat.le_of_ble_eq_true rfl) ⟨by simp only [sg_rm]; omega, by simp only [sg_rm]; omega⟩ dX5_readAll_34) (fun s8 hf => ?_)
          refine gw_iinc F (z := (x3_8 + 1)) 3 rfl (by omega) (by decide) rfl dX5_readAll_37 ?_
          refine gw_goto F (tgt := 8) dX5_readAll_40 (by decide) ?_
          obtain ⟨g9, hf⟩ := hf
          refine gw_sub [1, 2, 3, 0] rfl ?_
          exact ih s8 (x3_8 + 1) g9 hf
  obtain ⟨n10, hf⟩ := hf
  refine gw_sub [1, 2, 3, 0] rfl ?_
  refine L8   n10 s1 0 (by decide) hf

theorem dX5_readOne_0 : decode cX5_readOne 0 = .ok (.aload_n 1, 1) := by decide +kernel
theorem dX5_readOne_1 : decode cX5_readOne 1 = .ok (.invokestatic 61, 3) := by decide +kernel
theorem dX5_readOne_4 : decode cX5_readOne 4 = .ok (.istore_n 3, 1) := by decide +kernel
theorem dX5_readOne_5 : decode cX5_readOne 5 = .ok (.iload_n 3, 1) := by decide +kernel
theorem dX5_readOne_6 : decode cX5_readOne 6 = .ok (.iconst (-1), 1) := by decide +kernel
theorem dX5_readOne_7 : decode cX5_readOne 7 = .ok (.if_icmp .ne 29, 3) := by decide +kernel
theorem dX5_readOne_10 : decode cX5_readOne 10 = .ok (.aload_n 1, 1) := by decide +kernel
theorem dX5_readOne_11 : decode cX5_readOne 11 = .ok (.ldc 65, 2) := by decide +kernel
theorem dX5_readOne_13 : decode cX5_readOne 13 = .ok (.invokevirtual 67, 3) := by decide +kernel
theorem dX5_readOne_16 : decode cX5_readOne 16 = .ok (.ifCond .ne 20, 3) := by decide +kernel
theorem dX5_readOne_19 : decode cX5_readOne 19 = .ok (.aload_n 1, 1) := by decide +kernel
theorem dX5_readOne_20 : decode cX5_readOne 20 = .ok (.bipush 40, 2) := by decide +kernel
theorem dX5_readOne_22 : decode cX5_readOne 22 = .ok (.invokevirtual 70, 3) := by decide +kernel
theorem dX5_readOne_25 : decode cX5_readOne 25 = .ok (.ifCond .ne 11, 3) := by decide +kernel
theorem dX5_readOne_28 : decode cX5_readOne 28 = .ok (.aload_n 1, 1) := by decide +kernel
theorem dX5_readOne_29 : decode cX5_readOne 29 = .ok (.iconst 1, 1) := by decide +kernel
theorem dX5_readOne_30 : decode cX5_readOne 30 = .ok (.invokevirtual 40, 3) := by decide +kernel
theorem dX5_readOne_33 : decode cX5_readOne 33 = .ok (.goto 23, 3) := by decide +kernel
theorem dX5_readOne_36 : decode cX5_readOne 36 = .ok (.aload_n 0, 1) := by decide +kernel
theorem dX5_readOne_37 : decode cX5_readOne 37 = .ok (.getfield 26, 3) := by decide +kernel
theorem dX5_readOne_40 : decode cX5_readOne 40 = .ok (.bipush 20, 2) := by decide +kernel
theorem dX5_readOne_42 : decode cX5_readOne 42 = .ok (.if_icmp .ge 9, 3) := by decide +kernel
theorem dX5_readOne_45 : decode cX5_readOne 45 = .ok (.iload_n 2, 1) := by decide +kernel
theorem dX5_readOne_46 : decode cX5_readOne 46 = .ok (.bipush 8, 2) := by decide +kernel
theorem dX5_readOne_48 : decode cX5_readOne 48 = .ok (.if_icmp .le 8, 3) := by decide +kernel
theorem dX5_readOne_51 : decode cX5_readOne 51 = .ok (.aload_n 1, 1) := by decide +kernel
theorem dX5_readOne_52 : decode cX5_readOne 52 = .ok (.iconst 4, 1) := by decide +kernel
theorem dX5_readOne_53 : decode cX5_readOne 53 = .ok (.invokevirtual 40, 3) := by decide +kernel
theorem dX5_readOne_56 : decode cX5_readOne 56 = .ok (.aload_n 1, 1) := by decide +kernel
theorem dX5_readOne_57 : decode cX5_readOne 57 = .ok (.getfield 74, 3) := by decide +kernel
theorem dX5_readOne_60 : decode cX5_readOne 60 = .ok (.ifCond .eq 4, 3) := by decide +kernel
theorem dX5_readOne_63 : decode cX5_readOne 63 = .ok (.return_, 1) := by decide +kernel
theorem dX5_readOne_64 : decode cX5_readOne 64 = .ok (.aload_n 0, 1) := by decide +kernel
theorem dX5_readOne_65 : decode cX5_readOne 65 = .ok (.dup, 1) := by decide +kernel
theorem dX5_readOne_66 : decode cX5_readOne 66 = .ok (.getfield 26, 3) := by decide +kernel
theorem dX5_readOne_69 : decode cX5_readOne 69 = .ok (.iconst 1, 1) := by decide +kernel
theorem dX5_readOne_70 : decode cX5_readOne 70 = .ok (.iadd, 1) := by decide +kernel
theorem dX5_readOne_71 : decode cX5_readOne 71 = .ok (.putfield 26, 3) := by decide +kernel
theorem dX5_readOne_74 : decode cX5_readOne 74 = .ok (.aload_n 1, 1) := by decide +kernel
theorem dX5_readOne_75 : decode cX5_readOne 75 = .ok (.ldc 65, 2) := by decide +kernel
theorem dX5_readOne_77 : decode cX5_readOne 77 = .ok (.invokevirtual 48, 3) := by decide +kernel
theorem dX5_readOne_80 : decode cX5_readOne 80 = .ok (.ifCond .eq 22, 3) := by decide +kernel
theorem dX5_readOne_83 : decode cX5_readOne 83 = .ok (.aload_n 0, 1) := by decide +kernel
theorem dX5_readOne_84 : decode cX5_readOne 84 = .ok (.aload_n 1, 1) := by decide +kernel
theorem dX5_readOne_85 : decode cX5_readOne 85 = .ok (.iload_n 2, 1) := by decide +kernel
theorem dX5_readOne_86 : decode cX5_readOne 86 = .ok (.iconst 1, 1) := by decide +kernel
theorem dX5_readOne_87 : decode cX5_readOne 87 = .ok (.iadd, 1) := by decide +kernel
theorem dX5_readOne_88 : decode cX5_readOne 88 = .ok (.invokevirtual 56, 3) := by decide +kernel
theorem dX5_readOne_91 : decode cX5_readOne 91 = .ok (.aload_n 0, 1) := by decide +kernel
theorem dX5_readOne_92 : decode cX5_readOne 92 = .ok (.bipush 9, 2) := by decide +kernel
theorem dX5_readOne_94 : decode cX5_readOne 94 = .ok (.iconst 0, 1) := by decide +kernel
theorem dX5_readOne_95 : decode cX5_readOne 95 = .ok (.iconst 0, 1) := by decide +kernel
theorem dX5_readOne_96 : decode cX5_readOne 96 = .ok (.invokevirtual 52, 3) := by decide +kernel
theorem dX5_readOne_99 : decode cX5_readOne 99 = .ok (.goto 81, 3) := by decide +kernel
theorem dX5_readOne_102 : decode cX5_readOne 102 = .ok (.aload_n 1, 1) := by decide +kernel
theorem dX5_readOne_103 : decode cX5_readOne 103 = .ok (.bipush 40, 2) := by decide +kernel
theorem dX5_readOne_105 : decode cX5_readOne 105 = .ok (.invokevirtual 77, 3) := by decide +kernel
theorem dX5_readOne_108 : decode cX5_readOne 108 = .ok (.ifCond .eq 28, 3) := by decide +kernel
theorem dX5_readOne_111 : decode cX5_readOne 111 = .ok (.aload_n 0, 1) := by decide +kernel
theorem dX5_readOne_112 : decode cX5_readOne 112 = .ok (.aload_n 1, 1) := by decide +kernel
theorem dX5_readOne_113 : decode cX5_readOne 113 = .ok (.iload_n 2, 1) := by decide +kernel
theorem dX5_readOne_114 : decode cX5_readOne 114 = .ok (.iconst 1, 1) := by decide +kernel
theorem dX5_readOne_115 : decode cX5_readOne 115 = .ok (.iadd, 1) := by decide +kernel
theorem dX5_readOne_116 : decode cX5_readOne 116 = .ok (.invokevirtual 30, 3) := by decide +kernel
theorem dX5_readOne_119 : decode cX5_readOne 119 = .ok (.aload_n 1, 1) := by decide +kernel
theorem dX5_readOne_120 : decode cX5_readOne 120 = .ok (.bipush 41, 2) := by decide +kernel
theorem dX5_readOne_122 : decode cX5_readOne 122 = .ok (.invokevirtual 77, 3) := by decide +kernel
theorem dX5_readOne_125 : decode cX5_readOne 125 = .ok (.ifCond .ne 55, 3) := by decide +kernel
theorem dX5_readOne_128 : decode cX5_readOne 128 = .ok (.aload_n 1, 1) := by decide +kernel
theorem dX5_readOne_129 : decode cX5_readOne 129 = .ok (.iconst 1, 1) := by decide +kernel
theorem dX5_readOne_130 : decode cX5_readOne 130 = .ok (.invokevirtual 40, 3) := by decide +kernel
theorem dX5_readOne_133 : decode cX5_readOne 133 = .ok (.goto 47, 3) := by decide +kernel
theorem dX5_readOne_136 : decode cX5_readOne 136 = .ok (.iload_n 3, 1) := by decide +kernel
theorem dX5_readOne_137 : decode cX5_readOne 137 = .ok (.bipush 6, 2) := by decide +kernel
theorem dX5_readOne_139 : decode cX5_readOne 139 = .ok (.if_icmp .lt 17, 3) := by decide +kernel
theorem dX5_readOne_142 : decode cX5_readOne 142 = .ok (.aload_n 1, 1) := by decide +kernel
theorem dX5_readOne_143 : decode cX5_readOne 143 = .ok (.invokevirtual 80, 3) := by decide +kernel
theorem dX5_readOne_146 : decode cX5_readOne 146 = .ok (.aload_n 0, 1) := by decide +kernel
theorem dX5_readOne_147 : decode cX5_readOne 147 = .ok (.iload_n 3, 1) := by decide +kernel
theorem dX5_readOne_148 : decode cX5_readOne 148 = .ok (.iconst 0, 1) := by decide +kernel
theorem dX5_readOne_149 : decode cX5_readOne 149 = .ok (.iconst 0, 1) := by decide +kernel
theorem dX5_readOne_150 : decode cX5_readOne 150 = .ok (.invokevirtual 52, 3) := by decide +kernel
theorem dX5_readOne_153 : decode cX5_readOne 153 = .ok (.goto 27, 3) := by decide +kernel
theorem dX5_readOne_156 : decode cX5_readOne 156 = .ok (.aload_n 1, 1) := by decide +kernel
theorem dX5_readOne_157 : decode cX5_readOne 157 = .ok (.invokevirtual 80, 3) := by decide +kernel
theorem dX5_readOne_160 : decode cX5_readOne 160 = .ok (.aload_n 0, 1) := by decide +kernel
theorem dX5_readOne_161 : decode cX5_readOne 161 = .ok (.iload_n 3, 1) := by decide +kernel
theorem dX5_readOne_162 : decode cX5_readOne 162 = .ok (.aload_n 1, 1) := by decide +kernel
theorem dX5_readOne_163 : decode cX5_readOne 163 = .ok (.invokevirtual 83, 3) := by decide +kernel
theorem dX5_readOne_166 : decode cX5_readOne 166 = .ok (.aload_n 1, 1) := by decide +kernel
theorem dX5_readOne_167 : decode cX5_readOne 167 = .ok (.iconst 0, 1) := by decide +kernel
theorem dX5_readOne_168 : decode cX5_readOne 168 = .ok (.sipush 9999, 3) := by decide +kernel
theorem dX5_readOne_171 : decode cX5_readOne 171 = .ok (.sipush 9999, 3) := by decide +kernel
theorem dX5_readOne_174 : decode cX5_readOne 174 = .ok (.invokevirtual 87, 3) := by decide +kernel
theorem dX5_readOne_177 : decode cX5_readOne 177 = .ok (.invokevirtual 52, 3) := by decide +kernel
theorem dX5_readOne_180 : decode cX5_readOne 180 = .ok (.return_, 1) := by decide +kernel
def fX5_readOne_j56 (La : sg_L) (o : Int) (x2 : Int) (rc : Nat → sg_L → sg_M → Int → Int → (sg_M → Prop) → Prop) (u1 : Int) (Q : sg_M → Prop) (s_56 : sg_M) : Prop := (((s_56 3 6) = 0 → sg_R ((s_56 o 3) + 1) ∧ ∀ s7 : sg_M, s7 = sg_up s_56 o 3 ((s_56 o 3) + 1) → fX9_skipWord s7 19 (fun u9 s11 => ((u9 = 0 → fX9_skipSign s11 40 (fun u13 s15 => ((u13 = 0 → ((u1 < 6 → fX9_advance s15 (fun s18 => fX9_comparison s18 (fun u19 s21 => fX9_number s21 0 9999 9999 (fun u22 s24 => fX5_addStep La s24 o u1 u19 u22 (fun s25 => Q s25))))) ∧ (¬ (u1 < 6) → fX9_advance s15 (fun s26 => fX5_addStep La s26 o u1 0 0 (fun s27 => Q s27))))) ∧ (¬ (u13 = 0) → sg_R (x2 + 1) ∧ rc 0 La s15 o (x2 + 1) (fun s29 => fX9_skipSign s29 41 (fun u30 s32 => ((u30 ≠ 0 → Q s32) ∧ (u30 = 0 → fX9_fail s32 1 (fun s34 => Q s34))))))))) ∧ (¬ (u9 = 0) → sg_R (x2 + 1) ∧ rc 2 La s11 o (x2 + 1) (fun s36 => fX5_addStep La s36 o 9 0 0 (fun s37 => Q s37)))))) ∧ (¬ ((s_56 3 6) = 0) → Q s_56))
def fX5_readOne_j51 (s0 : sg_M) (k56 : sg_M → Prop)  : Prop := fX9_fail s0 4 (fun s39 => k56 s39)
def fX5_readOne_j36 (s0 : sg_M) (o : Int) (x2 : Int) (k56 : sg_M → Prop)  : Prop := ((20 ≤ (s0 o 3) → (fX5_readOne_j51 s0 k56)) ∧ (¬ (20 ≤ (s0 o 3)) → ((x2 ≤ 8 → k56 s0) ∧ (¬ (x2 ≤ 8) → (fX5_readOne_j51 s0 k56)))))
def fX5_readOne_b (rc : Nat → sg_L → sg_M → Int → Int → (sg_M → Prop) → Prop) (La : sg_L) (s0 : sg_M) (o : Int) (x2 : Int) (Q : sg_M → Prop) : Prop := fX5_leafAt s0 (fun u1 => ((u1 ≠ (-1) → (fX5_readOne_j36 s0 o x2 (fX5_readOne_j56 La o x2 rc u1 Q))) ∧ (u1 = (-1) → fX9_isWord s0 19 (fun u43 => ((u43 ≠ 0 → (fX5_readOne_j36 s0 o x2 (fX5_readOne_j56 La o x2 rc u1 Q))) ∧ (u43 = 0 → fX9_isSign s0 40 (fun u46 => ((u46 ≠ 0 → (fX5_readOne_j36 s0 o x2 (fX5_readOne_j56 La o x2 rc u1 Q))) ∧ (u46 = 0 → fX9_fail s0 1 (fun s49 => (fX5_readOne_j56 La o x2 rc u1 Q) s49))))))))))
set_option maxHeartbeats 4000000 in
set_option maxRecDepth 100000 in
theorem CX5_readOne_b {l : Launch} {G : sg_G} {La : sg_L} {s0 : sg_M} (hst : sg_St La) {o : Int} (to : sg_O La o 5) {x2 : Int} (r2 : sg_R x2) {Q : sg_M → Prop} {d : Nat} (hd : 6 ≤ d) {rc : Nat → sg_L → sg_M → Int → Int → (sg_M → Prop) → Prop} (ih0 : ∀ {s0 : sg_M} {o : Int} (to : sg_O La o 5) {x2 : Int} (r2 : sg_R x2) {Q : sg_M → Prop}, rc 0 La s0 o x2 Q → sg_C l G yX5_readCond cX5_readCond 4 (none) d 0 0 La s0 [sg_r o, sg_r 3, sg_i x2] (sg_HV La Q)) (ih1 : ∀ {s0 : sg_M} {o : Int} (to : sg_O La o 5) {x2 : Int} (r2 : sg_R x2) {Q : sg_M → Prop}, rc 1 La s0 o x2 Q → sg_C l G yX5_readAll cX5_readAll 4 (none) d 0 0 La s0 [sg_r o, sg_r 3, sg_i x2] (sg_HV La Q)) (ih2 : ∀ {s0 : sg_M} {o : Int} (to : sg_O La o 5) {x2 : Int} (r2 : sg_R x2) {Q : sg_M → Prop}, rc 2 La s0 o x2 Q → sg_C l G yX5_readOne cX5_readOne 4 (none) d 0 0 La s0 [sg_r o, sg_r 3, sg_i x2] (sg_HV La Q)) (hf : fX5_readOne_b rc La s0 o x2 Q) : sg_C l G yX5_readOne cX5_readOne 4 (none) (d + 1) 0 0 La s0 [sg_r o, sg_r 3, sg_i x2] (sg_HV La Q) := by
  refine sg_body (by decide +kernel) (Nat.le_of_ble_eq_true rfl) ?_
  intro p e s m args below meth c F hnm
  unfold fX5_readOne_b at hf
  show sg_W p l e (sg_rm (d + 1) 0 0) s m args below meth c (MQ below (sg_Q (none) G La s.heap.size (sg_HV La Q)) args s 0 0 (sg_A La s.heap.size)) 4 G (sg_A La s.heap.size) La s0 0 0 0 [(0, sg_r o), (1, sg_r 3), (2, sg_i x2)] []
  refine gw_aload_n F 1 rfl rfl (by decide) dX5_readOne_0 ?_
  refine gk_PI F (gc_S F (S := []) (As := [sg_r 3]) (CX5_leafAt hst hf) kw_811 kw_96 kw_809 kw_810 hcX5_leafAt ⟨by simp only [sg_rm]; omega, by simp only [sg_rm]; omega⟩ rfl rfl (Nat.le_of_ble_eq_true rfl) ⟨by simp only [sg_rm]; omega, by simp only [sg_rm]; omega⟩ dX5_readOne_1) (fun u1 h2 hf => ?_)
  refine gw_istore_n F rfl (by decide) rfl dX5_readOne_4 ?_
  refine gw_iload_n F 0 rfl rfl dX5_readOne_5 ?_
  refine gw_iconst F dX5_readOne_6 ?_
  have J56 : ∀ (s_56 : sg_M), (fX5_readOne_j56 La o x2 rc u1 Q) s_56 → sg_W p l e (sg_rm (d + 1) 0 0) s m args below meth c (MQ below (sg_Q (none) G La s.heap.size (sg_HV La Q)) args s 0 0 (sg_A La s.heap.size)) 4 G (sg_A La s.heap.size) La s_56 0 0 56 [(0, sg_r o), (1, sg_r 3), (2, sg_i x2), (3, sg_i u1)] [] := by
    intro s_56 hf
    unfold fX5_readOne_j56 at hf
    refine gw_aload_n F 1 rfl rfl (by decide) dX5_readOne_56 ?_
    refine gw_get0 F (so_3 hst) (by decide) rfl sg_lay_RX9 (j := 6) (by decide) rfl (.inr kw_146) dX5_readOne_57 (fun h3 => ?_)
    refine gw_if_eq F (tgt := 64) dX5_readOne_60 (by decide) h3 (fun c4 => ?_) (fun c4 => ?_)
    · have hf := hf.1 c4
      refine gw_aload_n F 0 rfl rfl to.1 dX5_readOne_64 ?_
      refine gw_dup F rfl dX5_readOne_65 ?_
      refine gw_get0 F to (by decide) rfl sg_lay_RX5 (j := 3) (by decide) rfl (host := "") (.inl kw_210) dX5_readOne_66 (fun h5 => ?_)
      refine gw_iconst F dX5_readOne_69 ?_
      refine gw_iadd F rfl dX5_readOne_70 ?_
      obtain ⟨g6, hf⟩ := hf
      obtain ⟨s7, e8⟩ : ∃ z : sg_M, z = sg_up s_56 o 3 ((s_56 o 3) + 1) := ⟨_, rfl⟩
      have hf := hf s7 e8
      refine gw_put0 F to (by decide) rfl sg_lay_RX5 (j := 3) (by decide) g6 e8 tyX5_ok nmX5 rfl (tyX5_ok 3 (by decide)) rfl (host := "") (.inl kw_210) dX5_readOne_71 ?_
      refine gw_aload_n F 1 rfl rfl (by decide) dX5_readOne_74 ?_
      refine gw_ldcS F (i := 19) rfl dX5_readOne_75 ?_
      refine gk_HZ F (gc_V F (S := []) (As := [sg_a (G.2.2.1 19)]) (T := TX9) (N := 8) (CX9_skipWord hst (by decide) hf) (so_3 hst) (by decide) rfl kw_399 kw_92 kw_815 kw_397 kw_398 hcX9_skipWord ⟨by simp only [sg_rm]; omega, by simp only [sg_rm]; omega⟩ rfl rfl (Nat.le_of_ble_eq_true rfl) ⟨by simp only [sg_rm]; omega, by simp only [sg_rm]; omega⟩ dX5_readOne_77) (fun u9 s11 h10 hf => ?_)
      refine gw_if_eq F (tgt := 102) dX5_readOne_80 (by decide) (sg_B_R h10) (fun c12 => ?_) (fun c12 => ?_)
      · have hf := hf.1 c12
        refine gw_aload_n F 1 rfl rfl (by decide) dX5_readOne_102 ?_
        refine gw_bipush F rfl dX5_readOne_103 ?_
        refine gk_HZ F (gc_V F (S := []) (As := [sg_i 40]) (T := TX9) (N := 8) (CX9_skipSign hst (by decide) hf) (so_3 hst) (by decide) rfl kw_464 kw_92 kw_820 kw_462 kw_463 hcX9_skipSign ⟨by simp only [sg_rm]; omega, by simp only [sg_rm]; omega⟩ rfl rfl (Nat.le_of_ble_eq_true rfl) ⟨by simp only [sg_rm]; omega, by simp only [sg_rm]; omega⟩ dX5_readOne_105) (fun u13 s15 h14 hf => ?_)
        refine gw_if_eq F (tgt := 136) dX5_readOne_108 (by decide) (sg_B_R h14) (fun c16 => ?_) (fun c16 => ?_)
        · have hf := hf.1 c16
          refine gw_iload_n F 3 rfl rfl dX5_readOne_136 ?_
          refine gw_bipush F rfl dX5_readOne_137 ?_
          refine gw_icmp_lt F (tgt := 156) dX5_readOne_139 (by decide) h2 (by decide) (fun c17 => ?_) (fun c17 => ?_)
          · have hf := hf.1 c17
            refine gw_aload_n F 1 rfl rfl (by decide) dX5_readOne_156 ?_
            refine gk_HV F (gc_V F (S := []) (As := []) (T := TX9) (N := 8) (CX9_advance hst hf) (so_3 hst) (by decide) rfl kw_368 kw_92 kw_821 kw_366 kw_367 hcX9_advance ⟨by simp only [sg_rm]; omega, by simp only [sg_rm]; omega⟩ rfl rfl (Nat.le_of_ble_eq_true rfl) ⟨by simp only [sg_rm]; omega, by simp only [sg_rm]; omega⟩ dX5_readOne_157) (fun s18 hf => ?_)
            refine gw_aload_n F 0 rfl rfl to.1 dX5_readOne_160 ?_
            refine gw_iload_n F 3 rfl rfl dX5_readOne_161 ?_
            refine gw_aload_n F 1 rfl rfl (by decide) dX5_readOne_162 ?_
            refine gk_HI F (gc_V F (S := [sg_i u1, sg_r o]) (As := []) (T := TX9) (N := 8) (CX9_comparison hst hf) (so_3 hst) (by decide) rfl kw_825 kw_92 kw_822 kw_823 kw_824 hcX9_comparison ⟨by simp only [sg_rm]; omega, by simp only [sg_rm]; omega⟩ rfl rfl (Nat.le_of_ble_eq_true rfl) ⟨by simp only [sg_rm]; omega, by simp only [sg_rm]; omega⟩ dX5_readOne_163) (fun u19 s21 h20 hf => ?_)
            refine gw_aload_n F 1 rfl rfl (by decide) dX5_readOne_166 ?_
            refine gw_iconst F dX5_readOne_167 ?_
            refine gw_sipush F rfl dX5_readOne_168 ?_
            refine gw_sipush F rfl dX5_readOne_171 ?_
            refine gk_HI F (gc_V F (S := [sg_i u19, sg_i u1, sg_r o]) (As := [sg_i 0, sg_i 9999, sg_i 9999]) (T := TX9) (N := 8) (CX9_number hst (by decide) (by decide) (by decide) hf) (so_3 hst) (by decide) rfl kw_453 kw_92 kw_826 kw_451 kw_452 hcX9_number ⟨by simp only [sg_rm]; omega, by simp only [sg_rm]; omega⟩ rfl rfl (Nat.le_of_ble_eq_true rfl) ⟨by simp only [sg_rm]; omega, by simp only [sg_rm]; omega⟩ dX5_readOne_174) (fun u22 s24 h23 hf => ?_)
            refine gk_HV F (gc_V F (S := []) (As := [sg_i u1, sg_i u19, sg_i u22]) (T := TX5) (N := 4) (CX5_addStep to h2 h20 h23 hf) to (by decide) rfl kw_818 kw_96 kw_816 kw_817 kw_34 hcX5_addStep ⟨by simp only [sg_rm]; omega, by simp only [sg_rm]; omega⟩ rfl rfl (Nat.le_of_ble_eq_true rfl) ⟨by simp only [sg_rm]; omega, by simp only [sg_rm]; omega⟩ dX5_readOne_177) (fun s25 hf => ?_)
            exact gr_HV F hf (by decide) (by decide) dX5_readOne_180
          · have hf := hf.2 c17
            refine gw_aload_n F 1 rfl rfl (by decide) dX5_readOne_142 ?_
            refine gk_HV F (gc_V F (S := []) (As := []) (T := TX9) (N := 8) (CX9_advance hst hf) (so_3 hst) (by decide) rfl kw_368 kw_92 kw_821 kw_366 kw_367 hcX9_advance ⟨by simp only [sg_rm]; omega, by simp only [sg_rm]; omega⟩ rfl rfl (Nat.le_of_ble_eq_true rfl) ⟨by simp only [sg_rm]; omega, by simp only [sg_rm]; omega⟩ dX5_readOne_143) (fun s26 hf => ?_)
            refine gw_aload_n F 0 rfl rfl to.1 dX5_readOne_146 ?_
            refine gw_iload_n F 3 rfl rfl dX5_readOne_147 ?_
            refine gw_iconst F dX5_readOne_148 ?_
            refine gw_iconst F dX5_readOne_149 ?_
            refine gk_HV F (gc_V F (S := []) (As := [sg_i u1, sg_i 0, sg_i 0]) (T := TX5) (N := 4) (CX5_addStep to h2 (by decide) (by decide) hf) to (by decide) rfl kw_818 kw_96 kw_816 kw_817 kw_34 hcX5_addStep ⟨by simp only [sg_rm]; omega, by simp only [sg_rm]; omega⟩ rfl rfl (Nat.le_of_ble_eq_true rfl) ⟨by simp only [sg_rm]; omega, by simp only [sg_rm]; omega⟩ dX5_readOne_150) (fun s27 hf => ?_)
            refine gw_goto F (tgt := 180) dX5_readOne_153 (by decide) ?_
            exact gr_HV F hf (by decide) (by decide) dX5_readOne_180
        · have hf := hf.2 c16
          refine gw_aload_n F 0 rfl rfl to.1 dX5_readOne_111 ?_
          refine gw_aload_n F 1 rfl rfl (by decide) dX5_readOne_112 ?_
          refine gw_iload_n F 2 rfl rfl dX5_readOne_113 ?_
          refine gw_iconst F dX5_readOne_114 ?_
          refine gw_iadd F rfl dX5_readOne_115 ?_
          obtain ⟨g28, hf⟩ := hf
          refine gk_HV F (gc_V F (S := []) (As := [sg_r 3, sg_i (x2 + 1)]) (T := TX5) (N := 4) (ih0 to g28 hf) to (by decide) rfl kw_802 kw_96 kw_800 kw_801 kw_31 hcX5_readCond ⟨by simp only [sg_rm]; omega, by simp only [sg_rm]; omega⟩ rfl rfl (Nat.le_of_ble_eq_true rfl) ⟨by simp only [sg_rm]; omega, by simp only [sg_rm]; omega⟩ dX5_readOne_116) (fun s29 hf => ?_)
          refine gw_aload_n F 1 rfl rfl (by decide) dX5_readOne_119 ?_
          refine gw_bipush F rfl dX5_readOne_120 ?_
          refine gk_HZ F (gc_V F (S := []) (As := [sg_i 41]) (T := TX9) (N := 8) (CX9_skipSign hst (by decide) hf) (so_3 hst) (by decide) rfl kw_464 kw_92 kw_820 kw_462 kw_463 hcX9_skipSign ⟨by simp only [sg_rm]; omega, by simp only [sg_rm]; omega⟩ rfl rfl (Nat.le_of_ble_eq_true rfl) ⟨by simp only [sg_rm]; omega, by simp only [sg_rm]; omega⟩ dX5_readOne_122) (fun u30 s32 h31 hf => ?_)
          refine gw_if_ne F (tgt := 180) dX5_readOne_125 (by decide) (sg_B_R h31) (fun c33 => ?_) (fun c33 => ?_)
          · have hf := hf.1 c33
            exact gr_HV F hf (by decide) (by decide) dX5_readOne_180
          · have hf := hf.2 c33
            refine gw_aload_n F 1 rfl rfl (by decide) dX5_readOne_128 ?_
            refine gw_iconst F dX5_readOne_129 ?_
            refine gk_HV F (gc_V F (S := []) (As := [sg_i 1]) (T := TX9) (N := 8) (CX9_fail hst (by decide) hf) (so_3 hst) (by decide) rfl kw_457 kw_92 kw_814 kw_455 kw_456 hcX9_fail ⟨by simp only [sg_rm]; omega, by simp only [sg_rm]; omega⟩ rfl rfl (Nat.le_of_ble_eq_true rfl) ⟨by simp only [sg_rm]; omega, by simp only [sg_rm]; omega⟩ dX5_readOne_130) (fun s34 hf => ?_)
            refine gw_goto F (tgt := 180) dX5_readOne_133 (by decide) ?_
            exact gr_HV F hf (by decide) (by decide) dX5_readOne_180
      · have hf := hf.2 c12
        refine gw_aload_n F 0 rfl rfl to.1 dX5_readOne_83 ?_
        refine gw_aload_n F 1 rfl rfl (by decide) dX5_readOne_84 ?_
        refine gw_iload_n F 2 rfl rfl dX5_readOne_85 ?_
        refine gw_iconst F dX5_readOne_86 ?_
        refine gw_iadd F rfl dX5_readOne_87 ?_
        obtain ⟨g35, hf⟩ := hf
        refine gk_HV F (gc_V F (S := []) (As := [sg_r 3, sg_i (x2 + 1)]) (T := TX5) (N := 4) (ih2 to g35 hf) to (by decide) rfl kw_808 kw_96 kw_806 kw_807 kw_33 hcX5_readOne ⟨by simp only [sg_rm]; omega, by simp only [sg_rm]; omega⟩ rfl rfl (Nat.le_of_ble_eq_true rfl) ⟨by simp only [sg_rm]; omega, by simp only [sg_rm]; omega⟩ dX5_readOne_88) (fun s36 hf => ?_)
        refine gw_aload_n F 0 rfl rfl to.1 dX5_readOne_91 ?_
        refine gw_bipush F rfl dX5_readOne_92 ?_
        refine gw_iconst F dX5_readOne_94 ?_
        refine gw_iconst F dX5_readOne_95 ?_
        refine gk_HV F (gc_V F (S := []) (As := [sg_i 9, sg_i 0, sg_i 0]) (T := TX5) (N := 4) (CX5_addStep to (by decide) (by decide) (by decide) hf) to (by decide) rfl kw_818 kw_96 kw_816 kw_817 kw_34 hcX5_addStep ⟨by simp only [sg_rm]; omega, by simp only [sg_rm]; omega⟩ rfl rfl (Nat.le_of_ble_eq_true rfl) ⟨by simp only [sg_rm]; omega, by simp only [sg_rm]; omega⟩ dX5_readOne_96) (fun s37 hf => ?_)
        refine gw_goto F (tgt := 180) dX5_readOne_99 (by decide) ?_
        exact gr_HV F hf (by decide) (by decide) dX5_readOne_180
    · have hf := hf.2 c4
      exact gr_HV F hf (by decide) (by decide) dX5_readOne_63
  have J36 : (fX5_readOne_j36 s0 o x2 (fX5_readOne_j56 La o x2 rc u1 Q)) → sg_W p l e (sg_rm (d + 1) 0 0) s m args below meth c (MQ below (sg_Q (none) G La s.heap.size (sg_HV La Q)) args s 0 0 (sg_A La s.heap.size)) 4 G (sg_A La s.heap.size) La s0 0 0 36 [(0, sg_r o), (1, sg_r 3), (2, sg_i x2), (3, sg_i u1)] [] := by
    intro hf
    unfold fX5_readOne_j36 at hf
    refine gw_aload_n F 0 rfl rfl to.1 dX5_readOne_36 ?_
    refine gw_get0 F to (by decide) rfl sg_lay_RX5 (j := 3) (by decide) rfl (host := "") (.inl kw_210) dX5_readOne_37 (fun h38 => ?_)
    refine gw_bipush F rfl dX5_readOne_40 ?_
    have J51 : (fX5_readOne_j51 s0 (fX5_readOne_j56 La o x2 rc u1 Q)) → sg_W p l e (sg_rm (d + 1) 0 0) s m args below meth c (MQ below (sg_Q (none) G La s.heap.size (sg_HV La Q)) args s 0 0 (sg_A La s.heap.size)) 4 G (sg_A La s.heap.size) La s0 0 0 51 [(0, sg_r o), (1, sg_r 3), (2, sg_i x2), (3, sg_i u1)] [] := by
      intro hf
      unfold fX5_readOne_j51 at hf
      refine gw_aload_n F 1 rfl rfl (by decide) dX5_readOne_51 ?_
      refine gw_iconst F dX5_readOne_52 ?_
      refine gk_HV F (gc_V F (S := []) (As := [sg_i 4]) (T := TX9) (N := 8) (CX9_fail hst (by decide) hf) (so_3 hst) (by decide) rfl kw_457 kw_92 kw_814 kw_455 kw_456 hcX9_fail ⟨by simp only [sg_rm]; omega, by simp only [sg_rm]; omega⟩ rfl rfl (Nat.le_of_ble_eq_true rfl) ⟨by simp only [sg_rm]; omega, by simp only [sg_rm]; omega⟩ dX5_readOne_53) (fun s39 hf => ?_)
      refine gw_sub [0, 1, 2, 3] rfl ?_
      exact J56 s39 hf
    refine gw_icmp_ge F (tgt := 51) dX5_readOne_42 (by decide) h38 (by decide) (fun c40 => ?_) (fun c40 => ?_)
    · have hf := hf.1 c40
      refine gw_sub [0, 1, 2, 3] rfl ?_
      exact J51  hf
    · have hf := hf.2 c40
      refine gw_iload_n F 2 rfl rfl dX5_readOne_45 ?_
      refine gw_bipush F rfl dX5_readOne_46 ?_
      refine gw_icmp_le F (tgt := 56) dX5_readOne_48 (by decide) r2 (by decide) (fun c41 => ?_) (fun c41 => ?_)
      · have hf := hf.1 c41
        refine gw_sub [0, 1, 2, 3] rfl ?_
        exact J56 s0 hf
      · have hf := hf.2 c41
        refine gw_sub [0, 1, 2, 3] rfl ?_
        exact J51  hf
  refine gw_icmp_ne F (tgt := 36) dX5_readOne_7 (by decide) h2 (by decide) (fun c42 => ?_) (fun c42 => ?_)
  · have hf := hf.1 c42
    refine gw_sub [1, 2, 3, 0] rfl ?_
    exact J36  hf
  · have hf := hf.2 c42
    refine gw_aload_n F 2 rfl rfl (by decide) dX5_readOne_10 ?_
    refine gw_ldcS F (i := 19) rfl dX5_readOne_11 ?_
    refine gk_PZ F (gc_V F (S := []) (As := [sg_a (G.2.2.1 19)]) (T := TX9) (N := 8) (CX9_isWord hst (by decide) hf) (so_3 hst) (by decide) rfl kw_403 kw_92 kw_812 kw_401 kw_402 hcX9_isWord ⟨by simp only [sg_rm]; omega, by simp only [sg_rm]; omega⟩ rfl rfl (Nat.le_of_ble_eq_true rfl) ⟨by simp only [sg_rm]; omega, by simp only [sg_rm]; omega⟩ dX5_readOne_13) (fun u43 h44 hf => ?_)
    refine gw_if_ne F (tgt := 36) dX5_readOne_16 (by decide) (sg_B_R h44) (fun c45 => ?_) (fun c45 => ?_)
    · have hf := hf.1 c45
      refine gw_sub [1, 2, 3, 0] rfl ?_
      exact J36  hf
    · have hf := hf.2 c45
      refine gw_aload_n F 2 rfl rfl (by decide) dX5_readOne_19 ?_
      refine gw_bipush F rfl dX5_readOne_20 ?_
      refine gk_PZ F (gc_V F (S := []) (As := [sg_i 40]) (T := TX9) (N := 8) (CX9_isSign hst (by decide) hf) (so_3 hst) (by decide) rfl kw_468 kw_92 kw_813 kw_466 kw_467 hcX9_isSign ⟨by simp only [sg_rm]; omega, by simp only [sg_rm]; omega⟩ rfl rfl (Nat.le_of_ble_eq_true rfl) ⟨by simp only [sg_rm]; omega, by simp only [sg_rm]; omega⟩ dX5_readOne_22) (fun u46 h47 hf => ?_)
      refine gw_if_ne F (tgt := 36) dX5_readOne_25 (by decide) (sg_B_R h47) (fun c48 => ?_) (fun c48 => ?_)
      · have hf := hf.1 c48
        refine gw_sub [1, 2, 3, 0] rfl ?_
        exact J36  hf
      · have hf := hf.2 c48
        refine gw_aload_n F 2 rfl rfl (by decide) dX5_readOne_28 ?_
        refine gw_iconst F dX5_readOne_29 ?_
        refine gk_HV F (gc_V F (S := []) (As := [sg_i 1]) (T := TX9) (N := 8) (CX9_fail hst (by decide) hf) (so_3 hst) (by decide) rfl kw_457 kw_92 kw_814 kw_455 kw_456 hcX9_fail ⟨by simp only [sg_rm]; omega, by simp only [sg_rm]; omega⟩ rfl rfl (Nat.le_of_ble_eq_true rfl) ⟨by simp only [sg_rm]; omega, by simp only [sg_rm]; omega⟩ dX5_readOne_30) (fun s49 hf => ?_)
        refine gw_goto F (tgt := 56) dX5_readOne_33 (by decide) ?_
        refine gw_sub [1, 2, 3, 0] rfl ?_
        exact J56 s49 hf

def g_cR : Nat → Nat → sg_L → sg_M → Int → Int → (sg_M → Prop) → Prop
  | 0, _, _, _, _, _, _ => False
  | n + 1, t, La, s0, o, x2, Q => if t = 0 then fX5_readCond_b (g_cR n) La s0 o x2 Q else if t = 1 then fX5_readAll_b (g_cR n) La s0 o x2 Q else fX5_readOne_b (g_cR n) La s0 o x2 Q
theorem G_cR {l : Launch} {G : sg_G} {La : sg_L} (hst : sg_St La) : ∀ n : Nat, (∀ {s0 : sg_M} {o : Int} (to : sg_O La o 5) {x2 : Int} (r2 : sg_R x2) {Q : sg_M → Prop}, g_cR n 0 La s0 o x2 Q → sg_C l G yX5_readCond cX5_readCond 4 (none) (6 + n) 0 0 La s0 [sg_r o, sg_r 3, sg_i x2] (sg_HV La Q)) ∧ (∀ {s0 : sg_M} {o : Int} (to : sg_O La o 5) {x2 : Int} (r2 : sg_R x2) {Q : sg_M → Prop}, g_cR n 1 La s0 o x2 Q → sg_C l G yX5_readAll cX5_readAll 4 (none) (6 + n) 0 0 La s0 [sg_r o, sg_r 3, sg_i x2] (sg_HV La Q)) ∧ (∀ {s0 : sg_M} {o : Int} (to : sg_O La o 5) {x2 : Int} (r2 : sg_R x2) {Q : sg_M → Prop}, g_cR n 2 La s0 o x2 Q → sg_C l G yX5_readOne cX5_readOne 4 (none) (6 + n) 0 0 La s0 [sg_r o, sg_r 3, sg_i x2] (sg_HV La Q)) := by
  intro n
  induction n with
  | zero => exact ⟨(by intro s0 o to x2 r2 Q hf; exact (show False from hf).elim), (by intro s0 o to x2 r2 Q hf; exact (show False from hf).elim), (by intro s0 o to x2 r2 Q hf; exact (show False from hf).elim)⟩
  | succ n ih =>
    exact ⟨(by intro s0 o to x2 r2 Q hf; exact CX5_readCond_b (d := 6 + n) hst to r2 (Nat.le_add_right _ _) ih.1 ih.2.1 ih.2.2 hf), (by intro s0 o to x2 r2 Q hf; exact CX5_readAll_b (d := 6 + n) hst to r2 (Nat.le_add_right _ _) ih.1 ih.2.1 ih.2.2 hf), (by intro s0 o to x2 r2 Q hf; exact CX5_readOne_b (d := 6 + n) hst to r2 (Nat.le_add_right _ _) ih.1 ih.2.1 ih.2.2 hf)⟩

theorem dX5_readFrom_0 : decode cX5_readFrom 0 = .ok (.aload_n 0, 1) := by decide +kernel
theorem dX5_readFrom_1 : decode cX5_readFrom 1 = .ok (.aload_n 1, 1) := by decide +kernel
theorem dX5_readFrom_2 : decode cX5_readFrom 2 = .ok (.iconst 1, 1) := by decide +kernel
theorem dX5_readFrom_3 : decode cX5_readFrom 3 = .ok (.invokevirtual 30, 3) := by decide +kernel
theorem dX5_readFrom_6 : decode cX5_readFrom 6 = .ok (.aload_n 1, 1) := by decide +kernel
theorem dX5_readFrom_7 : decode cX5_readFrom 7 = .ok (.invokevirtual 34, 3) := by decide +kernel
theorem dX5_readFrom_10 : decode cX5_readFrom 10 = .ok (.ifCond .eq 8, 3) := by decide +kernel
theorem dX5_readFrom_13 : decode cX5_readFrom 13 = .ok (.aload_n 1, 1) := by decide +kernel
theorem dX5_readFrom_14 : decode cX5_readFrom 14 = .ok (.iconst 1, 1) := by decide +kernel
theorem dX5_readFrom_15 : decode cX5_readFrom 15 = .ok (.invokevirtual 40, 3) := by decide +kernel
theorem dX5_readFrom_18 : decode cX5_readFrom 18 = .ok (.return_, 1) := by decide +kernel
theorem hcX5_readFrom : yX5_readFrom.cls ≠ "java/lang/invoke/MethodHandle" ∧ yX5_readFrom.cls ≠ "java/lang/invoke/VarHandle" ∧ (parseMethodDescriptor yX5_readFrom.desc).map (fun d => d.parameters.length) = some 1 := ⟨by decide +kernel, by decide +kernel, by decide +kernel⟩
def fX5_readFrom (La : sg_L) (s0 : sg_M) (o : Int) (Q : sg_M → Prop) : Prop := g_cR 60 0 La s0 o 1 (fun s1 => fX9_isGoingOn s1 (fun u2 => ((u2 = 0 → Q s1) ∧ (¬ (u2 = 0) → fX9_fail s1 1 (fun s5 => Q s5)))))
set_option maxHeartbeats 4000000 in
set_option maxRecDepth 100000 in
theorem CX5_readFrom {l : Launch} {G : sg_G} {La : sg_L} {s0 : sg_M} (hst : sg_St La) {o : Int} (to : sg_O La o 5) {Q : sg_M → Prop} (hf : fX5_readFrom La s0 o Q) : sg_C l G yX5_readFrom cX5_readFrom 2 (none) 67 0 0 La s0 [sg_r o, sg_r 3] (sg_HV La Q) := by
  refine sg_body (by decide +kernel) (Nat.le_of_ble_eq_true rfl) ?_
  intro p e s m args below meth c F hnm
  unfold fX5_readFrom at hf
  show sg_W p l e (sg_rm 67 0 0) s m args below meth c (MQ below (sg_Q (none) G La s.heap.size (sg_HV La Q)) args s 0 0 (sg_A La s.heap.size)) 2 G (sg_A La s.heap.size) La s0 0 0 0 [(0, sg_r o), (1, sg_r 3)] []
  refine gw_aload_n F 0 rfl rfl to.1 dX5_readFrom_0 ?_
  refine gw_aload_n F 1 rfl rfl (by decide) dX5_readFrom_1 ?_
  refine gw_iconst F dX5_readFrom_2 ?_
  refine gk_HV F (gc_V F (S := []) (As := [sg_r 3, sg_i 1]) (T := TX5) (N := 4) ((G_cR hst 60).1 to (by decide) hf) to (by decide) rfl kw_802 kw_96 kw_800 kw_801 kw_31 hcX5_readCond ⟨by decide +kernel, by decide +kernel⟩ rfl rfl (Nat.le_of_ble_eq_true rfl) ⟨by decide +kernel, by decide +kernel⟩ dX5_readFrom_3) (fun s1 hf => ?_)
  refine gw_aload_n F 1 rfl rfl (by decide) dX5_readFrom_6 ?_
  refine gk_PZ F (gc_V F (S := []) (As := []) (T := TX9) (N := 8) (CX9_isGoingOn hst hf) (so_3 hst) (by decide) rfl kw_392 kw_92 kw_827 kw_390 kw_391 hcX9_isGoingOn ⟨by decide, by decide⟩ rfl rfl (Nat.le_of_ble_eq_true rfl) ⟨by decide, by decide⟩ dX5_readFrom_7) (fun u2 h3 hf => ?_)
  refine gw_if_eq F (tgt := 18) dX5_readFrom_10 (by decide) (sg_B_R h3) (fun c4 => ?_) (fun c4 => ?_)
  · have hf := hf.1 c4
    exact gr_HV F hf (by decide) (by decide) dX5_readFrom_18
  · have hf := hf.2 c4
    refine gw_aload_n F 1 rfl rfl (by decide) dX5_readFrom_13 ?_
    refine gw_iconst F dX5_readFrom_14 ?_
    refine gk_HV F (gc_V F (S := []) (As := [sg_i 1]) (T := TX9) (N := 8) (CX9_fail hst (by decide) hf) (so_3 hst) (by decide) rfl kw_457 kw_92 kw_814 kw_455 kw_456 hcX9_fail ⟨by decide, by decide⟩ rfl rfl (Nat.le_of_ble_eq_true rfl) ⟨by decide, by decide⟩ dX5_readFrom_15) (fun s5 hf => ?_)
    exact gr_HV F hf (by decide) (by decide) dX5_readFrom_18

theorem dX11_sentence_0 : decode cX11_sentence 0 = .ok (.new 33, 3) := by decide +kernel
theorem dX11_sentence_3 : decode cX11_sentence 3 = .ok (.dup, 1) := by decide +kernel
theorem dX11_sentence_4 : decode cX11_sentence 4 = .ok (.invokespecial 35, 3) := by decide +kernel
theorem dX11_sentence_7 : decode cX11_sentence 7 = .ok (.astore_n 1, 1) := by decide +kernel
theorem dX11_sentence_8 : decode cX11_sentence 8 = .ok (.aload_n 0, 1) := by decide +kernel
theorem dX11_sentence_9 : decode cX11_sentence 9 = .ok (.getfield 21, 3) := by decide +kernel
theorem dX11_sentence_12 : decode cX11_sentence 12 = .ok (.sipush 200, 3) := by decide +kernel
theorem dX11_sentence_15 : decode cX11_sentence 15 = .ok (.invokevirtual 128, 3) := by decide +kernel
theorem dX11_sentence_18 : decode cX11_sentence 18 = .ok (.aload_n 1, 1) := by decide +kernel
theorem dX11_sentence_19 : decode cX11_sentence 19 = .ok (.aload_n 0, 1) := by decide +kernel
theorem dX11_sentence_20 : decode cX11_sentence 20 = .ok (.getfield 21, 3) := by decide +kernel
theorem dX11_sentence_23 : decode cX11_sentence 23 = .ok (.invokevirtual 323, 3) := by decide +kernel
theorem dX11_sentence_26 : decode cX11_sentence 26 = .ok (.aload_n 0, 1) := by decide +kernel
theorem dX11_sentence_27 : decode cX11_sentence 27 = .ok (.getfield 21, 3) := by decide +kernel
theorem dX11_sentence_30 : decode cX11_sentence 30 = .ok (.getfield 135, 3) := by decide +kernel
theorem dX11_sentence_33 : decode cX11_sentence 33 = .ok (.ifCond .ne 11, 3) := by decide +kernel
theorem dX11_sentence_36 : decode cX11_sentence 36 = .ok (.aload_n 0, 1) := by decide +kernel
theorem dX11_sentence_37 : decode cX11_sentence 37 = .ok (.getfield 39, 3) := by decide +kernel
theorem dX11_sentence_40 : decode cX11_sentence 40 = .ok (.aload_n 1, 1) := by decide +kernel
theorem dX11_sentence_41 : decode cX11_sentence 41 = .ok (.putfield 324, 3) := by decide +kernel
theorem dX11_sentence_44 : decode cX11_sentence 44 = .ok (.aload_n 0, 1) := by decide +kernel
theorem dX11_sentence_45 : decode cX11_sentence 45 = .ok (.aload_n 1, 1) := by decide +kernel
theorem dX11_sentence_46 : decode cX11_sentence 46 = .ok (.getfield 328, 3) := by decide +kernel
theorem dX11_sentence_49 : decode cX11_sentence 49 = .ok (.invokevirtual 139, 3) := by decide +kernel
theorem dX11_sentence_52 : decode cX11_sentence 52 = .ok (.ireturn, 1) := by decide +kernel
theorem hcX11_sentence : yX11_sentence.cls ≠ "java/lang/invoke/MethodHandle" ∧ yX11_sentence.cls ≠ "java/lang/invoke/VarHandle" ∧ (parseMethodDescriptor yX11_sentence.desc).map (fun d => d.parameters.length) = some 0 := ⟨by decide +kernel, by decide +kernel, by decide +kernel⟩
def fX11_sentence (La : sg_L) (s0 : sg_M) (Q : Int → sg_L → sg_M → Prop) : Prop := ∀ (q1 : Nat) (La2 : sg_L), La2 = sg_pu La 25 q1 → ∀ s3 : sg_M, s3 = sg_nw s0 La.1 25 → ∀ o4 : Int, o4 = (La.1 : Int) → fX5_init La2 s3 o4 (fun La13 s14 => fX9_open s14 200 (fun s20 => fX5_readFrom La13 s20 o4 (fun s22 => (((s22 3 6) ≠ 0 → fX11_closeText s22 (s22 o4 3) (fun u27 s29 => Q u27 La13 s29)) ∧ ((s22 3 6) = 0 → ∀ s31 : sg_M, s31 = sg_up s22 4 2 o4 → fX11_closeText s31 (s31 o4 3) (fun u34 s36 => Q u34 La13 s36))))))
set_option maxHeartbeats 4000000 in
set_option maxRecDepth 100000 in
theorem CX11_sentence {l : Launch} {G : sg_G} {La : sg_L} {s0 : sg_M} (hst : sg_St La) {Q : Int → sg_L → sg_M → Prop} (hf : fX11_sentence La s0 Q) : sg_C l G yX11_sentence cX11_sentence 2 (some .int) 68 7 613 La s0 [sg_r 0] (sg_BI La Q) := by
  refine sg_body (by decide +kernel) (Nat.le_of_ble_eq_true rfl) ?_
  intro p e s m args below meth c F hnm
  unfold fX11_sentence at hf
  show sg_W p l e (sg_rm 68 7 613) s m args below meth c (MQ below (sg_Q (some .int) G La s.heap.size (sg_BI La Q)) args s 7 613 (sg_A La s.heap.size)) 2 G (sg_A La s.heap.size) La s0 0 0 0 [(0, sg_r 0)] []
  refine gy_new F (kd := 25) (T := TX5) (by decide) rfl sg_lay_RX5 tyX5_ok kw_184 kw_185 kw_96 ns_X5 nf_X5 nr_X5 (by decide) (by decide) (List.forall_mem_cons.mpr ⟨(Or.inl (so_0 hst).2.1), (fun _ h => absurd h List.not_mem_nil)⟩) (fun _ h => absurd h List.not_mem_nil) dX11_sentence_0 (fun q1 La2 s3 o4 e5 e6 e7 t8 hX9 => ?_)
  have hf := hf q1 La2 e5 s3 e6 o4 e7
  have hn10 : La.1 ≤ o4.toNat := by rw [e7, Int.toNat_natCast]; exact (sg_X.rf : sg_X La La).1
  have hst11 := hst.X hX9
  have hX12 := sg_X.tr (sg_X.rf) hX9
  refine gw_dup F rfl dX11_sentence_3 ?_
  refine gk_BV F (gc_IN F (S := [sg_r o4]) (As := []) (CX5_init t8 hf) t8.1 kw_188 kw_96 kw_186 kw_187 rfl hcX5_init ⟨by decide, by decide⟩ rfl rfl (Nat.le_of_ble_eq_true rfl) ⟨by decide, by decide⟩ dX11_sentence_4) (List.forall_mem_cons.mpr ⟨(Or.inl (so_0 hst11).2.1), (fun _ h => absurd h List.not_mem_nil)⟩) (List.forall_mem_cons.mpr ⟨(Or.inl t8.2.1), (fun _ h => absurd h List.not_mem_nil)⟩) (fun La13 s14 hX15 hf => ?_)
  have t16 := (sg_O_sealed t8).X hX15
  have hst17 := (sg_St_sx hst11 t8 ⟨by decide, by decide, by decide⟩).X hX15
  have hX18 := (sg_X_sx (hX12) hn10).tr hX15
  refine gw_astore_n F rfl t16.1 (by decide) rfl dX11_sentence_7 ?_
  refine gw_aload_n F 1 rfl rfl (by decide) dX11_sentence_8 ?_
  refine gw_get7 F (so_0 hst17) (by decide) rfl sg_lay_RX11 (j := 1) (by decide) (o1 := 3) (by first | rfl | omega) rfl (host := "") (.inl kw_327) dX11_sentence_9 (fun h19 => ?_)
  refine gw_sipush F rfl dX11_sentence_12 ?_
  refine gk_HV F (gc_V F (S := []) (As := [sg_i 200]) (T := TX9) (N := 8) (CX9_open hst17 (by decide) hf) (so_3 hst17) (by decide) rfl kw_364 kw_92 kw_361 kw_362 kw_363 hcX9_open ⟨by decide, by decide⟩ rfl rfl (Nat.le_of_ble_eq_true rfl) ⟨by decide, by decide⟩ dX11_sentence_15) (fun s20 hf => ?_)
  refine gw_aload_n F 0 rfl rfl t16.1 dX11_sentence_18 ?_
  refine gw_aload_n F 1 rfl rfl (by decide) dX11_sentence_19 ?_
  refine gw_get7 F (so_0 hst17) (by decide) rfl sg_lay_RX11 (j := 1) (by decide) (o1 := 3) (by first | rfl | omega) rfl (host := "") (.inl kw_327) dX11_sentence_20 (fun h21 => ?_)
  refine gk_HV F (gc_V F (S := []) (As := [sg_r 3]) (T := TX5) (N := 4) (CX5_readFrom hst17 t16 hf) t16 (by decide) rfl kw_799 kw_96 kw_796 kw_797 kw_798 hcX5_readFrom ⟨by decide, by decide⟩ rfl rfl (Nat.le_of_ble_eq_true rfl) ⟨by decide, by decide⟩ dX11_sentence_23) (fun s22 hf => ?_)
  refine gw_aload_n F 1 rfl rfl (by decide) dX11_sentence_26 ?_
  refine gw_get7 F (so_0 hst17) (by decide) rfl sg_lay_RX11 (j := 1) (by decide) (o1 := 3) (by first | rfl | omega) rfl (host := "") (.inl kw_327) dX11_sentence_27 (fun h23 => ?_)
  refine gw_get0 F (so_3 hst17) (by decide) rfl sg_lay_RX9 (j := 6) (by decide) rfl (.inr kw_145) dX11_sentence_30 (fun h24 => ?_)
  refine gw_if_ne F (tgt := 44) dX11_sentence_33 (by decide) h24 (fun c25 => ?_) (fun c25 => ?_)
  · have hf := hf.1 c25
    refine gw_aload_n F 1 rfl rfl (by decide) dX11_sentence_44 ?_
    refine gw_aload_n F 0 rfl rfl t16.1 dX11_sentence_45 ?_
    refine gw_get0 F t16 (by decide) rfl sg_lay_RX5 (j := 3) (by decide) rfl (.inr kw_211) dX11_sentence_46 (fun h26 => ?_)
    refine gk_HI F (gc_V F (S := []) (As := [sg_i (s22 o4 3)]) (T := TX11) (N := 19) (CX11_closeText hst17 h26 hf) (so_0 hst17) (by decide) rfl kw_487 kw_90 kw_485 kw_486 kw_2 hcX11_closeText ⟨by decide, by decide⟩ rfl rfl (Nat.le_of_ble_eq_true rfl) ⟨by decide, by decide⟩ dX11_sentence_49) (fun u27 s29 h28 hf => ?_)
    exact gr_BI F h28 hf (hX18) (by decide) (by decide) dX11_sentence_52
  · have hf := hf.2 c25
    refine gw_aload_n F 1 rfl rfl (by decide) dX11_sentence_36 ?_
    refine gw_get7 F (so_0 hst17) (by decide) rfl sg_lay_RX11 (j := 2) (by decide) (o1 := 4) (by first | rfl | omega) rfl (host := "") (.inl kw_328) dX11_sentence_37 (fun h30 => ?_)
    refine gw_aload_n F 0 rfl rfl t16.1 dX11_sentence_40 ?_
    obtain ⟨s31, e32⟩ : ∃ z : sg_M, z = sg_up s22 4 2 o4 := ⟨_, rfl⟩
    have hf := hf s31 e32
    refine gw_put4 F (so_4 hst17) (by decide) rfl sg_lay_RX7 (j := 2) (by decide) t16.1 t16 e32 tyX7_ok nmX7 rfl (tyX7_ok 2 (by decide)) rfl (.inr kw_238) dX11_sentence_41 ?_
    refine gw_aload_n F 1 rfl rfl (by decide) dX11_sentence_44 ?_
    refine gw_aload_n F 0 rfl rfl t16.1 dX11_sentence_45 ?_
    refine gw_get0 F t16 (by decide) rfl sg_lay_RX5 (j := 3) (by decide) rfl (.inr kw_211) dX11_sentence_46 (fun h33 => ?_)
    refine gk_HI F (gc_V F (S := []) (As := [sg_i (s31 o4 3)]) (T := TX11) (N := 19) (CX11_closeText hst17 h33 hf) (so_0 hst17) (by decide) rfl kw_487 kw_90 kw_485 kw_486 kw_2 hcX11_closeText ⟨by decide, by decide⟩ rfl rfl (Nat.le_of_ble_eq_true rfl) ⟨by decide, by decide⟩ dX11_sentence_49) (fun u34 s36 h35 hf => ?_)
    exact gr_BI F h35 hf (hX18) (by decide) (by decide) dX11_sentence_52
