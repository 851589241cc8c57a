theorem dX12_bends_0 : decode cX12_bends 0 = .ok (.aload_n 0, 1) := by decide +kernel
theorem dX12_bends_1 : decode cX12_bends 1 = .ok (.getfield 13, 3) := by decide +kernel
theorem dX12_bends_4 : decode cX12_bends 4 = .ok (.sipush 1701, 3) := by decide +kernel
theorem dX12_bends_7 : decode cX12_bends 7 = .ok (.iaload, 1) := by decide +kernel
theorem dX12_bends_8 : decode cX12_bends 8 = .ok (.ireturn, 1) := by decide +kernel
theorem hcX12_bends : yX12_bends.cls ≠ "java/lang/invoke/MethodHandle" ∧ yX12_bends.cls ≠ "java/lang/invoke/VarHandle" ∧ (parseMethodDescriptor yX12_bends.desc).map (fun d => d.parameters.length) = some 0 := ⟨by decide +kernel, by decide +kernel, by decide +kernel⟩
def fX12_bends (s0 : sg_M) (Q : Int → Prop) : Prop := Q (s0 66 1701)
set_option maxHeartbeats 4000000 in
set_option maxRecDepth 100000 in
theorem CX12_bends {l : Launch} {G : sg_G} {La : sg_L} {s0 : sg_M} (hst : sg_St La) {Q : Int → Prop} (hf : fX12_bends s0 Q) : sg_C l G yX12_bends cX12_bends 1 (some .int) 1 0 0 La s0 [sg_r 64] (sg_PI La s0 Q) := by
  refine sg_body (by decide +kernel) (Nat.le_of_ble_eq_true rfl) ?_
  intro p e s m args below meth c F hnm
  unfold fX12_bends at hf
  show sg_W p l e (sg_rm 1 0 0) s m args below meth c (MQ below (sg_Q (some .int) G La s.heap.size (sg_PI La s0 Q)) args s 0 0 (sg_A La s.heap.size)) 1 G (sg_A La s.heap.size) La s0 0 0 0 [(0, sg_r 64)] []
  refine gw_aload_n F 0 rfl rfl (by decide) dX12_bends_0 ?_
  refine gw_get7 F (so_64 hst) (by decide) rfl sg_lay_RX12 (j := 14) (by decide) (o1 := 66) (by first | rfl | omega) rfl (host := "") (.inl kw_970) dX12_bends_1 (fun h1 => ?_)
  refine gw_sipush F rfl dX12_bends_4 ?_
  refine gw_iald F (sa_66 hst) (by decide) (by decide) dX12_bends_7 (fun h2 => ?_)
  exact gr_PI F h2 hf (by decide) (by decide) dX12_bends_8

theorem dX12_isIn_0 : decode cX12_isIn 0 = .ok (.iload_n 0, 1) := by decide +kernel
theorem dX12_isIn_1 : decode cX12_isIn 1 = .ok (.iload_n 1, 1) := by decide +kernel
theorem dX12_isIn_2 : decode cX12_isIn 2 = .ok (.if_icmp .lt 12, 3) := by decide +kernel
theorem dX12_isIn_5 : decode cX12_isIn 5 = .ok (.iload_n 0, 1) := by decide +kernel
theorem dX12_isIn_6 : decode cX12_isIn 6 = .ok (.iload_n 2, 1) := by decide +kernel
theorem dX12_isIn_7 : decode cX12_isIn 7 = .ok (.if_icmp .gt 7, 3) := by decide +kernel
theorem dX12_isIn_10 : decode cX12_isIn 10 = .ok (.iconst 1, 1) := by decide +kernel
theorem dX12_isIn_11 : decode cX12_isIn 11 = .ok (.goto 4, 3) := by decide +kernel
theorem dX12_isIn_14 : decode cX12_isIn 14 = .ok (.iconst 0, 1) := by decide +kernel
theorem dX12_isIn_15 : decode cX12_isIn 15 = .ok (.ireturn, 1) := by decide +kernel
theorem hcX12_isIn : yX12_isIn.cls ≠ "java/lang/invoke/MethodHandle" ∧ yX12_isIn.cls ≠ "java/lang/invoke/VarHandle" ∧ (parseMethodDescriptor yX12_isIn.desc).map (fun d => d.parameters.length) = some 3 := ⟨by decide +kernel, by decide +kernel, by decide +kernel⟩
def fX12_isIn (x0 : Int) (x1 : Int) (x2 : Int) (Q : Int → Prop) : Prop := ((x0 < x1 → Q 0) ∧ (¬ (x0 < x1) → ((x2 < x0 → Q 0) ∧ (¬ (x2 < x0) → Q 1))))
set_option maxHeartbeats 4000000 in
set_option maxRecDepth 100000 in
theorem CX12_isIn {l : Launch} {G : sg_G} {La : sg_L} {s0 : sg_M} {x0 : Int} (r0 : sg_R x0) {x1 : Int} (r1 : sg_R x1) {x2 : Int} (r2 : sg_R x2) {Q : Int → Prop} (hf : fX12_isIn x0 x1 x2 Q) : sg_C l G yX12_isIn cX12_isIn 3 (some .boolean) 1 0 0 La s0 [sg_i x0, sg_i x1, sg_i x2] (sg_PZ La s0 Q) := by
  refine sg_body (by decide +kernel) (Nat.le_of_ble_eq_true rfl) ?_
  intro p e s m args below meth c F hnm
  unfold fX12_isIn at hf
  show sg_W p l e (sg_rm 1 0 0) s m args below meth c (MQ below (sg_Q (some .boolean) G La s.heap.size (sg_PZ La s0 Q)) args s 0 0 (sg_A La s.heap.size)) 3 G (sg_A La s.heap.size) La s0 0 0 0 [(0, sg_i x0), (1, sg_i x1), (2, sg_i x2)] []
  refine gw_iload_n F 0 rfl rfl dX12_isIn_0 ?_
  refine gw_iload_n F 1 rfl rfl dX12_isIn_1 ?_
  refine gw_icmp_lt F (tgt := 14) dX12_isIn_2 (by decide) r0 r1 (fun c1 => ?_) (fun c1 => ?_)
  · have hf := hf.1 c1
    refine gw_iconst F dX12_isIn_14 ?_
    exact gr_PZ F (by decide) hf (by decide) (by decide) dX12_isIn_15
  · have hf := hf.2 c1
    refine gw_iload_n F 0 rfl rfl dX12_isIn_5 ?_
    refine gw_iload_n F 2 rfl rfl dX12_isIn_6 ?_
    refine gw_icmp_gt F (tgt := 14) dX12_isIn_7 (by decide) r0 r2 (fun c2 => ?_) (fun c2 => ?_)
    · have hf := hf.1 c2
      refine gw_iconst F dX12_isIn_14 ?_
      exact gr_PZ F (by decide) hf (by decide) (by decide) dX12_isIn_15
    · have hf := hf.2 c2
      refine gw_iconst F dX12_isIn_10 ?_
      refine gw_goto F (tgt := 15) dX12_isIn_11 (by decide) ?_
      exact gr_PZ F (by decide) hf (by decide) (by decide) dX12_isIn_15

theorem dX12_size_0 : decode cX12_size 0 = .ok (.iload_n 0, 1) := by decide +kernel
theorem dX12_size_1 : decode cX12_size 1 = .ok (.ifCond .ge 8, 3) := by decide +kernel
theorem dX12_size_4 : decode cX12_size 4 = .ok (.iload_n 0, 1) := by decide +kernel
theorem dX12_size_5 : decode cX12_size 5 = .ok (.ineg, 1) := by decide +kernel
theorem dX12_size_6 : decode cX12_size 6 = .ok (.goto 4, 3) := by decide +kernel
theorem dX12_size_9 : decode cX12_size 9 = .ok (.iload_n 0, 1) := by decide +kernel
theorem dX12_size_10 : decode cX12_size 10 = .ok (.ireturn, 1) := by decide +kernel
theorem hcX12_size : yX12_size.cls ≠ "java/lang/invoke/MethodHandle" ∧ yX12_size.cls ≠ "java/lang/invoke/VarHandle" ∧ (parseMethodDescriptor yX12_size.desc).map (fun d => d.parameters.length) = some 1 := ⟨by decide +kernel, by decide +kernel, by decide +kernel⟩
def fX12_size (x0 : Int) (Q : Int → Prop) : Prop := ((0 ≤ x0 → Q x0) ∧ (¬ (0 ≤ x0) → sg_R (-x0) ∧ Q (-x0)))
set_option maxHeartbeats 4000000 in
set_option maxRecDepth 100000 in
theorem CX12_size {l : Launch} {G : sg_G} {La : sg_L} {s0 : sg_M} {x0 : Int} (r0 : sg_R x0) {Q : Int → Prop} (hf : fX12_size x0 Q) : sg_C l G yX12_size cX12_size 1 (some .int) 1 0 0 La s0 [sg_i x0] (sg_PI La s0 Q) := by
  refine sg_body (by decide +kernel) (Nat.le_of_ble_eq_true rfl) ?_
  intro p e s m args below meth c F hnm
  unfold fX12_size at hf
  show sg_W p l e (sg_rm 1 0 0) s m args below meth c (MQ below (sg_Q (some .int) G La s.heap.size (sg_PI La s0 Q)) args s 0 0 (sg_A La s.heap.size)) 1 G (sg_A La s.heap.size) La s0 0 0 0 [(0, sg_i x0)] []
  refine gw_iload_n F 0 rfl rfl dX12_size_0 ?_
  refine gw_if_ge F (tgt := 9) dX12_size_1 (by decide) r0 (fun c1 => ?_) (fun c1 => ?_)
  · have hf := hf.1 c1
    refine gw_iload_n F 0 rfl rfl dX12_size_9 ?_
    exact gr_PI F r0 hf (by decide) (by decide) dX12_size_10
  · have hf := hf.2 c1
    refine gw_iload_n F 0 rfl rfl dX12_size_4 ?_
    refine gw_ineg F rfl dX12_size_5 ?_
    refine gw_goto F (tgt := 10) dX12_size_6 (by decide) ?_
    obtain ⟨g2, hf⟩ := hf
    exact gr_PI F g2 hf (by decide) (by decide) dX12_size_10

theorem dX12_isNear_0 : decode cX12_isNear 0 = .ok (.iload_n 1, 1) := by decide +kernel
theorem dX12_isNear_1 : decode cX12_isNear 1 = .ok (.ifCond .le 17, 3) := by decide +kernel
theorem dX12_isNear_4 : decode cX12_isNear 4 = .ok (.iload_n 1, 1) := by decide +kernel
theorem dX12_isNear_5 : decode cX12_isNear 5 = .ok (.iload_n 2, 1) := by decide +kernel
theorem dX12_isNear_6 : decode cX12_isNear 6 = .ok (.isub, 1) := by decide +kernel
theorem dX12_isNear_7 : decode cX12_isNear 7 = .ok (.invokestatic 335, 3) := by decide +kernel
theorem dX12_isNear_10 : decode cX12_isNear 10 = .ok (.iload_n 3, 1) := by decide +kernel
theorem dX12_isNear_11 : decode cX12_isNear 11 = .ok (.if_icmp .gt 7, 3) := by decide +kernel
theorem dX12_isNear_14 : decode cX12_isNear 14 = .ok (.iconst 1, 1) := by decide +kernel
theorem dX12_isNear_15 : decode cX12_isNear 15 = .ok (.goto 4, 3) := by decide +kernel
theorem dX12_isNear_18 : decode cX12_isNear 18 = .ok (.iconst 0, 1) := by decide +kernel
theorem dX12_isNear_19 : decode cX12_isNear 19 = .ok (.ireturn, 1) := by decide +kernel
theorem hcX12_isNear : yX12_isNear.cls ≠ "java/lang/invoke/MethodHandle" ∧ yX12_isNear.cls ≠ "java/lang/invoke/VarHandle" ∧ (parseMethodDescriptor yX12_isNear.desc).map (fun d => d.parameters.length) = some 3 := ⟨by decide +kernel, by decide +kernel, by decide +kernel⟩
def fX12_isNear (x1 : Int) (x2 : Int) (x3 : Int) (Q : Int → Prop) : Prop := ((x1 ≤ 0 → Q 0) ∧ (¬ (x1 ≤ 0) → sg_R (x1 - x2) ∧ fX12_size (x1 - x2) (fun u3 => ((x3 < u3 → Q 0) ∧ (¬ (x3 < u3) → Q 1)))))
set_option maxHeartbeats 4000000 in
set_option maxRecDepth 100000 in
theorem CX12_isNear {l : Launch} {G : sg_G} {La : sg_L} {s0 : sg_M} (hst : sg_St La) {x1 : Int} (r1 : sg_R x1) {x2 : Int} (r2 : sg_R x2) {x3 : Int} (r3 : sg_R x3) {Q : Int → Prop} (hf : fX12_isNear x1 x2 x3 Q) : sg_C l G yX12_isNear cX12_isNear 4 (some .boolean) 2 0 0 La s0 [sg_r 64, sg_i x1, sg_i x2, sg_i x3] (sg_PZ La s0 Q) := by
  refine sg_body (by decide +kernel) (Nat.le_of_ble_eq_true rfl) ?_
  intro p e s m args below meth c F hnm
  unfold fX12_isNear at hf
  show sg_W p l e (sg_rm 2 0 0) s m args below meth c (MQ below (sg_Q (some .boolean) G La s.heap.size (sg_PZ La s0 Q)) args s 0 0 (sg_A La s.heap.size)) 4 G (sg_A La s.heap.size) La s0 0 0 0 [(0, sg_r 64), (1, sg_i x1), (2, sg_i x2), (3, sg_i x3)] []
  refine gw_iload_n F 1 rfl rfl dX12_isNear_0 ?_
  refine gw_if_le F (tgt := 18) dX12_isNear_1 (by decide) r1 (fun c1 => ?_) (fun c1 => ?_)
  · have hf := hf.1 c1
    refine gw_iconst F dX12_isNear_18 ?_
    exact gr_PZ F (by decide) hf (by decide) (by decide) dX12_isNear_19
  · have hf := hf.2 c1
    refine gw_iload_n F 1 rfl rfl dX12_isNear_4 ?_
    refine gw_iload_n F 2 rfl rfl dX12_isNear_5 ?_
    refine gw_isub F rfl dX12_isNear_6 ?_
    obtain ⟨g2, hf⟩ := hf
    refine gk_PI F (gc_S F (S := []) (As := [sg_i (x1 - x2)]) (CX12_size g2 hf) kw_1243 kw_103 kw_1241 kw_1242 hcX12_size ⟨by decide, by decide⟩ rfl rfl (Nat.le_of_ble_eq_true rfl) ⟨by decide, by decide⟩ dX12_isNear_7) (fun u3 h4 hf => ?_)
    refine gw_iload_n F 3 rfl rfl dX12_isNear_10 ?_
    refine gw_icmp_gt F (tgt := 18) dX12_isNear_11 (by decide) h4 r3 (fun c5 => ?_) (fun c5 => ?_)
    · have hf := hf.1 c5
      refine gw_iconst F dX12_isNear_18 ?_
      exact gr_PZ F (by decide) hf (by decide) (by decide) dX12_isNear_19
    · have hf := hf.2 c5
      refine gw_iconst F dX12_isNear_14 ?_
      refine gw_goto F (tgt := 19) dX12_isNear_15 (by decide) ?_
      exact gr_PZ F (by decide) hf (by decide) (by decide) dX12_isNear_19

theorem dX12_lay_0 : decode cX12_lay 0 = .ok (.aload_n 0, 1) := by decide +kernel
theorem dX12_lay_1 : decode cX12_lay 1 = .ok (.getfield 182, 3) := by decide +kernel
theorem dX12_lay_4 : decode cX12_lay 4 = .ok (.ifCond .eq 4, 3) := by decide +kernel
theorem dX12_lay_7 : decode cX12_lay 7 = .ok (.return_, 1) := by decide +kernel
theorem dX12_lay_8 : decode cX12_lay 8 = .ok (.aload_n 0, 1) := by decide +kernel
theorem dX12_lay_9 : decode cX12_lay 9 = .ok (.iconst 1, 1) := by decide +kernel
theorem dX12_lay_10 : decode cX12_lay 10 = .ok (.putfield 182, 3) := by decide +kernel
theorem dX12_lay_13 : decode cX12_lay 13 = .ok (.aload_n 0, 1) := by decide +kernel
theorem dX12_lay_14 : decode cX12_lay 14 = .ok (.getfield 13, 3) := by decide +kernel
theorem dX12_lay_17 : decode cX12_lay 17 = .ok (.iconst 0, 1) := by decide +kernel
theorem dX12_lay_18 : decode cX12_lay 18 = .ok (.iconst 3, 1) := by decide +kernel
theorem dX12_lay_19 : decode cX12_lay 19 = .ok (.iastore, 1) := by decide +kernel
theorem dX12_lay_20 : decode cX12_lay 20 = .ok (.aload_n 0, 1) := by decide +kernel
theorem dX12_lay_21 : decode cX12_lay 21 = .ok (.getfield 13, 3) := by decide +kernel
theorem dX12_lay_24 : decode cX12_lay 24 = .ok (.iconst 1, 1) := by decide +kernel
theorem dX12_lay_25 : decode cX12_lay 25 = .ok (.sipush 300, 3) := by decide +kernel
theorem dX12_lay_28 : decode cX12_lay 28 = .ok (.iastore, 1) := by decide +kernel
theorem dX12_lay_29 : decode cX12_lay 29 = .ok (.aload_n 0, 1) := by decide +kernel
theorem dX12_lay_30 : decode cX12_lay 30 = .ok (.getfield 13, 3) := by decide +kernel
theorem dX12_lay_33 : decode cX12_lay 33 = .ok (.iconst 2, 1) := by decide +kernel
theorem dX12_lay_34 : decode cX12_lay 34 = .ok (.sipush 2000, 3) := by decide +kernel
theorem dX12_lay_37 : decode cX12_lay 37 = .ok (.iastore, 1) := by decide +kernel
theorem dX12_lay_38 : decode cX12_lay 38 = .ok (.iconst 0, 1) := by decide +kernel
theorem dX12_lay_39 : decode cX12_lay 39 = .ok (.istore_n 1, 1) := by decide +kernel
theorem dX12_lay_40 : decode cX12_lay 40 = .ok (.iload_n 1, 1) := by decide +kernel
theorem dX12_lay_41 : decode cX12_lay 41 = .ok (.iconst 3, 1) := by decide +kernel
theorem dX12_lay_42 : decode cX12_lay 42 = .ok (.if_icmp .ge 38, 3) := by decide +kernel
theorem dX12_lay_45 : decode cX12_lay 45 = .ok (.aload_n 0, 1) := by decide +kernel
theorem dX12_lay_46 : decode cX12_lay 46 = .ok (.getfield 13, 3) := by decide +kernel
theorem dX12_lay_49 : decode cX12_lay 49 = .ok (.bipush 10, 2) := by decide +kernel
theorem dX12_lay_51 : decode cX12_lay 51 = .ok (.iconst 4, 1) := by decide +kernel
theorem dX12_lay_52 : decode cX12_lay 52 = .ok (.iload_n 1, 1) := by decide +kernel
theorem dX12_lay_53 : decode cX12_lay 53 = .ok (.imul, 1) := by decide +kernel
theorem dX12_lay_54 : decode cX12_lay 54 = .ok (.iadd, 1) := by decide +kernel
theorem dX12_lay_55 : decode cX12_lay 55 = .ok (.iconst 0, 1) := by decide +kernel
theorem dX12_lay_56 : decode cX12_lay 56 = .ok (.iadd, 1) := by decide +kernel
theorem dX12_lay_57 : decode cX12_lay 57 = .ok (.bipush 30, 2) := by decide +kernel
theorem dX12_lay_59 : decode cX12_lay 59 = .ok (.iastore, 1) := by decide +kernel
theorem dX12_lay_60 : decode cX12_lay 60 = .ok (.aload_n 0, 1) := by decide +kernel
theorem dX12_lay_61 : decode cX12_lay 61 = .ok (.getfield 13, 3) := by decide +kernel
theorem dX12_lay_64 : decode cX12_lay 64 = .ok (.bipush 10, 2) := by decide +kernel
theorem dX12_lay_66 : decode cX12_lay 66 = .ok (.iconst 4, 1) := by decide +kernel
theorem dX12_lay_67 : decode cX12_lay 67 = .ok (.iload_n 1, 1) := by decide +kernel
theorem dX12_lay_68 : decode cX12_lay 68 = .ok (.imul, 1) := by decide +kernel
theorem dX12_lay_69 : decode cX12_lay 69 = .ok (.iadd, 1) := by decide +kernel
theorem dX12_lay_70 : decode cX12_lay 70 = .ok (.iconst 1, 1) := by decide +kernel
theorem dX12_lay_71 : decode cX12_lay 71 = .ok (.iadd, 1) := by decide +kernel
theorem dX12_lay_72 : decode cX12_lay 72 = .ok (.iconst 5, 1) := by decide +kernel
theorem dX12_lay_73 : decode cX12_lay 73 = .ok (.iastore, 1) := by decide +kernel
theorem dX12_lay_74 : decode cX12_lay 74 = .ok (.iinc 1 1, 3) := by decide +kernel
theorem dX12_lay_77 : decode cX12_lay 77 = .ok (.goto (-37), 3) := by decide +kernel
theorem dX12_lay_80 : decode cX12_lay 80 = .ok (.return_, 1) := by decide +kernel
theorem hcX12_lay : yX12_lay.cls ≠ "java/lang/invoke/MethodHandle" ∧ yX12_lay.cls ≠ "java/lang/invoke/VarHandle" ∧ (parseMethodDescriptor yX12_lay.desc).map (fun d => d.parameters.length) = some 0 := ⟨by decide +kernel, by decide +kernel, by decide +kernel⟩
def fX12_lay_L40  (Q : sg_M → Prop) : Nat → sg_M → Int → Prop
  | 0, _, _ => False
  | n_40 + 1, s_40, x1_40 => ((3 ≤ x1_40 → Q s_40) ∧ (¬ (3 ≤ x1_40) → (0 ≤ ((10 + (4 * x1_40)) + 0) ∧ ((10 + (4 * x1_40)) + 0) < 2040) ∧ ∀ s17 : sg_M, s17 = sg_up s_40 66 ((10 + (4 * x1_40)) + 0) 30 → (0 ≤ ((10 + (4 * x1_40)) + 1) ∧ ((10 + (4 * x1_40)) + 1) < 2040) ∧ ∀ s21 : sg_M, s21 = sg_up s17 66 ((10 + (4 * x1_40)) + 1) 5 → sg_R (x1_40 + 1) ∧ (fX12_lay_L40  Q n_40) s21 (x1_40 + 1)))
def fX12_lay (s0 : sg_M) (Q : sg_M → Prop) : Prop := (((s0 64 20) = 0 → ∀ s3 : sg_M, s3 = sg_up s0 64 20 1 → ∀ s6 : sg_M, s6 = sg_up s3 66 0 3 → ∀ s9 : sg_M, s9 = sg_up s6 66 1 300 → ∀ s12 : sg_M, s12 = sg_up s9 66 2 2000 → (∃ n24 : Nat, fX12_lay_L40  Q n24 s12 0)) ∧ (¬ ((s0 64 20) = 0) → Q s0))
set_option maxHeartbeats 4000000 in
set_option maxRecDepth 100000 in
theorem CX12_lay {l : Launch} {G : sg_G} {La : sg_L} {s0 : sg_M} (hst : sg_St La) {Q : sg_M → Prop} (hf : fX12_lay s0 Q) : sg_C l G yX12_lay cX12_lay 2 (none) 1 0 0 La s0 [sg_r 64] (sg_HV La Q) := by
  refine sg_body (by decide +kernel) (Nat.le_of_ble_eq_true rfl) ?_
  intro p e s m args below meth c F hnm
  unfold fX12_lay at hf
  show sg_W p l e (sg_rm 1 0 0) s m args below meth c (MQ below (sg_Q (none) G La s.heap.size (sg_HV La Q)) args s 0 0 (sg_A La s.heap.size)) 2 G (sg_A La s.heap.size) La s0 0 0 0 [(0, sg_r 64)] []
  refine gw_aload_n F 0 rfl rfl (by decide) dX12_lay_0 ?_
  refine gw_get1 F (so_64 hst) (by decide) rfl sg_lay_RX12 (j := 20) (by decide) rfl (host := "") (.inl kw_976) dX12_lay_1 (fun h1 => ?_)
  refine gw_if_eq F (tgt := 8) dX12_lay_4 (by decide) (sg_B_R h1) (fun c2 => ?_) (fun c2 => ?_)
  · have hf := hf.1 c2
    refine gw_aload_n F 0 rfl rfl (by decide) dX12_lay_8 ?_
    refine gw_iconst F dX12_lay_9 ?_
    obtain ⟨s3, e4⟩ : ∃ z : sg_M, z = sg_up s0 64 20 1 := ⟨_, rfl⟩
    have hf := hf s3 e4
    refine gw_put1 F (so_64 hst) (by decide) rfl sg_lay_RX12 (j := 20) (by decide) (by decide) e4 tyX12_ok nmX12 rfl (tyX12_ok 20 (by decide)) rfl (host := "") (.inl kw_976) dX12_lay_10 ?_
    refine gw_aload_n F 0 rfl rfl (by decide) dX12_lay_13 ?_
    refine gw_get7 F (so_64 hst) (by decide) rfl sg_lay_RX12 (j := 14) (by decide) (o1 := 66) (by first | rfl | omega) rfl (host := "") (.inl kw_970) dX12_lay_14 (fun h5 => ?_)
    refine gw_iconst F dX12_lay_17 ?_
    refine gw_iconst F dX12_lay_18 ?_
    obtain ⟨s6, e7⟩ : ∃ z : sg_M, z = sg_up s3 66 0 3 := ⟨_, rfl⟩
    have hf := hf s6 e7
    refine gw_iast F (sa_66 hst) (by decide) (by decide) (by decide) e7 dX12_lay_19 ?_
    refine gw_aload_n F 0 rfl rfl (by decide) dX12_lay_20 ?_
    refine gw_get7 F (so_64 hst) (by decide) rfl sg_lay_RX12 (j := 14) (by decide) (o1 := 66) (by first | rfl | omega) rfl (host := "") (.inl kw_970) dX12_lay_21 (fun h8 => ?_)
    refine gw_iconst F dX12_lay_24 ?_
    refine gw_sipush F rfl dX12_lay_25 ?_
    obtain ⟨s9, e10⟩ : ∃ z : sg_M, z = sg_up s6 66 1 300 := ⟨_, rfl⟩
    have hf := hf s9 e10
    refine gw_iast F (sa_66 hst) (by decide) (by decide) (by decide) e10 dX12_lay_28 ?_
    refine gw_aload_n F 0 rfl rfl (by decide) dX12_lay_29 ?_
    refine gw_get7 F (so_64 hst) (by decide) rfl sg_lay_RX12 (j := 14) (by decide) (o1 := 66) (by first | rfl | omega) rfl (host := "") (.inl kw_970) dX12_lay_30 (fun h11 => ?_)
    refine gw_iconst F dX12_lay_33 ?_
    refine gw_sipush F rfl dX12_lay_34 ?_
    obtain ⟨s12, e13⟩ : ∃ z : sg_M, z = sg_up s9 66 2 2000 := ⟨_, rfl⟩
    have hf := hf s12 e13
    refine gw_iast F (sa_66 hst) (by decide) (by decide) (by decide) e13 dX12_lay_37 ?_
    refine gw_iconst F dX12_lay_38 ?_
    refine gw_istore_n F rfl (by decide) rfl dX12_lay_39 ?_
    have L40 : ∀ n_40 : Nat, ∀ (s_40 : sg_M) (x1_40 : Int), sg_R x1_40 → fX12_lay_L40  Q n_40 s_40 x1_40 → sg_W p l e (sg_rm 1 0 0) s m args below meth c (MQ below (sg_Q (none) G La s.heap.size (sg_HV La Q)) args s 0 0 (sg_A La s.heap.size)) 2 G (sg_A La s.heap.size) La s_40 0 0 40 [(0, sg_r 64), (1, sg_i x1_40)] [] := by
      intro n_40
      induction n_40 with
      | zero => intro s_40 x1_40 r1_40 hf; exact hf.elim
      | succ n_40 ih =>
        intro s_40 x1_40 r1_40 hf
        unfold fX12_lay_L40 at hf
        refine gw_iload_n F 1 rfl rfl dX12_lay_40 ?_
        refine gw_iconst F dX12_lay_41 ?_
        refine gw_icmp_ge F (tgt := 80) dX12_lay_42 (by decide) r1_40 (by decide) (fun c14 => ?_) (fun c14 => ?_)
        · have hf := hf.1 c14
          exact gr_HV F hf (by decide) (by decide) dX12_lay_80
        · have hf := hf.2 c14
          refine gw_aload_n F 0 rfl rfl (by decide) dX12_lay_45 ?_
          refine gw_get7 F (so_64 hst) (by decide) rfl sg_lay_RX12 (j := 14) (by decide) (o1 := 66) (by first | rfl | omega) rfl (host := "") (.inl kw_970) dX12_lay_46 (fun h15 => ?_)
          refine gw_bipush F rfl dX12_lay_49 ?_
          refine gw_iconst F dX12_lay_51 ?_
          refine gw_iload_n F 1 rfl rfl dX12_lay_52 ?_
          refine gw_imul F rfl dX12_lay_53 ?_
          refine gw_iadd F rfl dX12_lay_54 ?_
          refine gw_iconst F dX12_lay_55 ?_
          refine gw_iadd F rfl dX12_lay_56 ?_
          refine gw_bipush F rfl dX12_lay_57 ?_
          obtain ⟨⟨b160, b161⟩, hf⟩ := hf
          obtain ⟨s17, e18⟩ : ∃ z : sg_M, z = sg_up s_40 66 ((10 + (4 * x1_40)) + 0) 30 := ⟨_, rfl⟩
          have hf := hf s17 e18
          refine gw_iast F (sa_66 hst) b160 b161 (by decide) e18 dX12_lay_59 ?_
          refine gw_aload_n F 0 rfl rfl (by decide) dX12_lay_60 ?_
          refine gw_get7 F (so_64 hst) (by decide) rfl sg_lay_RX12 (j := 14) (by decide) (o1 := 66) (by first | rfl | omega) rfl (host := "") (.inl kw_970) dX12_lay_61 (fun h19 => ?_)
          refine gw_bipush F rfl dX12_lay_64 ?_
          refine gw_iconst F dX12_lay_66 ?_
          refine gw_iload_n F 1 rfl rfl dX12_lay_67 ?_
          refine gw_imul F rfl dX12_lay_68 ?_
          refine gw_iadd F rfl dX12_lay_69 ?_
          refine gw_iconst F dX12_lay_70 ?_
          refine gw_iadd F rfl dX12_lay_71 ?_
          refine gw_iconst F dX12_lay_72 ?_
          obtain ⟨⟨b200, b201⟩, hf⟩ := hf
          obtain ⟨s21, e22⟩ : ∃ z : sg_M, z = sg_up s17 66 ((10 + (4 * x1_40)) + 1) 5 := ⟨_, rfl⟩
          have hf := hf s21 e22
          refine gw_iast F (sa_66 hst) b200 b201 (by decide) e22 dX12_lay_73 ?_
          refine gw_iinc F (z := (x1_40 + 1)) 1 rfl (by omega) (by decide) rfl dX12_lay_74 ?_
          refine gw_goto F (tgt := 40) dX12_lay_77 (by decide) ?_
          obtain ⟨g23, hf⟩ := hf
          refine gw_sub [1, 0] rfl ?_
          exact ih s21 (x1_40 + 1) g23 hf
    obtain ⟨n24, hf⟩ := hf
    refine gw_sub [1, 0] rfl ?_
    refine L40   n24 s12 0 (by decide) hf
  · have hf := hf.2 c2
    exact gr_HV F hf (by decide) (by decide) dX12_lay_7

theorem dX12_aOf_0 : decode cX12_aOf 0 = .ok (.aload_n 0, 1) := by decide +kernel
theorem dX12_aOf_1 : decode cX12_aOf 1 = .ok (.getfield 13, 3) := by decide +kernel
theorem dX12_aOf_4 : decode cX12_aOf 4 = .ok (.sipush 1702, 3) := by decide +kernel
theorem dX12_aOf_7 : decode cX12_aOf 7 = .ok (.iconst 2, 1) := by decide +kernel
theorem dX12_aOf_8 : decode cX12_aOf 8 = .ok (.iload_n 1, 1) := by decide +kernel
theorem dX12_aOf_9 : decode cX12_aOf 9 = .ok (.imul, 1) := by decide +kernel
theorem dX12_aOf_10 : decode cX12_aOf 10 = .ok (.iadd, 1) := by decide +kernel
theorem dX12_aOf_11 : decode cX12_aOf 11 = .ok (.iaload, 1) := by decide +kernel
theorem dX12_aOf_12 : decode cX12_aOf 12 = .ok (.ireturn, 1) := by decide +kernel
theorem hcX12_aOf : yX12_aOf.cls ≠ "java/lang/invoke/MethodHandle" ∧ yX12_aOf.cls ≠ "java/lang/invoke/VarHandle" ∧ (parseMethodDescriptor yX12_aOf.desc).map (fun d => d.parameters.length) = some 1 := ⟨by decide +kernel, by decide +kernel, by decide +kernel⟩
def fX12_aOf (s0 : sg_M) (x1 : Int) (Q : Int → Prop) : Prop := (0 ≤ (1702 + (2 * x1)) ∧ (1702 + (2 * x1)) < 2040) ∧ Q (s0 66 (1702 + (2 * x1)))
set_option maxHeartbeats 4000000 in
set_option maxRecDepth 100000 in
theorem CX12_aOf {l : Launch} {G : sg_G} {La : sg_L} {s0 : sg_M} (hst : sg_St La) {x1 : Int} (r1 : sg_R x1) {Q : Int → Prop} (hf : fX12_aOf s0 x1 Q) : sg_C l G yX12_aOf cX12_aOf 2 (some .int) 1 0 0 La s0 [sg_r 64, sg_i x1] (sg_PI La s0 Q) := by
  refine sg_body (by decide +kernel) (Nat.le_of_ble_eq_true rfl) ?_
  intro p e s m args below meth c F hnm
  unfold fX12_aOf at hf
  show sg_W p l e (sg_rm 1 0 0) s m args below meth c (MQ below (sg_Q (some .int) G La s.heap.size (sg_PI La s0 Q)) args s 0 0 (sg_A La s.heap.size)) 2 G (sg_A La s.heap.size) La s0 0 0 0 [(0, sg_r 64), (1, sg_i x1)] []
  refine gw_aload_n F 0 rfl rfl (by decide) dX12_aOf_0 ?_
  refine gw_get7 F (so_64 hst) (by decide) rfl sg_lay_RX12 (j := 14) (by decide) (o1 := 66) (by first | rfl | omega) rfl (host := "") (.inl kw_970) dX12_aOf_1 (fun h1 => ?_)
  refine gw_sipush F rfl dX12_aOf_4 ?_
  refine gw_iconst F dX12_aOf_7 ?_
  refine gw_iload_n F 1 rfl rfl dX12_aOf_8 ?_
  refine gw_imul F rfl dX12_aOf_9 ?_
  refine gw_iadd F rfl dX12_aOf_10 ?_
  obtain ⟨⟨b20, b21⟩, hf⟩ := hf
  refine gw_iald F (sa_66 hst) b20 b21 dX12_aOf_11 (fun h3 => ?_)
  exact gr_PI F h3 hf (by decide) (by decide) dX12_aOf_12

theorem dX12_bOf_0 : decode cX12_bOf 0 = .ok (.aload_n 0, 1) := by decide +kernel
theorem dX12_bOf_1 : decode cX12_bOf 1 = .ok (.getfield 13, 3) := by decide +kernel
theorem dX12_bOf_4 : decode cX12_bOf 4 = .ok (.sipush 1702, 3) := by decide +kernel
theorem dX12_bOf_7 : decode cX12_bOf 7 = .ok (.iconst 2, 1) := by decide +kernel
theorem dX12_bOf_8 : decode cX12_bOf 8 = .ok (.iload_n 1, 1) := by decide +kernel
theorem dX12_bOf_9 : decode cX12_bOf 9 = .ok (.imul, 1) := by decide +kernel
theorem dX12_bOf_10 : decode cX12_bOf 10 = .ok (.iadd, 1) := by decide +kernel
theorem dX12_bOf_11 : decode cX12_bOf 11 = .ok (.iconst 1, 1) := by decide +kernel
theorem dX12_bOf_12 : decode cX12_bOf 12 = .ok (.iadd, 1) := by decide +kernel
theorem dX12_bOf_13 : decode cX12_bOf 13 = .ok (.iaload, 1) := by decide +kernel
theorem dX12_bOf_14 : decode cX12_bOf 14 = .ok (.ireturn, 1) := by decide +kernel
theorem hcX12_bOf : yX12_bOf.cls ≠ "java/lang/invoke/MethodHandle" ∧ yX12_bOf.cls ≠ "java/lang/invoke/VarHandle" ∧ (parseMethodDescriptor yX12_bOf.desc).map (fun d => d.parameters.length) = some 1 := ⟨by decide +kernel, by decide +kernel, by decide +kernel⟩
def fX12_bOf (s0 : sg_M) (x1 : Int) (Q : Int → Prop) : Prop := (0 ≤ ((1702 + (2 * x1)) + 1) ∧ ((1702 + (2 * x1)) + 1) < 2040) ∧ Q (s0 66 ((1702 + (2 * x1)) + 1))
set_option maxHeartbeats 4000000 in
set_option maxRecDepth 100000 in
theorem CX12_bOf {l : Launch} {G : sg_G} {La : sg_L} {s0 : sg_M} (hst : sg_St La) {x1 : Int} (r1 : sg_R x1) {Q : Int → Prop} (hf : fX12_bOf s0 x1 Q) : sg_C l G yX12_bOf cX12_bOf 2 (some .int) 1 0 0 La s0 [sg_r 64, sg_i x1] (sg_PI La s0 Q) := by
  refine sg_body (by decide +kernel) (Nat.le_of_ble_eq_true rfl) ?_
  intro p e s m args below meth c F hnm
  unfold fX12_bOf at hf
  show sg_W p l e (sg_rm 1 0 0) s m args below meth c (MQ below (sg_Q (some .int) G La s.heap.size (sg_PI La s0 Q)) args s 0 0 (sg_A La s.heap.size)) 2 G (sg_A La s.heap.size) La s0 0 0 0 [(0, sg_r 64), (1, sg_i x1)] []
  refine gw_aload_n F 0 rfl rfl (by decide) dX12_bOf_0 ?_
  refine gw_get7 F (so_64 hst) (by decide) rfl sg_lay_RX12 (j := 14) (by decide) (o1 := 66) (by first | rfl | omega) rfl (host := "") (.inl kw_970) dX12_bOf_1 (fun h1 => ?_)
  refine gw_sipush F rfl dX12_bOf_4 ?_
  refine gw_iconst F dX12_bOf_7 ?_
  refine gw_iload_n F 1 rfl rfl dX12_bOf_8 ?_
  refine gw_imul F rfl dX12_bOf_9 ?_
  refine gw_iadd F rfl dX12_bOf_10 ?_
  refine gw_iconst F dX12_bOf_11 ?_
  refine gw_iadd F rfl dX12_bOf_12 ?_
  obtain ⟨⟨b20, b21⟩, hf⟩ := hf
  refine gw_iald F (sa_66 hst) b20 b21 dX12_bOf_13 (fun h3 => ?_)
  exact gr_PI F h3 hf (by decide) (by decide) dX12_bOf_14

theorem dX12_isShut_0 : decode cX12_isShut 0 = .ok (.aload_n 0, 1) := by decide +kernel
theorem dX12_isShut_1 : decode cX12_isShut 1 = .ok (.getfield 239, 3) := by decide +kernel
theorem dX12_isShut_4 : decode cX12_isShut 4 = .ok (.ifCond .le 20, 3) := by decide +kernel
theorem dX12_isShut_7 : decode cX12_isShut 7 = .ok (.aload_n 0, 1) := by decide +kernel
theorem dX12_isShut_8 : decode cX12_isShut 8 = .ok (.getfield 242, 3) := by decide +kernel
theorem dX12_isShut_11 : decode cX12_isShut 11 = .ok (.aload_n 0, 1) := by decide +kernel
theorem dX12_isShut_12 : decode cX12_isShut 12 = .ok (.getfield 212, 3) := by decide +kernel
theorem dX12_isShut_15 : decode cX12_isShut 15 = .ok (.iconst 1, 1) := by decide +kernel
theorem dX12_isShut_16 : decode cX12_isShut 16 = .ok (.isub, 1) := by decide +kernel
theorem dX12_isShut_17 : decode cX12_isShut 17 = .ok (.if_icmp .ge 7, 3) := by decide +kernel
theorem dX12_isShut_20 : decode cX12_isShut 20 = .ok (.iconst 1, 1) := by decide +kernel
theorem dX12_isShut_21 : decode cX12_isShut 21 = .ok (.goto 4, 3) := by decide +kernel
theorem dX12_isShut_24 : decode cX12_isShut 24 = .ok (.iconst 0, 1) := by decide +kernel
theorem dX12_isShut_25 : decode cX12_isShut 25 = .ok (.ireturn, 1) := by decide +kernel
theorem hcX12_isShut : yX12_isShut.cls ≠ "java/lang/invoke/MethodHandle" ∧ yX12_isShut.cls ≠ "java/lang/invoke/VarHandle" ∧ (parseMethodDescriptor yX12_isShut.desc).map (fun d => d.parameters.length) = some 0 := ⟨by decide +kernel, by decide +kernel, by decide +kernel⟩
def fX12_isShut (s0 : sg_M) (Q : Int → Prop) : Prop := (((s0 64 32) ≤ 0 → Q 0) ∧ (¬ ((s0 64 32) ≤ 0) → sg_R ((s0 64 27) - 1) ∧ ((((s0 64 27) - 1) ≤ (s0 64 33) → Q 0) ∧ (¬ (((s0 64 27) - 1) ≤ (s0 64 33)) → Q 1))))
set_option maxHeartbeats 4000000 in
set_option maxRecDepth 100000 in
theorem CX12_isShut {l : Launch} {G : sg_G} {La : sg_L} {s0 : sg_M} (hst : sg_St La) {Q : Int → Prop} (hf : fX12_isShut s0 Q) : sg_C l G yX12_isShut cX12_isShut 1 (some .boolean) 1 0 0 La s0 [sg_r 64] (sg_PZ La s0 Q) := by
  refine sg_body (by decide +kernel) (Nat.le_of_ble_eq_true rfl) ?_
  intro p e s m args below meth c F hnm
  unfold fX12_isShut at hf
  show sg_W p l e (sg_rm 1 0 0) s m args below meth c (MQ below (sg_Q (some .boolean) G La s.heap.size (sg_PZ La s0 Q)) args s 0 0 (sg_A La s.heap.size)) 1 G (sg_A La s.heap.size) La s0 0 0 0 [(0, sg_r 64)] []
  refine gw_aload_n F 0 rfl rfl (by decide) dX12_isShut_0 ?_
  refine gw_get0 F (so_64 hst) (by decide) rfl sg_lay_RX12 (j := 32) (by decide) rfl (host := "") (.inl kw_988) dX12_isShut_1 (fun h1 => ?_)
  refine gw_if_le F (tgt := 24) dX12_isShut_4 (by decide) h1 (fun c2 => ?_) (fun c2 => ?_)
  · have hf := hf.1 c2
    refine gw_iconst F dX12_isShut_24 ?_
    exact gr_PZ F (by decide) hf (by decide) (by decide) dX12_isShut_25
  · have hf := hf.2 c2
    refine gw_aload_n F 0 rfl rfl (by decide) dX12_isShut_7 ?_
    refine gw_get0 F (so_64 hst) (by decide) rfl sg_lay_RX12 (j := 33) (by decide) rfl (host := "") (.inl kw_989) dX12_isShut_8 (fun h3 => ?_)
    refine gw_aload_n F 0 rfl rfl (by decide) dX12_isShut_11 ?_
    refine gw_get0 F (so_64 hst) (by decide) rfl sg_lay_RX12 (j := 27) (by decide) rfl (host := "") (.inl kw_983) dX12_isShut_12 (fun h4 => ?_)
    refine gw_iconst F dX12_isShut_15 ?_
    refine gw_isub F rfl dX12_isShut_16 ?_
    obtain ⟨g5, hf⟩ := hf
    refine gw_icmp_ge F (tgt := 24) dX12_isShut_17 (by decide) h3 g5 (fun c6 => ?_) (fun c6 => ?_)
    · have hf := hf.1 c6
      refine gw_iconst F dX12_isShut_24 ?_
      exact gr_PZ F (by decide) hf (by decide) (by decide) dX12_isShut_25
    · have hf := hf.2 c6
      refine gw_iconst F dX12_isShut_20 ?_
      refine gw_goto F (tgt := 25) dX12_isShut_21 (by decide) ?_
      exact gr_PZ F (by decide) hf (by decide) (by decide) dX12_isShut_25

theorem dX12_isTwice_0 : decode cX12_isTwice 0 = .ok (.iconst 0, 1) := by decide +kernel
theorem dX12_isTwice_1 : decode cX12_isTwice 1 = .ok (.istore_n 2, 1) := by decide +kernel
theorem dX12_isTwice_2 : decode cX12_isTwice 2 = .ok (.iload_n 2, 1) := by decide +kernel
theorem dX12_isTwice_3 : decode cX12_isTwice 3 = .ok (.aload_n 0, 1) := by decide +kernel
theorem dX12_isTwice_4 : decode cX12_isTwice 4 = .ok (.getfield 226, 3) := by decide +kernel
theorem dX12_isTwice_7 : decode cX12_isTwice 7 = .ok (.if_icmp .ge 47, 3) := by decide +kernel
theorem dX12_isTwice_10 : decode cX12_isTwice 10 = .ok (.aload_n 0, 1) := by decide +kernel
theorem dX12_isTwice_11 : decode cX12_isTwice 11 = .ok (.getfield 41, 3) := by decide +kernel
theorem dX12_isTwice_14 : decode cX12_isTwice 14 = .ok (.iload_n 2, 1) := by decide +kernel
theorem dX12_isTwice_15 : decode cX12_isTwice 15 = .ok (.iaload, 1) := by decide +kernel
theorem dX12_isTwice_16 : decode cX12_isTwice 16 = .ok (.iload_n 1, 1) := by decide +kernel
theorem dX12_isTwice_17 : decode cX12_isTwice 17 = .ok (.if_icmp .eq 31, 3) := by decide +kernel
theorem dX12_isTwice_20 : decode cX12_isTwice 20 = .ok (.aload_n 0, 1) := by decide +kernel
theorem dX12_isTwice_21 : decode cX12_isTwice 21 = .ok (.getfield 41, 3) := by decide +kernel
theorem dX12_isTwice_24 : decode cX12_isTwice 24 = .ok (.iload_n 2, 1) := by decide +kernel
theorem dX12_isTwice_25 : decode cX12_isTwice 25 = .ok (.iaload, 1) := by decide +kernel
theorem dX12_isTwice_26 : decode cX12_isTwice 26 = .ok (.aload_n 0, 1) := by decide +kernel
theorem dX12_isTwice_27 : decode cX12_isTwice 27 = .ok (.getfield 239, 3) := by decide +kernel
theorem dX12_isTwice_30 : decode cX12_isTwice 30 = .ok (.if_icmp .lt 18, 3) := by decide +kernel
theorem dX12_isTwice_33 : decode cX12_isTwice 33 = .ok (.aload_n 0, 1) := by decide +kernel
theorem dX12_isTwice_34 : decode cX12_isTwice 34 = .ok (.getfield 41, 3) := by decide +kernel
theorem dX12_isTwice_37 : decode cX12_isTwice 37 = .ok (.iload_n 2, 1) := by decide +kernel
theorem dX12_isTwice_38 : decode cX12_isTwice 38 = .ok (.iaload, 1) := by decide +kernel
theorem dX12_isTwice_39 : decode cX12_isTwice 39 = .ok (.aload_n 0, 1) := by decide +kernel
theorem dX12_isTwice_40 : decode cX12_isTwice 40 = .ok (.getfield 242, 3) := by decide +kernel
theorem dX12_isTwice_43 : decode cX12_isTwice 43 = .ok (.if_icmp .gt 5, 3) := by decide +kernel
theorem dX12_isTwice_46 : decode cX12_isTwice 46 = .ok (.iconst 1, 1) := by decide +kernel
theorem dX12_isTwice_47 : decode cX12_isTwice 47 = .ok (.ireturn, 1) := by decide +kernel
theorem dX12_isTwice_48 : decode cX12_isTwice 48 = .ok (.iinc 2 1, 3) := by decide +kernel
theorem dX12_isTwice_51 : decode cX12_isTwice 51 = .ok (.goto (-49), 3) := by decide +kernel
theorem dX12_isTwice_54 : decode cX12_isTwice 54 = .ok (.iconst 0, 1) := by decide +kernel
theorem dX12_isTwice_55 : decode cX12_isTwice 55 = .ok (.ireturn, 1) := by decide +kernel
theorem hcX12_isTwice : yX12_isTwice.cls ≠ "java/lang/invoke/MethodHandle" ∧ yX12_isTwice.cls ≠ "java/lang/invoke/VarHandle" ∧ (parseMethodDescriptor yX12_isTwice.desc).map (fun d => d.parameters.length) = some 1 := ⟨by decide +kernel, by decide +kernel, by decide +kernel⟩
def fX12_isTwice_j48 (x2_2 : Int) (k2 : Int → Prop)  : Prop := sg_R (x2_2 + 1) ∧ k2 (x2_2 + 1)
def fX12_isTwice_L2 (s0 : sg_M) (x1 : Int) (Q : Int → Prop) : Nat → Int → Prop
  | 0, _ => False
  | n_2 + 1, x2_2 => (((s0 64 29) ≤ x2_2 → Q 0) ∧ (¬ ((s0 64 29) ≤ x2_2) → (0 ≤ x2_2 ∧ x2_2 < 60) ∧ (((s0 75 x2_2) = x1 → (fX12_isTwice_j48 x2_2 (fX12_isTwice_L2 s0 x1 Q n_2))) ∧ (¬ ((s0 75 x2_2) = x1) → (0 ≤ x2_2 ∧ x2_2 < 60) ∧ (((s0 75 x2_2) < (s0 64 32) → (fX12_isTwice_j48 x2_2 (fX12_isTwice_L2 s0 x1 Q n_2))) ∧ (¬ ((s0 75 x2_2) < (s0 64 32)) → (0 ≤ x2_2 ∧ x2_2 < 60) ∧ (((s0 64 33) < (s0 75 x2_2) → (fX12_isTwice_j48 x2_2 (fX12_isTwice_L2 s0 x1 Q n_2))) ∧ (¬ ((s0 64 33) < (s0 75 x2_2)) → Q 1))))))))
def fX12_isTwice (s0 : sg_M) (x1 : Int) (Q : Int → Prop) : Prop := (∃ n18 : Nat, fX12_isTwice_L2 s0 x1 Q n18 0)
set_option maxHeartbeats 4000000 in
set_option maxRecDepth 100000 in
theorem CX12_isTwice {l : Launch} {G : sg_G} {La : sg_L} {s0 : sg_M} (hst : sg_St La) {x1 : Int} (r1 : sg_R x1) {Q : Int → Prop} (hf : fX12_isTwice s0 x1 Q) : sg_C l G yX12_isTwice cX12_isTwice 3 (some .boolean) 1 0 0 La s0 [sg_r 64, sg_i x1] (sg_PZ La s0 Q) := by
  refine sg_body (by decide +kernel) (Nat.le_of_ble_eq_true rfl) ?_
  intro p e s m args below meth c F hnm
  unfold fX12_isTwice at hf
  show sg_W p l e (sg_rm 1 0 0) s m args below meth c (MQ below (sg_Q (some .boolean) G La s.heap.size (sg_PZ La s0 Q)) args s 0 0 (sg_A La s.heap.size)) 3 G (sg_A La s.heap.size) La s0 0 0 0 [(0, sg_r 64), (1, sg_i x1)] []
  refine gw_iconst F dX12_isTwice_0 ?_
  refine gw_istore_n F rfl (by decide) rfl dX12_isTwice_1 ?_
  have L2 : ∀ n_2 : Nat, ∀ (x2_2 : Int), sg_R x2_2 → fX12_isTwice_L2 s0 x1 Q n_2 x2_2 → sg_W p l e (sg_rm 1 0 0) s m args below meth c (MQ below (sg_Q (some .boolean) G La s.heap.size (sg_PZ La s0 Q)) args s 0 0 (sg_A La s.heap.size)) 3 G (sg_A La s.heap.size) La s0 0 0 2 [(0, sg_r 64), (1, sg_i x1), (2, sg_i x2_2)] [] := by
    intro n_2
    induction n_2 with
    | zero => intro x2_2 r2_2 hf; exact hf.elim
    | succ n_2 ih =>
      intro x2_2 r2_2 hf
      unfold fX12_isTwice_L2 at hf
      refine gw_iload_n F 2 rfl rfl dX12_isTwice_2 ?_
      refine gw_aload_n F 0 rfl rfl (by decide) dX12_isTwice_3 ?_
      refine gw_get0 F (so_64 hst) (by decide) rfl sg_lay_RX12 (j := 29) (by decide) rfl (host := "") (.inl kw_985) dX12_isTwice_4 (fun h1 => ?_)
      refine gw_icmp_ge F (tgt := 54) dX12_isTwice_7 (by decide) r2_2 h1 (fun c2 => ?_) (fun c2 => ?_)
      · have hf := hf.1 c2
        refine gw_iconst F dX12_isTwice_54 ?_
        exact gr_PZ F (by decide) hf (by decide) (by decide) dX12_isTwice_55
      · have hf := hf.2 c2
        refine gw_aload_n F 0 rfl rfl (by decide) dX12_isTwice_10 ?_
        refine gw_get7 F (so_64 hst) (by decide) rfl sg_lay_RX12 (j := 25) (by decide) (o1 := 75) (by first | rfl | omega) rfl (host := "") (.inl kw_981) dX12_isTwice_11 (fun h3 => ?_)
        refine gw_iload_n F 2 rfl rfl dX12_isTwice_14 ?_
        obtain ⟨⟨b40, b41⟩, hf⟩ := hf
        refine gw_iald F (sa_75 hst) b40 b41 dX12_isTwice_15 (fun h5 => ?_)
        refine gw_iload_n F 1 rfl rfl dX12_isTwice_16 ?_
        have J48 : (fX12_isTwice_j48 x2_2 (fX12_isTwice_L2 s0 x1 Q n_2)) → sg_W p l e (sg_rm 1 0 0) s m args below meth c (MQ below (sg_Q (some .boolean) G La s.heap.size (sg_PZ La s0 Q)) args s 0 0 (sg_A La s.heap.size)) 3 G (sg_A La s.heap.size) La s0 0 0 48 [(0, sg_r 64), (1, sg_i x1), (2, sg_i x2_2)] [] := by
          intro hf
          unfold fX12_isTwice_j48 at hf
          refine gw_iinc F (z := (x2_2 + 1)) 2 rfl (by omega) (by decide) rfl dX12_isTwice_48 ?_
          refine gw_goto F (tgt := 2) dX12_isTwice_51 (by decide) ?_
          obtain ⟨g6, hf⟩ := hf
          refine gw_sub [1, 2, 0] rfl ?_
          exact ih (x2_2 + 1) g6 hf
        refine gw_icmp_eq F (tgt := 48) dX12_isTwice_17 (by decide) h5 r1 (fun c7 => ?_) (fun c7 => ?_)
        · have hf := hf.1 c7
          refine gw_sub [0, 1, 2] rfl ?_
          exact J48  hf
        · have hf := hf.2 c7
          refine gw_aload_n F 0 rfl rfl (by decide) dX12_isTwice_20 ?_
          refine gw_get7 F (so_64 hst) (by decide) rfl sg_lay_RX12 (j := 25) (by decide) (o1 := 75) (by first | rfl | omega) rfl (host := "") (.inl kw_981) dX12_isTwice_21 (fun h8 => ?_)
          refine gw_iload_n F 2 rfl rfl dX12_isTwice_24 ?_
          obtain ⟨⟨b90, b91⟩, hf⟩ := hf
          refine gw_iald F (sa_75 hst) b90 b91 dX12_isTwice_25 (fun h10 => ?_)
          refine gw_aload_n F 0 rfl rfl (by decide) dX12_isTwice_26 ?_
          refine gw_get0 F (so_64 hst) (by decide) rfl sg_lay_RX12 (j := 32) (by decide) rfl (host := "") (.inl kw_988) dX12_isTwice_27 (fun h11 => ?_)
          refine gw_icmp_lt F (tgt := 48) dX12_isTwice_30 (by decide) h10 h11 (fun c12 => ?_) (fun c12 => ?_)
          · have hf := hf.1 c12
            refine gw_sub [0, 1, 2] rfl ?_
            exact J48  hf
          · have hf := hf.2 c12
            refine gw_aload_n F 0 rfl rfl (by decide) dX12_isTwice_33 ?_
            refine gw_get7 F (so_64 hst) (by decide) rfl sg_lay_RX12 (j := 25) (by decide) (o1 := 75) (by first | rfl | omega) rfl (host := "") (.inl kw_981) dX12_isTwice_34 (fun h13 => ?_)
            refine gw_iload_n F 2 rfl rfl dX12_isTwice_37 ?_
            obtain ⟨⟨b140, b141⟩, hf⟩ := hf
            refine gw_iald F (sa_75 hst) b140 b141 dX12_isTwice_38 (fun h15 => ?_)
            refine gw_aload_n F 0 rfl rfl (by decide) dX12_isTwice_39 ?_
            refine gw_get0 F (so_64 hst) (by decide) rfl sg_lay_RX12 (j := 33) (by decide) rfl (host := "") (.inl kw_989) dX12_isTwice_40 (fun h16 => ?_)
            refine gw_icmp_gt F (tgt := 48) dX12_isTwice_43 (by decide) h15 h16 (fun c17 => ?_) (fun c17 => ?_)
            · have hf := hf.1 c17
              refine gw_sub [0, 1, 2] rfl ?_
              exact J48  hf
            · have hf := hf.2 c17
              refine gw_iconst F dX12_isTwice_46 ?_
              exact gr_PZ F (by decide) hf (by decide) (by decide) dX12_isTwice_47
  obtain ⟨n18, hf⟩ := hf
  refine gw_sub [1, 2, 0] rfl ?_
  refine L2   n18 0 (by decide) hf

theorem dX12_isShutIn_0 : decode cX12_isShutIn 0 = .ok (.iload_n 1, 1) := by decide +kernel
theorem dX12_isShutIn_1 : decode cX12_isShutIn 1 = .ok (.ifCond .le 22, 3) := by decide +kernel
theorem dX12_isShutIn_4 : decode cX12_isShutIn 4 = .ok (.aload_n 0, 1) := by decide +kernel
theorem dX12_isShutIn_5 : decode cX12_isShutIn 5 = .ok (.getfield 35, 3) := by decide +kernel
theorem dX12_isShutIn_8 : decode cX12_isShutIn 8 = .ok (.iload_n 1, 1) := by decide +kernel
theorem dX12_isShutIn_9 : decode cX12_isShutIn 9 = .ok (.iaload, 1) := by decide +kernel
theorem dX12_isShutIn_10 : decode cX12_isShutIn 10 = .ok (.aload_n 0, 1) := by decide +kernel
theorem dX12_isShutIn_11 : decode cX12_isShutIn 11 = .ok (.getfield 35, 3) := by decide +kernel
theorem dX12_isShutIn_14 : decode cX12_isShutIn 14 = .ok (.iload_n 1, 1) := by decide +kernel
theorem dX12_isShutIn_15 : decode cX12_isShutIn 15 = .ok (.iconst 1, 1) := by decide +kernel
theorem dX12_isShutIn_16 : decode cX12_isShutIn 16 = .ok (.isub, 1) := by decide +kernel
theorem dX12_isShutIn_17 : decode cX12_isShutIn 17 = .ok (.iaload, 1) := by decide +kernel
theorem dX12_isShutIn_18 : decode cX12_isShutIn 18 = .ok (.if_icmp .lt 5, 3) := by decide +kernel
theorem dX12_isShutIn_21 : decode cX12_isShutIn 21 = .ok (.iconst 0, 1) := by decide +kernel
theorem dX12_isShutIn_22 : decode cX12_isShutIn 22 = .ok (.ireturn, 1) := by decide +kernel
theorem dX12_isShutIn_23 : decode cX12_isShutIn 23 = .ok (.iload_n 1, 1) := by decide +kernel
theorem dX12_isShutIn_24 : decode cX12_isShutIn 24 = .ok (.iconst 1, 1) := by decide +kernel
theorem dX12_isShutIn_25 : decode cX12_isShutIn 25 = .ok (.iadd, 1) := by decide +kernel
theorem dX12_isShutIn_26 : decode cX12_isShutIn 26 = .ok (.istore_n 2, 1) := by decide +kernel
theorem dX12_isShutIn_27 : decode cX12_isShutIn 27 = .ok (.iload_n 2, 1) := by decide +kernel
theorem dX12_isShutIn_28 : decode cX12_isShutIn 28 = .ok (.aload_n 0, 1) := by decide +kernel
theorem dX12_isShutIn_29 : decode cX12_isShutIn 29 = .ok (.getfield 212, 3) := by decide +kernel
theorem dX12_isShutIn_32 : decode cX12_isShutIn 32 = .ok (.if_icmp .ge 24, 3) := by decide +kernel
theorem dX12_isShutIn_35 : decode cX12_isShutIn 35 = .ok (.aload_n 0, 1) := by decide +kernel
theorem dX12_isShutIn_36 : decode cX12_isShutIn 36 = .ok (.getfield 35, 3) := by decide +kernel
theorem dX12_isShutIn_39 : decode cX12_isShutIn 39 = .ok (.iload_n 2, 1) := by decide +kernel
theorem dX12_isShutIn_40 : decode cX12_isShutIn 40 = .ok (.iaload, 1) := by decide +kernel
theorem dX12_isShutIn_41 : decode cX12_isShutIn 41 = .ok (.aload_n 0, 1) := by decide +kernel
theorem dX12_isShutIn_42 : decode cX12_isShutIn 42 = .ok (.getfield 35, 3) := by decide +kernel
theorem dX12_isShutIn_45 : decode cX12_isShutIn 45 = .ok (.iload_n 1, 1) := by decide +kernel
theorem dX12_isShutIn_46 : decode cX12_isShutIn 46 = .ok (.iaload, 1) := by decide +kernel
theorem dX12_isShutIn_47 : decode cX12_isShutIn 47 = .ok (.if_icmp .ne 9, 3) := by decide +kernel
theorem dX12_isShutIn_50 : decode cX12_isShutIn 50 = .ok (.iinc 2 1, 3) := by decide +kernel
theorem dX12_isShutIn_53 : decode cX12_isShutIn 53 = .ok (.goto (-26), 3) := by decide +kernel
theorem dX12_isShutIn_56 : decode cX12_isShutIn 56 = .ok (.iload_n 2, 1) := by decide +kernel
theorem dX12_isShutIn_57 : decode cX12_isShutIn 57 = .ok (.aload_n 0, 1) := by decide +kernel
theorem dX12_isShutIn_58 : decode cX12_isShutIn 58 = .ok (.getfield 212, 3) := by decide +kernel
theorem dX12_isShutIn_61 : decode cX12_isShutIn 61 = .ok (.if_icmp .eq 18, 3) := by decide +kernel
theorem dX12_isShutIn_64 : decode cX12_isShutIn 64 = .ok (.aload_n 0, 1) := by decide +kernel
theorem dX12_isShutIn_65 : decode cX12_isShutIn 65 = .ok (.getfield 35, 3) := by decide +kernel
theorem dX12_isShutIn_68 : decode cX12_isShutIn 68 = .ok (.iload_n 2, 1) := by decide +kernel
theorem dX12_isShutIn_69 : decode cX12_isShutIn 69 = .ok (.iaload, 1) := by decide +kernel
theorem dX12_isShutIn_70 : decode cX12_isShutIn 70 = .ok (.aload_n 0, 1) := by decide +kernel
theorem dX12_isShutIn_71 : decode cX12_isShutIn 71 = .ok (.getfield 35, 3) := by decide +kernel
theorem dX12_isShutIn_74 : decode cX12_isShutIn 74 = .ok (.iload_n 1, 1) := by decide +kernel
theorem dX12_isShutIn_75 : decode cX12_isShutIn 75 = .ok (.iaload, 1) := by decide +kernel
theorem dX12_isShutIn_76 : decode cX12_isShutIn 76 = .ok (.if_icmp .le 7, 3) := by decide +kernel
theorem dX12_isShutIn_79 : decode cX12_isShutIn 79 = .ok (.iconst 1, 1) := by decide +kernel
theorem dX12_isShutIn_80 : decode cX12_isShutIn 80 = .ok (.goto 4, 3) := by decide +kernel
theorem dX12_isShutIn_83 : decode cX12_isShutIn 83 = .ok (.iconst 0, 1) := by decide +kernel
theorem dX12_isShutIn_84 : decode cX12_isShutIn 84 = .ok (.ireturn, 1) := by decide +kernel
theorem hcX12_isShutIn : yX12_isShutIn.cls ≠ "java/lang/invoke/MethodHandle" ∧ yX12_isShutIn.cls ≠ "java/lang/invoke/VarHandle" ∧ (parseMethodDescriptor yX12_isShutIn.desc).map (fun d => d.parameters.length) = some 1 := ⟨by decide +kernel, by decide +kernel, by decide +kernel⟩
def fX12_isShutIn_L27 (s0 : sg_M) (x1 : Int) (k56 : Int → Prop) : Nat → Int → Prop
  | 0, _ => False
  | n_27 + 1, x2_27 => (((s0 64 27) ≤ x2_27 → k56 x2_27) ∧ (¬ ((s0 64 27) ≤ x2_27) → (0 ≤ x2_27 ∧ x2_27 < 60) ∧ (0 ≤ x1 ∧ x1 < 60) ∧ (((s0 73 x2_27) ≠ (s0 73 x1) → k56 x2_27) ∧ ((s0 73 x2_27) = (s0 73 x1) → sg_R (x2_27 + 1) ∧ (fX12_isShutIn_L27 s0 x1 k56 n_27) (x2_27 + 1)))))
def fX12_isShutIn_j23 (s0 : sg_M) (x1 : Int) (Q : Int → Prop)  : Prop := sg_R (x1 + 1) ∧ (∃ n12 : Nat, fX12_isShutIn_L27 s0 x1 (fun x2_56e27 => ((x2_56e27 = (s0 64 27) → Q 1) ∧ (¬ (x2_56e27 = (s0 64 27)) → (0 ≤ x2_56e27 ∧ x2_56e27 < 60) ∧ (0 ≤ x1 ∧ x1 < 60) ∧ (((s0 73 x2_56e27) ≤ (s0 73 x1) → Q 0) ∧ (¬ ((s0 73 x2_56e27) ≤ (s0 73 x1)) → Q 1))))) n12 (x1 + 1))
def fX12_isShutIn (s0 : sg_M) (x1 : Int) (Q : Int → Prop) : Prop := ((x1 ≤ 0 → (fX12_isShutIn_j23 s0 x1 Q)) ∧ (¬ (x1 ≤ 0) → (0 ≤ x1 ∧ x1 < 60) ∧ (0 ≤ (x1 - 1) ∧ (x1 - 1) < 60) ∧ (((s0 73 x1) < (s0 73 (x1 - 1)) → (fX12_isShutIn_j23 s0 x1 Q)) ∧ (¬ ((s0 73 x1) < (s0 73 (x1 - 1))) → Q 0))))
set_option maxHeartbeats 4000000 in
set_option maxRecDepth 100000 in
theorem CX12_isShutIn {l : Launch} {G : sg_G} {La : sg_L} {s0 : sg_M} (hst : sg_St La) {x1 : Int} (r1 : sg_R x1) {Q : Int → Prop} (hf : fX12_isShutIn s0 x1 Q) : sg_C l G yX12_isShutIn cX12_isShutIn 3 (some .boolean) 1 0 0 La s0 [sg_r 64, sg_i x1] (sg_PZ La s0 Q) := by
  refine sg_body (by decide +kernel) (Nat.le_of_ble_eq_true rfl) ?_
  intro p e s m args below meth c F hnm
  unfold fX12_isShutIn at hf
  show sg_W p l e (sg_rm 1 0 0) s m args below meth c (MQ below (sg_Q (some .boolean) G La s.heap.size (sg_PZ La s0 Q)) args s 0 0 (sg_A La s.heap.size)) 3 G (sg_A La s.heap.size) La s0 0 0 0 [(0, sg_r 64), (1, sg_i x1)] []
  refine gw_iload_n F 1 rfl rfl dX12_isShutIn_0 ?_
  have J23 : (fX12_isShutIn_j23 s0 x1 Q) → sg_W p l e (sg_rm 1 0 0) s m args below meth c (MQ below (sg_Q (some .boolean) G La s.heap.size (sg_PZ La s0 Q)) args s 0 0 (sg_A La s.heap.size)) 3 G (sg_A La s.heap.size) La s0 0 0 23 [(0, sg_r 64), (1, sg_i x1)] [] := by
    intro hf
    unfold fX12_isShutIn_j23 at hf
    refine gw_iload_n F 1 rfl rfl dX12_isShutIn_23 ?_
    refine gw_iconst F dX12_isShutIn_24 ?_
    refine gw_iadd F rfl dX12_isShutIn_25 ?_
    refine gw_istore_n F rfl (by decide) rfl dX12_isShutIn_26 ?_
    have L27 : ∀ (k56 : Int → Prop) (hk56 : ∀ (x2_56e27 : Int), sg_R x2_56e27 → k56 x2_56e27 → sg_W p l e (sg_rm 1 0 0) s m args below meth c (MQ below (sg_Q (some .boolean) G La s.heap.size (sg_PZ La s0 Q)) args s 0 0 (sg_A La s.heap.size)) 3 G (sg_A La s.heap.size) La s0 0 0 56 [(0, sg_r 64), (1, sg_i x1), (2, sg_i x2_56e27)] []), ∀ n_27 : Nat, ∀ (x2_27 : Int), sg_R x2_27 → fX12_isShutIn_L27 s0 x1 k56 n_27 x2_27 → sg_W p l e (sg_rm 1 0 0) s m args below meth c (MQ below (sg_Q (some .boolean) G La s.heap.size (sg_PZ La s0 Q)) args s 0 0 (sg_A La s.heap.size)) 3 G (sg_A La s.heap.size) La s0 0 0 27 [(0, sg_r 64), (1, sg_i x1), (2, sg_i x2_27)] [] := by
      intro k56 hk56 n_27
      induction n_27 with
      | zero => intro x2_27 r2_27 hf; exact hf.elim
      | succ n_27 ih =>
        intro x2_27 r2_27 hf
        unfold fX12_isShutIn_L27 at hf
        refine gw_iload_n F 2 rfl rfl dX12_isShutIn_27 ?_
        refine gw_aload_n F 0 rfl rfl (by decide) dX12_isShutIn_28 ?_
        refine gw_get0 F (so_64 hst) (by decide) rfl sg_lay_RX12 (j := 27) (by decide) rfl (host := "") (.inl kw_983) dX12_isShutIn_29 (fun h1 => ?_)
        refine gw_icmp_ge F (tgt := 56) dX12_isShutIn_32 (by decide) r2_27 h1 (fun c2 => ?_) (fun c2 => ?_)
        · have hf := hf.1 c2
          refine gw_sub [0, 1, 2] rfl ?_
          exact hk56 x2_27 r2_27 hf
        · have hf := hf.2 c2
          refine gw_aload_n F 0 rfl rfl (by decide) dX12_isShutIn_35 ?_
          refine gw_get7 F (so_64 hst) (by decide) rfl sg_lay_RX12 (j := 23) (by decide) (o1 := 73) (by first | rfl | omega) rfl (host := "") (.inl kw_979) dX12_isShutIn_36 (fun h3 => ?_)
          refine gw_iload_n F 2 rfl rfl dX12_isShutIn_39 ?_
          obtain ⟨⟨b40, b41⟩, hf⟩ := hf
          refine gw_iald F (sa_73 hst) b40 b41 dX12_isShutIn_40 (fun h5 => ?_)
          refine gw_aload_n F 0 rfl rfl (by decide) dX12_isShutIn_41 ?_
          refine gw_get7 F (so_64 hst) (by decide) rfl sg_lay_RX12 (j := 23) (by decide) (o1 := 73) (by first | rfl | omega) rfl (host := "") (.inl kw_979) dX12_isShutIn_42 (fun h6 => ?_)
          refine gw_iload_n F 1 rfl rfl dX12_isShutIn_45 ?_
          obtain ⟨⟨b70, b71⟩, hf⟩ := hf
          refine gw_iald F (sa_73 hst) b70 b71 dX12_isShutIn_46 (fun h8 => ?_)
          refine gw_icmp_ne F (tgt := 56) dX12_isShutIn_47 (by decide) h5 h8 (fun c9 => ?_) (fun c9 => ?_)
          · have hf := hf.1 c9
            refine gw_sub [0, 1, 2] rfl ?_
            exact hk56 x2_27 r2_27 hf
          · have hf := hf.2 c9
            refine gw_iinc F (z := (x2_27 + 1)) 2 rfl (by omega) (by decide) rfl dX12_isShutIn_50 ?_
            refine gw_goto F (tgt := 27) dX12_isShutIn_53 (by decide) ?_
            obtain ⟨g10, hf⟩ := hf
            refine gw_sub [1, 2, 0] rfl ?_
            exact ih (x2_27 + 1) g10 hf
    obtain ⟨g11, hf⟩ := hf
    obtain ⟨n12, hf⟩ := hf
    refine gw_sub [1, 2, 0] rfl ?_
    refine L27 _ (fun x2_56e27 r2_56e27 hf => ?_) n12 (x1 + 1) g11 hf
    refine gw_iload_n F 2 rfl rfl dX12_isShutIn_56 ?_
    refine gw_aload_n F 0 rfl rfl (by decide) dX12_isShutIn_57 ?_
    refine gw_get0 F (so_64 hst) (by decide) rfl sg_lay_RX12 (j := 27) (by decide) rfl (host := "") (.inl kw_983) dX12_isShutIn_58 (fun h13 => ?_)
    refine gw_icmp_eq F (tgt := 79) dX12_isShutIn_61 (by decide) r2_56e27 h13 (fun c14 => ?_) (fun c14 => ?_)
    · have hf := hf.1 c14
      refine gw_iconst F dX12_isShutIn_79 ?_
      refine gw_goto F (tgt := 84) dX12_isShutIn_80 (by decide) ?_
      exact gr_PZ F (by decide) hf (by decide) (by decide) dX12_isShutIn_84
    · have hf := hf.2 c14
      refine gw_aload_n F 0 rfl rfl (by decide) dX12_isShutIn_64 ?_
      refine gw_get7 F (so_64 hst) (by decide) rfl sg_lay_RX12 (j := 23) (by decide) (o1 := 73) (by first | rfl | omega) rfl (host := "") (.inl kw_979) dX12_isShutIn_65 (fun h15 => ?_)
      refine gw_iload_n F 2 rfl rfl dX12_isShutIn_68 ?_
      obtain ⟨⟨b160, b161⟩, hf⟩ := hf
      refine gw_iald F (sa_73 hst) b160 b161 dX12_isShutIn_69 (fun h17 => ?_)
      refine gw_aload_n F 0 rfl rfl (by decide) dX12_isShutIn_70 ?_
      refine gw_get7 F (so_64 hst) (by decide) rfl sg_lay_RX12 (j := 23) (by decide) (o1 := 73) (by first | rfl | omega) rfl (host := "") (.inl kw_979) dX12_isShutIn_71 (fun h18 => ?_)
      refine gw_iload_n F 1 rfl rfl dX12_isShutIn_74 ?_
      obtain ⟨⟨b190, b191⟩, hf⟩ := hf
      refine gw_iald F (sa_73 hst) b190 b191 dX12_isShutIn_75 (fun h20 => ?_)
      refine gw_icmp_le F (tgt := 83) dX12_isShutIn_76 (by decide) h17 h20 (fun c21 => ?_) (fun c21 => ?_)
      · have hf := hf.1 c21
        refine gw_iconst F dX12_isShutIn_83 ?_
        exact gr_PZ F (by decide) hf (by decide) (by decide) dX12_isShutIn_84
      · have hf := hf.2 c21
        refine gw_iconst F dX12_isShutIn_79 ?_
        refine gw_goto F (tgt := 84) dX12_isShutIn_80 (by decide) ?_
        exact gr_PZ F (by decide) hf (by decide) (by decide) dX12_isShutIn_84
  refine gw_if_le F (tgt := 23) dX12_isShutIn_1 (by decide) r1 (fun c22 => ?_) (fun c22 => ?_)
  · have hf := hf.1 c22
    refine gw_sub [0, 1] rfl ?_
    exact J23  hf
  · have hf := hf.2 c22
    refine gw_aload_n F 0 rfl rfl (by decide) dX12_isShutIn_4 ?_
    refine gw_get7 F (so_64 hst) (by decide) rfl sg_lay_RX12 (j := 23) (by decide) (o1 := 73) (by first | rfl | omega) rfl (host := "") (.inl kw_979) dX12_isShutIn_5 (fun h23 => ?_)
    refine gw_iload_n F 1 rfl rfl dX12_isShutIn_8 ?_
    obtain ⟨⟨b240, b241⟩, hf⟩ := hf
    refine gw_iald F (sa_73 hst) b240 b241 dX12_isShutIn_9 (fun h25 => ?_)
    refine gw_aload_n F 0 rfl rfl (by decide) dX12_isShutIn_10 ?_
    refine gw_get7 F (so_64 hst) (by decide) rfl sg_lay_RX12 (j := 23) (by decide) (o1 := 73) (by first | rfl | omega) rfl (host := "") (.inl kw_979) dX12_isShutIn_11 (fun h26 => ?_)
    refine gw_iload_n F 1 rfl rfl dX12_isShutIn_14 ?_
    refine gw_iconst F dX12_isShutIn_15 ?_
    refine gw_isub F rfl dX12_isShutIn_16 ?_
    obtain ⟨⟨b270, b271⟩, hf⟩ := hf
    refine gw_iald F (sa_73 hst) b270 b271 dX12_isShutIn_17 (fun h28 => ?_)
    refine gw_icmp_lt F (tgt := 23) dX12_isShutIn_18 (by decide) h25 h28 (fun c29 => ?_) (fun c29 => ?_)
    · have hf := hf.1 c29
      refine gw_sub [0, 1] rfl ?_
      exact J23  hf
    · have hf := hf.2 c29
      refine gw_iconst F dX12_isShutIn_21 ?_
      exact gr_PZ F (by decide) hf (by decide) (by decide) dX12_isShutIn_22

theorem dX12_stiffness_0 : decode cX12_stiffness 0 = .ok (.iload_n 1, 1) := by decide +kernel
theorem dX12_stiffness_1 : decode cX12_stiffness 1 = .ok (.bipush 10, 2) := by decide +kernel
theorem dX12_stiffness_3 : decode cX12_stiffness 3 = .ok (.iadd, 1) := by decide +kernel
theorem dX12_stiffness_4 : decode cX12_stiffness 4 = .ok (.iconst 4, 1) := by decide +kernel
theorem dX12_stiffness_5 : decode cX12_stiffness 5 = .ok (.iload_n 2, 1) := by decide +kernel
theorem dX12_stiffness_6 : decode cX12_stiffness 6 = .ok (.imul, 1) := by decide +kernel
theorem dX12_stiffness_7 : decode cX12_stiffness 7 = .ok (.iadd, 1) := by decide +kernel
theorem dX12_stiffness_8 : decode cX12_stiffness 8 = .ok (.istore 4, 2) := by decide +kernel
theorem dX12_stiffness_10 : decode cX12_stiffness 10 = .ok (.aload_n 0, 1) := by decide +kernel
theorem dX12_stiffness_11 : decode cX12_stiffness 11 = .ok (.getfield 13, 3) := by decide +kernel
theorem dX12_stiffness_14 : decode cX12_stiffness 14 = .ok (.iload 4, 2) := by decide +kernel
theorem dX12_stiffness_16 : decode cX12_stiffness 16 = .ok (.iconst 0, 1) := by decide +kernel
theorem dX12_stiffness_17 : decode cX12_stiffness 17 = .ok (.iadd, 1) := by decide +kernel
theorem dX12_stiffness_18 : decode cX12_stiffness 18 = .ok (.iaload, 1) := by decide +kernel
theorem dX12_stiffness_19 : decode cX12_stiffness 19 = .ok (.aload_n 0, 1) := by decide +kernel
theorem dX12_stiffness_20 : decode cX12_stiffness 20 = .ok (.getfield 13, 3) := by decide +kernel
theorem dX12_stiffness_23 : decode cX12_stiffness 23 = .ok (.iload 4, 2) := by decide +kernel
theorem dX12_stiffness_25 : decode cX12_stiffness 25 = .ok (.iconst 2, 1) := by decide +kernel
theorem dX12_stiffness_26 : decode cX12_stiffness 26 = .ok (.iadd, 1) := by decide +kernel
theorem dX12_stiffness_27 : decode cX12_stiffness 27 = .ok (.iaload, 1) := by decide +kernel
theorem dX12_stiffness_28 : decode cX12_stiffness 28 = .ok (.isub, 1) := by decide +kernel
theorem dX12_stiffness_29 : decode cX12_stiffness 29 = .ok (.iload_n 3, 1) := by decide +kernel
theorem dX12_stiffness_30 : decode cX12_stiffness 30 = .ok (.imul, 1) := by decide +kernel
theorem dX12_stiffness_31 : decode cX12_stiffness 31 = .ok (.iload_n 3, 1) := by decide +kernel
theorem dX12_stiffness_32 : decode cX12_stiffness 32 = .ok (.imul, 1) := by decide +kernel
theorem dX12_stiffness_33 : decode cX12_stiffness 33 = .ok (.iload_n 3, 1) := by decide +kernel
theorem dX12_stiffness_34 : decode cX12_stiffness 34 = .ok (.imul, 1) := by decide +kernel
theorem dX12_stiffness_35 : decode cX12_stiffness 35 = .ok (.ireturn, 1) := by decide +kernel
theorem hcX12_stiffness : yX12_stiffness.cls ≠ "java/lang/invoke/MethodHandle" ∧ yX12_stiffness.cls ≠ "java/lang/invoke/VarHandle" ∧ (parseMethodDescriptor yX12_stiffness.desc).map (fun d => d.parameters.length) = some 3 := ⟨by decide +kernel, by decide +kernel, by decide +kernel⟩
def fX12_stiffness (s0 : sg_M) (x1 : Int) (x2 : Int) (x3 : Int) (Q : Int → Prop) : Prop := (0 ≤ (((x1 + 10) + (4 * x2)) + 0) ∧ (((x1 + 10) + (4 * x2)) + 0) < 2040) ∧ (0 ≤ (((x1 + 10) + (4 * x2)) + 2) ∧ (((x1 + 10) + (4 * x2)) + 2) < 2040) ∧ sg_R (((((s0 66 (((x1 + 10) + (4 * x2)) + 0)) - (s0 66 (((x1 + 10) + (4 * x2)) + 2))) * x3) * x3) * x3) ∧ Q (((((s0 66 (((x1 + 10) + (4 * x2)) + 0)) - (s0 66 (((x1 + 10) + (4 * x2)) + 2))) * x3) * x3) * x3)
set_option maxHeartbeats 4000000 in
set_option maxRecDepth 100000 in
theorem CX12_stiffness {l : Launch} {G : sg_G} {La : sg_L} {s0 : sg_M} (hst : sg_St La) {x1 : Int} (r1 : sg_R x1) {x2 : Int} (r2 : sg_R x2) {x3 : Int} (r3 : sg_R x3) {Q : Int → Prop} (hf : fX12_stiffness s0 x1 x2 x3 Q) : sg_C l G yX12_stiffness cX12_stiffness 5 (some .int) 1 0 0 La s0 [sg_r 64, sg_i x1, sg_i x2, sg_i x3] (sg_PI La s0 Q) := by
  refine sg_body (by decide +kernel) (Nat.le_of_ble_eq_true rfl) ?_
  intro p e s m args below meth c F hnm
  unfold fX12_stiffness at hf
  show sg_W p l e (sg_rm 1 0 0) s m args below meth c (MQ below (sg_Q (some .int) G La s.heap.size (sg_PI La s0 Q)) args s 0 0 (sg_A La s.heap.size)) 5 G (sg_A La s.heap.size) La s0 0 0 0 [(0, sg_r 64), (1, sg_i x1), (2, sg_i x2), (3, sg_i x3)] []
  refine gw_iload_n F 1 rfl rfl dX12_stiffness_0 ?_
  refine gw_bipush F rfl dX12_stiffness_1 ?_
  refine gw_iadd F rfl dX12_stiffness_3 ?_
  refine gw_iconst F dX12_stiffness_4 ?_
  refine gw_iload_n F 2 rfl rfl dX12_stiffness_5 ?_
  refine gw_imul F rfl dX12_stiffness_6 ?_
  refine gw_iadd F rfl dX12_stiffness_7 ?_
  refine gw_istore F (by decide) rfl dX12_stiffness_8 ?_
  refine gw_aload_n F 1 rfl rfl (by decide) dX12_stiffness_10 ?_
  refine gw_get7 F (so_64 hst) (by decide) rfl sg_lay_RX12 (j := 14) (by decide) (o1 := 66) (by first | rfl | omega) rfl (host := "") (.inl kw_970) dX12_stiffness_11 (fun h1 => ?_)
  refine gw_iload F 0 rfl dX12_stiffness_14 ?_
  refine gw_iconst F dX12_stiffness_16 ?_
  refine gw_iadd F rfl dX12_stiffness_17 ?_
  obtain ⟨⟨b20, b21⟩, hf⟩ := hf
  refine gw_iald F (sa_66 hst) b20 b21 dX12_stiffness_18 (fun h3 => ?_)
  refine gw_aload_n F 1 rfl rfl (by decide) dX12_stiffness_19 ?_
  refine gw_get7 F (so_64 hst) (by decide) rfl sg_lay_RX12 (j := 14) (by decide) (o1 := 66) (by first | rfl | omega) rfl (host := "") (.inl kw_970) dX12_stiffness_20 (fun h4 => ?_)
  refine gw_iload F 0 rfl dX12_stiffness_23 ?_
  refine gw_iconst F dX12_stiffness_25 ?_
  refine gw_iadd F rfl dX12_stiffness_26 ?_
  obtain ⟨⟨b50, b51⟩, hf⟩ := hf
  refine gw_iald F (sa_66 hst) b50 b51 dX12_stiffness_27 (fun h6 => ?_)
  refine gw_isub F rfl dX12_stiffness_28 ?_
  refine gw_iload_n F 4 rfl rfl dX12_stiffness_29 ?_
  refine gw_imul F rfl dX12_stiffness_30 ?_
  refine gw_iload_n F 4 rfl rfl dX12_stiffness_31 ?_
  refine gw_imul F rfl dX12_stiffness_32 ?_
  refine gw_iload_n F 4 rfl rfl dX12_stiffness_33 ?_
  refine gw_imul F rfl dX12_stiffness_34 ?_
  obtain ⟨g7, hf⟩ := hf
  exact gr_PI F g7 hf (by decide) (by decide) dX12_stiffness_35

theorem dX12_layBend_0 : decode cX12_layBend 0 = .ok (.aload_n 0, 1) := by decide +kernel
theorem dX12_layBend_1 : decode cX12_layBend 1 = .ok (.aload_n 0, 1) := by decide +kernel
theorem dX12_layBend_2 : decode cX12_layBend 2 = .ok (.getfield 13, 3) := by decide +kernel
theorem dX12_layBend_5 : decode cX12_layBend 5 = .ok (.iload_n 1, 1) := by decide +kernel
theorem dX12_layBend_6 : decode cX12_layBend 6 = .ok (.iconst 0, 1) := by decide +kernel
theorem dX12_layBend_7 : decode cX12_layBend 7 = .ok (.iadd, 1) := by decide +kernel
theorem dX12_layBend_8 : decode cX12_layBend 8 = .ok (.iaload, 1) := by decide +kernel
theorem dX12_layBend_9 : decode cX12_layBend 9 = .ok (.putfield 212, 3) := by decide +kernel
theorem dX12_layBend_12 : decode cX12_layBend 12 = .ok (.aload_n 0, 1) := by decide +kernel
theorem dX12_layBend_13 : decode cX12_layBend 13 = .ok (.aload_n 0, 1) := by decide +kernel
theorem dX12_layBend_14 : decode cX12_layBend 14 = .ok (.getfield 13, 3) := by decide +kernel
theorem dX12_layBend_17 : decode cX12_layBend 17 = .ok (.iload_n 1, 1) := by decide +kernel
theorem dX12_layBend_18 : decode cX12_layBend 18 = .ok (.iconst 1, 1) := by decide +kernel
theorem dX12_layBend_19 : decode cX12_layBend 19 = .ok (.iadd, 1) := by decide +kernel
theorem dX12_layBend_20 : decode cX12_layBend 20 = .ok (.iaload, 1) := by decide +kernel
theorem dX12_layBend_21 : decode cX12_layBend 21 = .ok (.putfield 215, 3) := by decide +kernel
theorem dX12_layBend_24 : decode cX12_layBend 24 = .ok (.aload_n 0, 1) := by decide +kernel
theorem dX12_layBend_25 : decode cX12_layBend 25 = .ok (.iconst (-1), 1) := by decide +kernel
theorem dX12_layBend_26 : decode cX12_layBend 26 = .ok (.putfield 218, 3) := by decide +kernel
theorem dX12_layBend_29 : decode cX12_layBend 29 = .ok (.aload_n 0, 1) := by decide +kernel
theorem dX12_layBend_30 : decode cX12_layBend 30 = .ok (.iconst 0, 1) := by decide +kernel
theorem dX12_layBend_31 : decode cX12_layBend 31 = .ok (.putfield 221, 3) := by decide +kernel
theorem dX12_layBend_34 : decode cX12_layBend 34 = .ok (.iconst 0, 1) := by decide +kernel
theorem dX12_layBend_35 : decode cX12_layBend 35 = .ok (.istore 6, 2) := by decide +kernel
theorem dX12_layBend_37 : decode cX12_layBend 37 = .ok (.iload 6, 2) := by decide +kernel
theorem dX12_layBend_39 : decode cX12_layBend 39 = .ok (.aload_n 0, 1) := by decide +kernel
theorem dX12_layBend_40 : decode cX12_layBend 40 = .ok (.getfield 212, 3) := by decide +kernel
theorem dX12_layBend_43 : decode cX12_layBend 43 = .ok (.if_icmp .ge 243, 3) := by decide +kernel
theorem dX12_layBend_46 : decode cX12_layBend 46 = .ok (.iload 4, 2) := by decide +kernel
theorem dX12_layBend_48 : decode cX12_layBend 48 = .ok (.ifCond .ne 22, 3) := by decide +kernel
theorem dX12_layBend_51 : decode cX12_layBend 51 = .ok (.aload_n 0, 1) := by decide +kernel
theorem dX12_layBend_52 : decode cX12_layBend 52 = .ok (.getfield 13, 3) := by decide +kernel
theorem dX12_layBend_55 : decode cX12_layBend 55 = .ok (.iload_n 1, 1) := by decide +kernel
theorem dX12_layBend_56 : decode cX12_layBend 56 = .ok (.bipush 10, 2) := by decide +kernel
theorem dX12_layBend_58 : decode cX12_layBend 58 = .ok (.iadd, 1) := by decide +kernel
theorem dX12_layBend_59 : decode cX12_layBend 59 = .ok (.iconst 4, 1) := by decide +kernel
theorem dX12_layBend_60 : decode cX12_layBend 60 = .ok (.iload 6, 2) := by decide +kernel
theorem dX12_layBend_62 : decode cX12_layBend 62 = .ok (.imul, 1) := by decide +kernel
theorem dX12_layBend_63 : decode cX12_layBend 63 = .ok (.iadd, 1) := by decide +kernel
theorem dX12_layBend_64 : decode cX12_layBend 64 = .ok (.iconst 1, 1) := by decide +kernel
theorem dX12_layBend_65 : decode cX12_layBend 65 = .ok (.iadd, 1) := by decide +kernel
theorem dX12_layBend_66 : decode cX12_layBend 66 = .ok (.iaload, 1) := by decide +kernel
theorem dX12_layBend_67 : decode cX12_layBend 67 = .ok (.goto 21, 3) := by decide +kernel
theorem dX12_layBend_70 : decode cX12_layBend 70 = .ok (.iload 4, 2) := by decide +kernel
theorem dX12_layBend_72 : decode cX12_layBend 72 = .ok (.iload 5, 2) := by decide +kernel
theorem dX12_layBend_74 : decode cX12_layBend 74 = .ok (.iload 4, 2) := by decide +kernel
theorem dX12_layBend_76 : decode cX12_layBend 76 = .ok (.isub, 1) := by decide +kernel
theorem dX12_layBend_77 : decode cX12_layBend 77 = .ok (.iload 6, 2) := by decide +kernel
theorem dX12_layBend_79 : decode cX12_layBend 79 = .ok (.imul, 1) := by decide +kernel
theorem dX12_layBend_80 : decode cX12_layBend 80 = .ok (.aload_n 0, 1) := by decide +kernel
theorem dX12_layBend_81 : decode cX12_layBend 81 = .ok (.getfield 212, 3) := by decide +kernel
theorem dX12_layBend_84 : decode cX12_layBend 84 = .ok (.iconst 1, 1) := by decide +kernel
theorem dX12_layBend_85 : decode cX12_layBend 85 = .ok (.isub, 1) := by decide +kernel
theorem dX12_layBend_86 : decode cX12_layBend 86 = .ok (.idiv, 1) := by decide +kernel
theorem dX12_layBend_87 : decode cX12_layBend 87 = .ok (.iadd, 1) := by decide +kernel
theorem dX12_layBend_88 : decode cX12_layBend 88 = .ok (.istore 7, 2) := by decide +kernel
theorem dX12_layBend_90 : decode cX12_layBend 90 = .ok (.iload_n 2, 1) := by decide +kernel
theorem dX12_layBend_91 : decode cX12_layBend 91 = .ok (.aload_n 0, 1) := by decide +kernel
theorem dX12_layBend_92 : decode cX12_layBend 92 = .ok (.getfield 212, 3) := by decide +kernel
theorem dX12_layBend_95 : decode cX12_layBend 95 = .ok (.iconst 1, 1) := by decide +kernel
theorem dX12_layBend_96 : decode cX12_layBend 96 = .ok (.isub, 1) := by decide +kernel
theorem dX12_layBend_97 : decode cX12_layBend 97 = .ok (.iload 6, 2) := by decide +kernel
theorem dX12_layBend_99 : decode cX12_layBend 99 = .ok (.isub, 1) := by decide +kernel
theorem dX12_layBend_100 : decode cX12_layBend 100 = .ok (.imul, 1) := by decide +kernel
theorem dX12_layBend_101 : decode cX12_layBend 101 = .ok (.iload_n 3, 1) := by decide +kernel
theorem dX12_layBend_102 : decode cX12_layBend 102 = .ok (.iload 6, 2) := by decide +kernel
theorem dX12_layBend_104 : decode cX12_layBend 104 = .ok (.imul, 1) := by decide +kernel
theorem dX12_layBend_105 : decode cX12_layBend 105 = .ok (.iadd, 1) := by decide +kernel
theorem dX12_layBend_106 : decode cX12_layBend 106 = .ok (.aload_n 0, 1) := by decide +kernel
theorem dX12_layBend_107 : decode cX12_layBend 107 = .ok (.getfield 212, 3) := by decide +kernel
theorem dX12_layBend_110 : decode cX12_layBend 110 = .ok (.iconst 1, 1) := by decide +kernel
theorem dX12_layBend_111 : decode cX12_layBend 111 = .ok (.isub, 1) := by decide +kernel
theorem dX12_layBend_112 : decode cX12_layBend 112 = .ok (.idiv, 1) := by decide +kernel
theorem dX12_layBend_113 : decode cX12_layBend 113 = .ok (.istore 8, 2) := by decide +kernel
theorem dX12_layBend_115 : decode cX12_layBend 115 = .ok (.ldc2_w 224, 3) := by decide +kernel
theorem dX12_layBend_118 : decode cX12_layBend 118 = .ok (.iload 8, 2) := by decide +kernel
theorem dX12_layBend_120 : decode cX12_layBend 120 = .ok (.i2l, 1) := by decide +kernel
theorem dX12_layBend_121 : decode cX12_layBend 121 = .ok (.lmul, 1) := by decide +kernel
theorem dX12_layBend_122 : decode cX12_layBend 122 = .ok (.aload_n 0, 1) := by decide +kernel
theorem dX12_layBend_123 : decode cX12_layBend 123 = .ok (.iload_n 1, 1) := by decide +kernel
theorem dX12_layBend_124 : decode cX12_layBend 124 = .ok (.iload 6, 2) := by decide +kernel
theorem dX12_layBend_126 : decode cX12_layBend 126 = .ok (.iload 7, 2) := by decide +kernel
theorem dX12_layBend_128 : decode cX12_layBend 128 = .ok (.invokevirtual 208, 3) := by decide +kernel
theorem dX12_layBend_131 : decode cX12_layBend 131 = .ok (.i2l, 1) := by decide +kernel
theorem dX12_layBend_132 : decode cX12_layBend 132 = .ok (.ldiv, 1) := by decide +kernel
theorem dX12_layBend_133 : decode cX12_layBend 133 = .ok (.l2i, 1) := by decide +kernel
theorem dX12_layBend_134 : decode cX12_layBend 134 = .ok (.aload_n 0, 1) := by decide +kernel
theorem dX12_layBend_135 : decode cX12_layBend 135 = .ok (.getfield 13, 3) := by decide +kernel
theorem dX12_layBend_138 : decode cX12_layBend 138 = .ok (.iload_n 1, 1) := by decide +kernel
theorem dX12_layBend_139 : decode cX12_layBend 139 = .ok (.bipush 10, 2) := by decide +kernel
theorem dX12_layBend_141 : decode cX12_layBend 141 = .ok (.iadd, 1) := by decide +kernel
theorem dX12_layBend_142 : decode cX12_layBend 142 = .ok (.iconst 4, 1) := by decide +kernel
theorem dX12_layBend_143 : decode cX12_layBend 143 = .ok (.iload 6, 2) := by decide +kernel
theorem dX12_layBend_145 : decode cX12_layBend 145 = .ok (.imul, 1) := by decide +kernel
theorem dX12_layBend_146 : decode cX12_layBend 146 = .ok (.iadd, 1) := by decide +kernel
theorem dX12_layBend_147 : decode cX12_layBend 147 = .ok (.iconst 3, 1) := by decide +kernel
theorem dX12_layBend_148 : decode cX12_layBend 148 = .ok (.iadd, 1) := by decide +kernel
theorem dX12_layBend_149 : decode cX12_layBend 149 = .ok (.iaload, 1) := by decide +kernel
theorem dX12_layBend_150 : decode cX12_layBend 150 = .ok (.iadd, 1) := by decide +kernel
theorem dX12_layBend_151 : decode cX12_layBend 151 = .ok (.istore 9, 2) := by decide +kernel
theorem dX12_layBend_153 : decode cX12_layBend 153 = .ok (.iload 9, 2) := by decide +kernel
theorem dX12_layBend_155 : decode cX12_layBend 155 = .ok (.sipush 2000, 3) := by decide +kernel
theorem dX12_layBend_158 : decode cX12_layBend 158 = .ok (.if_icmp .le 8, 3) := by decide +kernel
theorem dX12_layBend_161 : decode cX12_layBend 161 = .ok (.sipush 2000, 3) := by decide +kernel
theorem dX12_layBend_164 : decode cX12_layBend 164 = .ok (.istore 9, 2) := by decide +kernel
theorem dX12_layBend_166 : decode cX12_layBend 166 = .ok (.iload 9, 2) := by decide +kernel
theorem dX12_layBend_168 : decode cX12_layBend 168 = .ok (.sipush (-2000), 3) := by decide +kernel
theorem dX12_layBend_171 : decode cX12_layBend 171 = .ok (.if_icmp .ge 8, 3) := by decide +kernel
theorem dX12_layBend_174 : decode cX12_layBend 174 = .ok (.sipush (-2000), 3) := by decide +kernel
theorem dX12_layBend_177 : decode cX12_layBend 177 = .ok (.istore 9, 2) := by decide +kernel
theorem dX12_layBend_179 : decode cX12_layBend 179 = .ok (.aload_n 0, 1) := by decide +kernel
theorem dX12_layBend_180 : decode cX12_layBend 180 = .ok (.getfield 32, 3) := by decide +kernel
theorem dX12_layBend_183 : decode cX12_layBend 183 = .ok (.iload 6, 2) := by decide +kernel
theorem dX12_layBend_185 : decode cX12_layBend 185 = .ok (.iload 9, 2) := by decide +kernel
theorem dX12_layBend_187 : decode cX12_layBend 187 = .ok (.iastore, 1) := by decide +kernel
theorem dX12_layBend_188 : decode cX12_layBend 188 = .ok (.aload_n 0, 1) := by decide +kernel
theorem dX12_layBend_189 : decode cX12_layBend 189 = .ok (.getfield 35, 3) := by decide +kernel
theorem dX12_layBend_192 : decode cX12_layBend 192 = .ok (.iload 6, 2) := by decide +kernel
theorem dX12_layBend_194 : decode cX12_layBend 194 = .ok (.iload 9, 2) := by decide +kernel
theorem dX12_layBend_196 : decode cX12_layBend 196 = .ok (.iload 9, 2) := by decide +kernel
theorem dX12_layBend_198 : decode cX12_layBend 198 = .ok (.imul, 1) := by decide +kernel
theorem dX12_layBend_199 : decode cX12_layBend 199 = .ok (.iastore, 1) := by decide +kernel
theorem dX12_layBend_200 : decode cX12_layBend 200 = .ok (.aload_n 0, 1) := by decide +kernel
theorem dX12_layBend_201 : decode cX12_layBend 201 = .ok (.getfield 38, 3) := by decide +kernel
theorem dX12_layBend_204 : decode cX12_layBend 204 = .ok (.iload 6, 2) := by decide +kernel
theorem dX12_layBend_206 : decode cX12_layBend 206 = .ok (.iload 9, 2) := by decide +kernel
theorem dX12_layBend_208 : decode cX12_layBend 208 = .ok (.ifCond .ge 9, 3) := by decide +kernel
theorem dX12_layBend_211 : decode cX12_layBend 211 = .ok (.iload 9, 2) := by decide +kernel
theorem dX12_layBend_213 : decode cX12_layBend 213 = .ok (.ineg, 1) := by decide +kernel
theorem dX12_layBend_214 : decode cX12_layBend 214 = .ok (.goto 5, 3) := by decide +kernel
theorem dX12_layBend_217 : decode cX12_layBend 217 = .ok (.iload 9, 2) := by decide +kernel
theorem dX12_layBend_219 : decode cX12_layBend 219 = .ok (.iload 7, 2) := by decide +kernel
theorem dX12_layBend_221 : decode cX12_layBend 221 = .ok (.imul, 1) := by decide +kernel
theorem dX12_layBend_222 : decode cX12_layBend 222 = .ok (.iastore, 1) := by decide +kernel
theorem dX12_layBend_223 : decode cX12_layBend 223 = .ok (.aload_n 0, 1) := by decide +kernel
theorem dX12_layBend_224 : decode cX12_layBend 224 = .ok (.getfield 38, 3) := by decide +kernel
theorem dX12_layBend_227 : decode cX12_layBend 227 = .ok (.iload 6, 2) := by decide +kernel
theorem dX12_layBend_229 : decode cX12_layBend 229 = .ok (.iaload, 1) := by decide +kernel
theorem dX12_layBend_230 : decode cX12_layBend 230 = .ok (.aload_n 0, 1) := by decide +kernel
theorem dX12_layBend_231 : decode cX12_layBend 231 = .ok (.getfield 221, 3) := by decide +kernel
theorem dX12_layBend_234 : decode cX12_layBend 234 = .ok (.if_icmp .le 14, 3) := by decide +kernel
theorem dX12_layBend_237 : decode cX12_layBend 237 = .ok (.aload_n 0, 1) := by decide +kernel
theorem dX12_layBend_238 : decode cX12_layBend 238 = .ok (.aload_n 0, 1) := by decide +kernel
theorem dX12_layBend_239 : decode cX12_layBend 239 = .ok (.getfield 38, 3) := by decide +kernel
theorem dX12_layBend_242 : decode cX12_layBend 242 = .ok (.iload 6, 2) := by decide +kernel
theorem dX12_layBend_244 : decode cX12_layBend 244 = .ok (.iaload, 1) := by decide +kernel
theorem dX12_layBend_245 : decode cX12_layBend 245 = .ok (.putfield 221, 3) := by decide +kernel
theorem dX12_layBend_248 : decode cX12_layBend 248 = .ok (.aload_n 0, 1) := by decide +kernel
theorem dX12_layBend_249 : decode cX12_layBend 249 = .ok (.getfield 218, 3) := by decide +kernel
theorem dX12_layBend_252 : decode cX12_layBend 252 = .ok (.iconst (-1), 1) := by decide +kernel
theorem dX12_layBend_253 : decode cX12_layBend 253 = .ok (.if_icmp .ne 27, 3) := by decide +kernel
theorem dX12_layBend_256 : decode cX12_layBend 256 = .ok (.aload_n 0, 1) := by decide +kernel
theorem dX12_layBend_257 : decode cX12_layBend 257 = .ok (.getfield 38, 3) := by decide +kernel
theorem dX12_layBend_260 : decode cX12_layBend 260 = .ok (.iload 6, 2) := by decide +kernel
theorem dX12_layBend_262 : decode cX12_layBend 262 = .ok (.iaload, 1) := by decide +kernel
theorem dX12_layBend_263 : decode cX12_layBend 263 = .ok (.aload_n 0, 1) := by decide +kernel
theorem dX12_layBend_264 : decode cX12_layBend 264 = .ok (.getfield 13, 3) := by decide +kernel
theorem dX12_layBend_267 : decode cX12_layBend 267 = .ok (.iload_n 1, 1) := by decide +kernel
theorem dX12_layBend_268 : decode cX12_layBend 268 = .ok (.iconst 2, 1) := by decide +kernel
theorem dX12_layBend_269 : decode cX12_layBend 269 = .ok (.iadd, 1) := by decide +kernel
theorem dX12_layBend_270 : decode cX12_layBend 270 = .ok (.iaload, 1) := by decide +kernel
theorem dX12_layBend_271 : decode cX12_layBend 271 = .ok (.if_icmp .le 9, 3) := by decide +kernel
theorem dX12_layBend_274 : decode cX12_layBend 274 = .ok (.aload_n 0, 1) := by decide +kernel
theorem dX12_layBend_275 : decode cX12_layBend 275 = .ok (.iload 6, 2) := by decide +kernel
theorem dX12_layBend_277 : decode cX12_layBend 277 = .ok (.putfield 218, 3) := by decide +kernel
theorem dX12_layBend_280 : decode cX12_layBend 280 = .ok (.iinc 6 1, 3) := by decide +kernel
theorem dX12_layBend_283 : decode cX12_layBend 283 = .ok (.goto (-246), 3) := by decide +kernel
theorem dX12_layBend_286 : decode cX12_layBend 286 = .ok (.aload_n 0, 1) := by decide +kernel
theorem dX12_layBend_287 : decode cX12_layBend 287 = .ok (.iconst 0, 1) := by decide +kernel
theorem dX12_layBend_288 : decode cX12_layBend 288 = .ok (.putfield 226, 3) := by decide +kernel
theorem dX12_layBend_291 : decode cX12_layBend 291 = .ok (.iconst 0, 1) := by decide +kernel
theorem dX12_layBend_292 : decode cX12_layBend 292 = .ok (.istore 6, 2) := by decide +kernel
theorem dX12_layBend_294 : decode cX12_layBend 294 = .ok (.iload 6, 2) := by decide +kernel
theorem dX12_layBend_296 : decode cX12_layBend 296 = .ok (.aload_n 0, 1) := by decide +kernel
theorem dX12_layBend_297 : decode cX12_layBend 297 = .ok (.getfield 212, 3) := by decide +kernel
theorem dX12_layBend_300 : decode cX12_layBend 300 = .ok (.if_icmp .ge 56, 3) := by decide +kernel
theorem dX12_layBend_303 : decode cX12_layBend 303 = .ok (.aload_n 0, 1) := by decide +kernel
theorem dX12_layBend_304 : decode cX12_layBend 304 = .ok (.getfield 44, 3) := by decide +kernel
theorem dX12_layBend_307 : decode cX12_layBend 307 = .ok (.iload 6, 2) := by decide +kernel
theorem dX12_layBend_309 : decode cX12_layBend 309 = .ok (.aload_n 0, 1) := by decide +kernel
theorem dX12_layBend_310 : decode cX12_layBend 310 = .ok (.iload 6, 2) := by decide +kernel
theorem dX12_layBend_312 : decode cX12_layBend 312 = .ok (.invokevirtual 229, 3) := by decide +kernel
theorem dX12_layBend_315 : decode cX12_layBend 315 = .ok (.bastore, 1) := by decide +kernel
theorem dX12_layBend_316 : decode cX12_layBend 316 = .ok (.aload_n 0, 1) := by decide +kernel
theorem dX12_layBend_317 : decode cX12_layBend 317 = .ok (.getfield 44, 3) := by decide +kernel
theorem dX12_layBend_320 : decode cX12_layBend 320 = .ok (.iload 6, 2) := by decide +kernel
theorem dX12_layBend_322 : decode cX12_layBend 322 = .ok (.baload, 1) := by decide +kernel
theorem dX12_layBend_323 : decode cX12_layBend 323 = .ok (.ifCond .ne 6, 3) := by decide +kernel
theorem dX12_layBend_326 : decode cX12_layBend 326 = .ok (.goto 24, 3) := by decide +kernel
theorem dX12_layBend_329 : decode cX12_layBend 329 = .ok (.aload_n 0, 1) := by decide +kernel
theorem dX12_layBend_330 : decode cX12_layBend 330 = .ok (.getfield 41, 3) := by decide +kernel
theorem dX12_layBend_333 : decode cX12_layBend 333 = .ok (.aload_n 0, 1) := by decide +kernel
theorem dX12_layBend_334 : decode cX12_layBend 334 = .ok (.getfield 226, 3) := by decide +kernel
theorem dX12_layBend_337 : decode cX12_layBend 337 = .ok (.iload 6, 2) := by decide +kernel
theorem dX12_layBend_339 : decode cX12_layBend 339 = .ok (.iastore, 1) := by decide +kernel
theorem dX12_layBend_340 : decode cX12_layBend 340 = .ok (.aload_n 0, 1) := by decide +kernel
theorem dX12_layBend_341 : decode cX12_layBend 341 = .ok (.dup, 1) := by decide +kernel
theorem dX12_layBend_342 : decode cX12_layBend 342 = .ok (.getfield 226, 3) := by decide +kernel
theorem dX12_layBend_345 : decode cX12_layBend 345 = .ok (.iconst 1, 1) := by decide +kernel
theorem dX12_layBend_346 : decode cX12_layBend 346 = .ok (.iadd, 1) := by decide +kernel
theorem dX12_layBend_347 : decode cX12_layBend 347 = .ok (.putfield 226, 3) := by decide +kernel
theorem dX12_layBend_350 : decode cX12_layBend 350 = .ok (.iinc 6 1, 3) := by decide +kernel
theorem dX12_layBend_353 : decode cX12_layBend 353 = .ok (.goto (-59), 3) := by decide +kernel
theorem dX12_layBend_356 : decode cX12_layBend 356 = .ok (.return_, 1) := by decide +kernel
theorem hcX12_layBend : yX12_layBend.cls ≠ "java/lang/invoke/MethodHandle" ∧ yX12_layBend.cls ≠ "java/lang/invoke/VarHandle" ∧ (parseMethodDescriptor yX12_layBend.desc).map (fun d => d.parameters.length) = some 5 := ⟨by decide +kernel, by decide +kernel, by decide +kernel⟩
def fX12_layBend_j280 (x6_37 : Int) (k37 : sg_M → Int → Prop) (s_280 : sg_M) : Prop := sg_R (x6_37 + 1) ∧ k37 s_280 (x6_37 + 1)
def fX12_layBend_j248 (x1 : Int) (x6_37 : Int) (k37 : sg_M → Int → Prop) (s_248 : sg_M) : Prop := (((s_248 64 30) ≠ (-1) → (fX12_layBend_j280 x6_37 k37) s_248) ∧ ((s_248 64 30) = (-1) → (0 ≤ x6_37 ∧ x6_37 < 60) ∧ (0 ≤ (x1 + 2) ∧ (x1 + 2) < 2040) ∧ (((s_248 74 x6_37) ≤ (s_248 66 (x1 + 2)) → (fX12_layBend_j280 x6_37 k37) s_248) ∧ (¬ ((s_248 74 x6_37) ≤ (s_248 66 (x1 + 2))) → ∀ s63 : sg_M, s63 = sg_up s_248 64 30 x6_37 → (fX12_layBend_j280 x6_37 k37) s63))))
def fX12_layBend_j219 (x1 : Int) (x6_37 : Int) (y0_88 : Int) (s42 : sg_M) (k37 : sg_M → Int → Prop) (y0_219 : Int) : Prop := (0 ≤ x6_37 ∧ x6_37 < 60) ∧ sg_R (y0_219 * y0_88) ∧ ∀ s47 : sg_M, s47 = sg_up s42 74 x6_37 (y0_219 * y0_88) → (0 ≤ x6_37 ∧ x6_37 < 60) ∧ (((s47 74 x6_37) ≤ (s47 64 31) → (fX12_layBend_j248 x1 x6_37 k37) s47) ∧ (¬ ((s47 74 x6_37) ≤ (s47 64 31)) → (0 ≤ x6_37 ∧ x6_37 < 60) ∧ ∀ s69 : sg_M, s69 = sg_up s47 64 31 (s47 74 x6_37) → (fX12_layBend_j248 x1 x6_37 k37) s69))
def fX12_layBend_j179 (x1 : Int) (s_37 : sg_M) (x6_37 : Int) (y0_88 : Int) (k37 : sg_M → Int → Prop) (x9_179 : Int) : Prop := (0 ≤ x6_37 ∧ x6_37 < 60) ∧ ∀ s37 : sg_M, s37 = sg_up s_37 72 x6_37 x9_179 → (0 ≤ x6_37 ∧ x6_37 < 60) ∧ sg_R (x9_179 * x9_179) ∧ ∀ s42 : sg_M, s42 = sg_up s37 73 x6_37 (x9_179 * x9_179) → ((0 ≤ x9_179 → (fX12_layBend_j219 x1 x6_37 y0_88 s42 k37) x9_179) ∧ (¬ (0 ≤ x9_179) → sg_R (-x9_179) ∧ (fX12_layBend_j219 x1 x6_37 y0_88 s42 k37) (-x9_179)))
def fX12_layBend_j166 (x1 : Int) (s_37 : sg_M) (x6_37 : Int) (y0_88 : Int) (k37 : sg_M → Int → Prop) (x9_166 : Int) : Prop := (((-2000) ≤ x9_166 → (fX12_layBend_j179 x1 s_37 x6_37 y0_88 k37) x9_166) ∧ (¬ ((-2000) ≤ x9_166) → (fX12_layBend_j179 x1 s_37 x6_37 y0_88 k37) (-2000)))
def fX12_layBend_j88 (x1 : Int) (x2 : Int) (x3 : Int) (s_37 : sg_M) (x6_37 : Int) (k37 : sg_M → Int → Prop) (y0_88 : Int) : Prop := sg_R ((x2 * (((s_37 64 27) - 1) - x6_37)) + (x3 * x6_37)) ∧ sg_R ((s_37 64 27) - 1) ∧ (((s_37 64 27) - 1) ≠ 0) ∧ ∀ v22 : Int, v22 = (Int.tdiv ((x2 * (((s_37 64 27) - 1) - x6_37)) + (x3 * x6_37)) ((s_37 64 27) - 1)) → sg_R v22 ∧ fX12_stiffness s_37 x1 x6_37 y0_88 (fun u25 => sg_R64 (1000 * v22) ∧ (u25 ≠ 0) ∧ (0 ≤ (((x1 + 10) + (4 * x6_37)) + 3) ∧ (((x1 + 10) + (4 * x6_37)) + 3) < 2040) ∧ ∀ v32 : Int, v32 = ((Int.tdiv (1000 * v22) u25) + (s_37 66 (((x1 + 10) + (4 * x6_37)) + 3))) → sg_R v32 ∧ ((v32 ≤ 2000 → (fX12_layBend_j166 x1 s_37 x6_37 y0_88 k37) v32) ∧ (¬ (v32 ≤ 2000) → (fX12_layBend_j166 x1 s_37 x6_37 y0_88 k37) 2000)))
def fX12_layBend_L37 (x1 : Int) (x2 : Int) (x3 : Int) (x4 : Int) (x5 : Int) (k286 : sg_M → Prop) : Nat → sg_M → Int → Prop
  | 0, _, _ => False
  | n_37 + 1, s_37, x6_37 => (((s_37 64 27) ≤ x6_37 → k286 s_37) ∧ (¬ ((s_37 64 27) ≤ x6_37) → ((x4 ≠ 0 → sg_R ((x5 - x4) * x6_37) ∧ sg_R ((s_37 64 27) - 1) ∧ (((s_37 64 27) - 1) ≠ 0) ∧ sg_R (x4 + (Int.tdiv ((x5 - x4) * x6_37) ((s_37 64 27) - 1))) ∧ (fX12_layBend_j88 x1 x2 x3 s_37 x6_37 (fX12_layBend_L37 x1 x2 x3 x4 x5 k286 n_37)) (x4 + (Int.tdiv ((x5 - x4) * x6_37) ((s_37 64 27) - 1)))) ∧ (x4 = 0 → (0 ≤ (((x1 + 10) + (4 * x6_37)) + 1) ∧ (((x1 + 10) + (4 * x6_37)) + 1) < 2040) ∧ (fX12_layBend_j88 x1 x2 x3 s_37 x6_37 (fX12_layBend_L37 x1 x2 x3 x4 x5 k286 n_37)) (s_37 66 (((x1 + 10) + (4 * x6_37)) + 1))))))
def fX12_layBend_j350 (x6_294 : Int) (k294 : sg_M → Int → Prop) (s_350 : sg_M) : Prop := sg_R (x6_294 + 1) ∧ k294 s_350 (x6_294 + 1)
def fX12_layBend_L294  (Q : sg_M → Prop) : Nat → sg_M → Int → Prop
  | 0, _, _ => False
  | n_294 + 1, s_294, x6_294 => (((s_294 64 27) ≤ x6_294 → Q s_294) ∧ (¬ ((s_294 64 27) ≤ x6_294) → fX12_isShutIn s_294 x6_294 (fun u90 => (0 ≤ x6_294 ∧ x6_294 < 60) ∧ ∀ s93 : sg_M, s93 = sg_up s_294 76 x6_294 u90 → (0 ≤ x6_294 ∧ x6_294 < 60) ∧ (((s93 76 x6_294) ≠ 0 → (0 ≤ (s93 64 29) ∧ (s93 64 29) < 60) ∧ ∀ s103 : sg_M, s103 = sg_up s93 75 (s93 64 29) x6_294 → sg_R ((s103 64 29) + 1) ∧ ∀ s107 : sg_M, s107 = sg_up s103 64 29 ((s103 64 29) + 1) → (fX12_layBend_j350 x6_294 (fX12_layBend_L294  Q n_294)) s107) ∧ ((s93 76 x6_294) = 0 → (fX12_layBend_j350 x6_294 (fX12_layBend_L294  Q n_294)) s93)))))
def fX12_layBend (s0 : sg_M) (x1 : Int) (x2 : Int) (x3 : Int) (x4 : Int) (x5 : Int) (Q : sg_M → Prop) : Prop := (0 ≤ (x1 + 0) ∧ (x1 + 0) < 2040) ∧ ∀ s4 : sg_M, s4 = sg_up s0 64 27 (s0 66 (x1 + 0)) → (0 ≤ (x1 + 1) ∧ (x1 + 1) < 2040) ∧ ∀ s9 : sg_M, s9 = sg_up s4 64 28 (s4 66 (x1 + 1)) → ∀ s11 : sg_M, s11 = sg_up s9 64 30 (-1) → ∀ s13 : sg_M, s13 = sg_up s11 64 31 0 → (∃ n84 : Nat, fX12_layBend_L37 x1 x2 x3 x4 x5 (fun s_286e37 => ∀ s85 : sg_M, s85 = sg_up s_286e37 64 29 0 → (∃ n109 : Nat, fX12_layBend_L294  Q n109 s85 0)) n84 s13 0)
set_option maxHeartbeats 4000000 in
set_option maxRecDepth 100000 in
theorem CX12_layBend {l : Launch} {G : sg_G} {La : sg_L} {s0 : sg_M} (hst : sg_St La) {x1 : Int} (r1 : sg_R x1) {x2 : Int} (r2 : sg_R x2) {x3 : Int} (r3 : sg_R x3) {x4 : Int} (r4 : sg_R x4) {x5 : Int} (r5 : sg_R x5) {Q : sg_M → Prop} (hf : fX12_layBend s0 x1 x2 x3 x4 x5 Q) : sg_C l G yX12_layBend cX12_layBend 10 (none) 2 0 0 La s0 [sg_r 64, sg_i x1, sg_i x2, sg_i x3, sg_i x4, sg_i x5] (sg_HV La Q) := by
  refine sg_body (by decide +kernel) (Nat.le_of_ble_eq_true rfl) ?_
  intro p e s m args below meth c F hnm
  unfold fX12_layBend at hf
  show sg_W p l e (sg_rm 2 0 0) s m args below meth c (MQ below (sg_Q (none) G La s.heap.size (sg_HV La Q)) args s 0 0 (sg_A La s.heap.size)) 10 G (sg_A La s.heap.size) La s0 0 0 0 [(0, sg_r 64), (1, sg_i x1), (2, sg_i x2), (3, sg_i x3), (4, sg_i x4), (5, sg_i x5)] []
  refine gw_aload_n F 0 rfl rfl (by decide) dX12_layBend_0 ?_
  refine gw_aload_n F 0 rfl rfl (by decide) dX12_layBend_1 ?_
  refine gw_get7 F (so_64 hst) (by decide) rfl sg_lay_RX12 (j := 14) (by decide) (o1 := 66) (by first | rfl | omega) rfl (host := "") (.inl kw_970) dX12_layBend_2 (fun h1 => ?_)
  refine gw_iload_n F 1 rfl rfl dX12_layBend_5 ?_
  refine gw_iconst F dX12_layBend_6 ?_
  refine gw_iadd F rfl dX12_layBend_7 ?_
  obtain ⟨⟨b20, b21⟩, hf⟩ := hf
  refine gw_iald F (sa_66 hst) b20 b21 dX12_layBend_8 (fun h3 => ?_)
  obtain ⟨s4, e5⟩ : ∃ z : sg_M, z = sg_up s0 64 27 (s0 66 (x1 + 0)) := ⟨_, rfl⟩
  have hf := hf s4 e5
  refine gw_put0 F (so_64 hst) (by decide) rfl sg_lay_RX12 (j := 27) (by decide) h3 e5 tyX12_ok nmX12 rfl (tyX12_ok 27 (by decide)) rfl (host := "") (.inl kw_983) dX12_layBend_9 ?_
  refine gw_aload_n F 0 rfl rfl (by decide) dX12_layBend_12 ?_
  refine gw_aload_n F 0 rfl rfl (by decide) dX12_layBend_13 ?_
  refine gw_get7 F (so_64 hst) (by decide) rfl sg_lay_RX12 (j := 14) (by decide) (o1 := 66) (by first | rfl | omega) rfl (host := "") (.inl kw_970) dX12_layBend_14 (fun h6 => ?_)
  refine gw_iload_n F 1 rfl rfl dX12_layBend_17 ?_
  refine gw_iconst F dX12_layBend_18 ?_
  refine gw_iadd F rfl dX12_layBend_19 ?_
  obtain ⟨⟨b70, b71⟩, hf⟩ := hf
  refine gw_iald F (sa_66 hst) b70 b71 dX12_layBend_20 (fun h8 => ?_)
  obtain ⟨s9, e10⟩ : ∃ z : sg_M, z = sg_up s4 64 28 (s4 66 (x1 + 1)) := ⟨_, rfl⟩
  have hf := hf s9 e10
  refine gw_put0 F (so_64 hst) (by decide) rfl sg_lay_RX12 (j := 28) (by decide) h8 e10 tyX12_ok nmX12 rfl (tyX12_ok 28 (by decide)) rfl (host := "") (.inl kw_984) dX12_layBend_21 ?_
  refine gw_aload_n F 0 rfl rfl (by decide) dX12_layBend_24 ?_
  refine gw_iconst F dX12_layBend_25 ?_
  obtain ⟨s11, e12⟩ : ∃ z : sg_M, z = sg_up s9 64 30 (-1) := ⟨_, rfl⟩
  have hf := hf s11 e12
  refine gw_put0 F (so_64 hst) (by decide) rfl sg_lay_RX12 (j := 30) (by decide) (by decide) e12 tyX12_ok nmX12 rfl (tyX12_ok 30 (by decide)) rfl (host := "") (.inl kw_986) dX12_layBend_26 ?_
  refine gw_aload_n F 0 rfl rfl (by decide) dX12_layBend_29 ?_
  refine gw_iconst F dX12_layBend_30 ?_
  obtain ⟨s13, e14⟩ : ∃ z : sg_M, z = sg_up s11 64 31 0 := ⟨_, rfl⟩
  have hf := hf s13 e14
  refine gw_put0 F (so_64 hst) (by decide) rfl sg_lay_RX12 (j := 31) (by decide) (by decide) e14 tyX12_ok nmX12 rfl (tyX12_ok 31 (by decide)) rfl (host := "") (.inl kw_987) dX12_layBend_31 ?_
  refine gw_iconst F dX12_layBend_34 ?_
  refine gw_istore F (by decide) rfl dX12_layBend_35 ?_
  have L37 : ∀ (k286 : sg_M → Prop) (hk286 : ∀ (s_286e37 : sg_M), k286 s_286e37 → sg_W p l e (sg_rm 2 0 0) s m args below meth c (MQ below (sg_Q (none) G La s.heap.size (sg_HV La Q)) args s 0 0 (sg_A La s.heap.size)) 10 G (sg_A La s.heap.size) La s_286e37 0 0 286 [(0, sg_r 64)] []), ∀ n_37 : Nat, ∀ (s_37 : sg_M) (x6_37 : Int), sg_R x6_37 → fX12_layBend_L37 x1 x2 x3 x4 x5 k286 n_37 s_37 x6_37 → sg_W p l e (sg_rm 2 0 0) s m args below meth c (MQ below (sg_Q (none) G La s.heap.size (sg_HV La Q)) args s 0 0 (sg_A La s.heap.size)) 10 G (sg_A La s.heap.size) La s_37 0 0 37 [(0, sg_r 64), (1, sg_i x1), (2, sg_i x2), (3, sg_i x3), (4, sg_i x4), (5, sg_i x5), (6, sg_i x6_37)] [] := by
    intro k286 hk286 n_37
    induction n_37 with
    | zero => intro s_37 x6_37 r6_37 hf; exact hf.elim
    | succ n_37 ih =>
      intro s_37 x6_37 r6_37 hf
      unfold fX12_layBend_L37 at hf
      refine gw_iload F 6 rfl dX12_layBend_37 ?_
      refine gw_aload_n F 0 rfl rfl (by decide) dX12_layBend_39 ?_
      refine gw_get0 F (so_64 hst) (by decide) rfl sg_lay_RX12 (j := 27) (by decide) rfl (host := "") (.inl kw_983) dX12_layBend_40 (fun h15 => ?_)
      refine gw_icmp_ge F (tgt := 286) dX12_layBend_43 (by decide) r6_37 h15 (fun c16 => ?_) (fun c16 => ?_)
      · have hf := hf.1 c16
        refine gw_sub [0] rfl ?_
        exact hk286 s_37 hf
      · have hf := hf.2 c16
        refine gw_iload F 4 rfl dX12_layBend_46 ?_
        have J88 : ∀ (y0_88 : Int), sg_R y0_88 → (fX12_layBend_j88 x1 x2 x3 s_37 x6_37 (fX12_layBend_L37 x1 x2 x3 x4 x5 k286 n_37)) y0_88 → sg_W p l e (sg_rm 2 0 0) s m args below meth c (MQ below (sg_Q (none) G La s.heap.size (sg_HV La Q)) args s 0 0 (sg_A La s.heap.size)) 10 G (sg_A La s.heap.size) La s_37 0 0 88 [(0, sg_r 64), (1, sg_i x1), (2, sg_i x2), (3, sg_i x3), (4, sg_i x4), (5, sg_i x5), (6, sg_i x6_37)] [sg_i y0_88] := by
          intro y0_88 ry0_88 hf
          unfold fX12_layBend_j88 at hf
          refine gw_istore F (by decide) rfl dX12_layBend_88 ?_
          refine gw_iload_n F 3 rfl rfl dX12_layBend_90 ?_
          refine gw_aload_n F 1 rfl rfl (by decide) dX12_layBend_91 ?_
          refine gw_get0 F (so_64 hst) (by decide) rfl sg_lay_RX12 (j := 27) (by decide) rfl (host := "") (.inl kw_983) dX12_layBend_92 (fun h17 => ?_)
          refine gw_iconst F dX12_layBend_95 ?_
          refine gw_isub F rfl dX12_layBend_96 ?_
          refine gw_iload F 7 rfl dX12_layBend_97 ?_
          refine gw_isub F rfl dX12_layBend_99 ?_
          refine gw_imul F rfl dX12_layBend_100 ?_
          refine gw_iload_n F 4 rfl rfl dX12_layBend_101 ?_
          refine gw_iload F 7 rfl dX12_layBend_102 ?_
          refine gw_imul F rfl dX12_layBend_104 ?_
          refine gw_iadd F rfl dX12_layBend_105 ?_
          refine gw_aload_n F 1 rfl rfl (by decide) dX12_layBend_106 ?_
          refine gw_get0 F (so_64 hst) (by decide) rfl sg_lay_RX12 (j := 27) (by decide) rfl (host := "") (.inl kw_983) dX12_layBend_107 (fun h18 => ?_)
          refine gw_iconst F dX12_layBend_110 ?_
          refine gw_isub F rfl dX12_layBend_111 ?_
          obtain ⟨g19, hf⟩ := hf
          obtain ⟨g20, hf⟩ := hf
          obtain ⟨g21, hf⟩ := hf
          refine gw_idiv F g19 g20 g21 rfl dX12_layBend_112 ?_
          obtain ⟨v22, e23⟩ : ∃ z : Int, z = (Int.tdiv ((x2 * (((s_37 64 27) - 1) - x6_37)) + (x3 * x6_37)) ((s_37 64 27) - 1)) := ⟨_, rfl⟩
          obtain ⟨g24, hf⟩ := hf v22 e23
          refine gw_nmI e23 ?_
          refine gw_istore F (by decide) rfl dX12_layBend_113 ?_
          refine gw_ldc2 F (n := 1000) kw_1121 rfl dX12_layBend_115 ?_
          refine gw_iload F 0 rfl dX12_layBend_118 ?_
          refine gw_i2l F g24 dX12_layBend_120 ?_
          refine gw_lmul F rfl dX12_layBend_121 ?_
          refine gw_aload_n F 2 rfl rfl (by decide) dX12_layBend_122 ?_
          refine gw_iload_n F 3 rfl rfl dX12_layBend_123 ?_
          refine gw_iload F 8 rfl dX12_layBend_124 ?_
          refine gw_iload F 1 rfl dX12_layBend_126 ?_
          refine gk_PI F (gc_V F (S := [sg_l (1000 * v22)]) (As := [sg_i x1, sg_i x6_37, sg_i y0_88]) (T := TX12) (N := 62) (CX12_stiffness hst r1 r6_37 ry0_88 hf) (so_64 hst) (by decide) rfl kw_1110 kw_103 kw_1108 kw_1109 kw_54 hcX12_stiffness ⟨by decide, by decide⟩ rfl rfl (Nat.le_of_ble_eq_true rfl) ⟨by decide, by decide⟩ dX12_layBend_128) (fun u25 h26 hf => ?_)
          refine gw_i2l F h26 dX12_layBend_131 ?_
          obtain ⟨g27, hf⟩ := hf
          obtain ⟨g28, hf⟩ := hf
          refine gw_ldiv F g27 (sg_R_64 h26) g28 rfl dX12_layBend_132 ?_
          refine gw_l2i F dX12_layBend_133 ?_
          refine gw_aload_n F 2 rfl rfl (by decide) dX12_layBend_134 ?_
          refine gw_get7 F (so_64 hst) (by decide) rfl sg_lay_RX12 (j := 14) (by decide) (o1 := 66) (by first | rfl | omega) rfl (host := "") (.inl kw_970) dX12_layBend_135 (fun h29 => ?_)
          refine gw_iload_n F 3 rfl rfl dX12_layBend_138 ?_
          refine gw_bipush F rfl dX12_layBend_139 ?_
          refine gw_iadd F rfl dX12_layBend_141 ?_
          refine gw_iconst F dX12_layBend_142 ?_
          refine gw_iload F 8 rfl dX12_layBend_143 ?_
          refine gw_imul F rfl dX12_layBend_145 ?_
          refine gw_iadd F rfl dX12_layBend_146 ?_
          refine gw_iconst F dX12_layBend_147 ?_
          refine gw_iadd F rfl dX12_layBend_148 ?_
          obtain ⟨⟨b300, b301⟩, hf⟩ := hf
          refine gw_iald F (sa_66 hst) b300 b301 dX12_layBend_149 (fun h31 => ?_)
          refine gw_iadd F rfl dX12_layBend_150 ?_
          obtain ⟨v32, e33⟩ : ∃ z : Int, z = ((Int.tdiv (1000 * v22) u25) + (s_37 66 (((x1 + 10) + (4 * x6_37)) + 3))) := ⟨_, rfl⟩
          obtain ⟨g34, hf⟩ := hf v32 e33
          refine gw_nmI e33 ?_
          refine gw_istore F (by decide) rfl dX12_layBend_151 ?_
          refine gw_iload F 0 rfl dX12_layBend_153 ?_
          refine gw_sipush F rfl dX12_layBend_155 ?_
          have J166 : ∀ (x9_166 : Int), sg_R x9_166 → (fX12_layBend_j166 x1 s_37 x6_37 y0_88 (fX12_layBend_L37 x1 x2 x3 x4 x5 k286 n_37)) x9_166 → sg_W p l e (sg_rm 2 0 0) s m args below meth c (MQ below (sg_Q (none) G La s.heap.size (sg_HV La Q)) args s 0 0 (sg_A La s.heap.size)) 10 G (sg_A La s.heap.size) La s_37 0 0 166 [(0, sg_r 64), (1, sg_i x1), (2, sg_i x2), (3, sg_i x3), (4, sg_i x4), (5, sg_i x5), (6, sg_i x6_37), (7, sg_i y0_88), (9, sg_i x9_166)] [] := by
            intro x9_166 r9_166 hf
            unfold fX12_layBend_j166 at hf
            refine gw_iload F 8 rfl dX12_layBend_166 ?_
            refine gw_sipush F rfl dX12_layBend_168 ?_
            have J179 : ∀ (x9_179 : Int), sg_R x9_179 → (fX12_layBend_j179 x1 s_37 x6_37 y0_88 (fX12_layBend_L37 x1 x2 x3 x4 x5 k286 n_37)) x9_179 → sg_W p l e (sg_rm 2 0 0) s m args below meth c (MQ below (sg_Q (none) G La s.heap.size (sg_HV La Q)) args s 0 0 (sg_A La s.heap.size)) 10 G (sg_A La s.heap.size) La s_37 0 0 179 [(0, sg_r 64), (1, sg_i x1), (2, sg_i x2), (3, sg_i x3), (4, sg_i x4), (5, sg_i x5), (6, sg_i x6_37), (7, sg_i y0_88), (9, sg_i x9_179)] [] := by
              intro x9_179 r9_179 hf
              unfold fX12_layBend_j179 at hf
              refine gw_aload_n F 0 rfl rfl (by decide) dX12_layBend_179 ?_
              refine gw_get7 F (so_64 hst) (by decide) rfl sg_lay_RX12 (j := 22) (by decide) (o1 := 72) (by first | rfl | omega) rfl (host := "") (.inl kw_978) dX12_layBend_180 (fun h35 => ?_)
              refine gw_iload F 6 rfl dX12_layBend_183 ?_
              refine gw_iload F 8 rfl dX12_layBend_185 ?_
              obtain ⟨⟨b360, b361⟩, hf⟩ := hf
              obtain ⟨s37, e38⟩ : ∃ z : sg_M, z = sg_up s_37 72 x6_37 x9_179 := ⟨_, rfl⟩
              have hf := hf s37 e38
              refine gw_iast F (sa_72 hst) b360 b361 r9_179 e38 dX12_layBend_187 ?_
              refine gw_aload_n F 0 rfl rfl (by decide) dX12_layBend_188 ?_
              refine gw_get7 F (so_64 hst) (by decide) rfl sg_lay_RX12 (j := 23) (by decide) (o1 := 73) (by first | rfl | omega) rfl (host := "") (.inl kw_979) dX12_layBend_189 (fun h39 => ?_)
              refine gw_iload F 6 rfl dX12_layBend_192 ?_
              refine gw_iload F 8 rfl dX12_layBend_194 ?_
              refine gw_iload F 8 rfl dX12_layBend_196 ?_
              refine gw_imul F rfl dX12_layBend_198 ?_
              obtain ⟨⟨b400, b401⟩, hf⟩ := hf
              obtain ⟨g41, hf⟩ := hf
              obtain ⟨s42, e43⟩ : ∃ z : sg_M, z = sg_up s37 73 x6_37 (x9_179 * x9_179) := ⟨_, rfl⟩
              have hf := hf s42 e43
              refine gw_iast F (sa_73 hst) b400 b401 g41 e43 dX12_layBend_199 ?_
              refine gw_aload_n F 0 rfl rfl (by decide) dX12_layBend_200 ?_
              refine gw_get7 F (so_64 hst) (by decide) rfl sg_lay_RX12 (j := 24) (by decide) (o1 := 74) (by first | rfl | omega) rfl (host := "") (.inl kw_980) dX12_layBend_201 (fun h44 => ?_)
              refine gw_iload F 6 rfl dX12_layBend_204 ?_
              refine gw_iload F 8 rfl dX12_layBend_206 ?_
              have J219 : ∀ (y0_219 : Int), sg_R y0_219 → (fX12_layBend_j219 x1 x6_37 y0_88 s42 (fX12_layBend_L37 x1 x2 x3 x4 x5 k286 n_37)) y0_219 → sg_W p l e (sg_rm 2 0 0) s m args below meth c (MQ below (sg_Q (none) G La s.heap.size (sg_HV La Q)) args s 0 0 (sg_A La s.heap.size)) 10 G (sg_A La s.heap.size) La s42 0 0 219 [(0, sg_r 64), (1, sg_i x1), (2, sg_i x2), (3, sg_i x3), (4, sg_i x4), (5, sg_i x5), (6, sg_i x6_37), (7, sg_i y0_88)] [sg_i y0_219, sg_i x6_37, sg_r 74] := by
                intro y0_219 ry0_219 hf
                unfold fX12_layBend_j219 at hf
                refine gw_iload F 7 rfl dX12_layBend_219 ?_
                refine gw_imul F rfl dX12_layBend_221 ?_
                obtain ⟨⟨b450, b451⟩, hf⟩ := hf
                obtain ⟨g46, hf⟩ := hf
                obtain ⟨s47, e48⟩ : ∃ z : sg_M, z = sg_up s42 74 x6_37 (y0_219 * y0_88) := ⟨_, rfl⟩
                have hf := hf s47 e48
                refine gw_iast F (sa_74 hst) b450 b451 g46 e48 dX12_layBend_222 ?_
                refine gw_aload_n F 0 rfl rfl (by decide) dX12_layBend_223 ?_
                refine gw_get7 F (so_64 hst) (by decide) rfl sg_lay_RX12 (j := 24) (by decide) (o1 := 74) (by first | rfl | omega) rfl (host := "") (.inl kw_980) dX12_layBend_224 (fun h49 => ?_)
                refine gw_iload F 6 rfl dX12_layBend_227 ?_
                obtain ⟨⟨b500, b501⟩, hf⟩ := hf
                refine gw_iald F (sa_74 hst) b500 b501 dX12_layBend_229 (fun h51 => ?_)
                refine gw_aload_n F 0 rfl rfl (by decide) dX12_layBend_230 ?_
                refine gw_get0 F (so_64 hst) (by decide) rfl sg_lay_RX12 (j := 31) (by decide) rfl (host := "") (.inl kw_987) dX12_layBend_231 (fun h52 => ?_)
                have J248 : ∀ (s_248 : sg_M), (fX12_layBend_j248 x1 x6_37 (fX12_layBend_L37 x1 x2 x3 x4 x5 k286 n_37)) s_248 → sg_W p l e (sg_rm 2 0 0) s m args below meth c (MQ below (sg_Q (none) G La s.heap.size (sg_HV La Q)) args s 0 0 (sg_A La s.heap.size)) 10 G (sg_A La s.heap.size) La s_248 0 0 248 [(0, sg_r 64), (1, sg_i x1), (2, sg_i x2), (3, sg_i x3), (4, sg_i x4), (5, sg_i x5), (6, sg_i x6_37)] [] := by
                  intro s_248 hf
                  unfold fX12_layBend_j248 at hf
                  refine gw_aload_n F 0 rfl rfl (by decide) dX12_layBend_248 ?_
                  refine gw_get0 F (so_64 hst) (by decide) rfl sg_lay_RX12 (j := 30) (by decide) rfl (host := "") (.inl kw_986) dX12_layBend_249 (fun h53 => ?_)
                  refine gw_iconst F dX12_layBend_252 ?_
                  have J280 : ∀ (s_280 : sg_M), (fX12_layBend_j280 x6_37 (fX12_layBend_L37 x1 x2 x3 x4 x5 k286 n_37)) s_280 → sg_W p l e (sg_rm 2 0 0) s m args below meth c (MQ below (sg_Q (none) G La s.heap.size (sg_HV La Q)) args s 0 0 (sg_A La s.heap.size)) 10 G (sg_A La s.heap.size) La s_280 0 0 280 [(0, sg_r 64), (1, sg_i x1), (2, sg_i x2), (3, sg_i x3), (4, sg_i x4), (5, sg_i x5), (6, sg_i x6_37)] [] := by
                    intro s_280 hf
                    unfold fX12_layBend_j280 at hf
                    refine gw_iinc F (z := (x6_37 + 1)) 6 rfl (by omega) (by decide) rfl dX12_layBend_280 ?_
                    refine gw_goto F (tgt := 37) dX12_layBend_283 (by decide) ?_
                    obtain ⟨g54, hf⟩ := hf
                    refine gw_sub [1, 2, 3, 4, 5, 6, 0] rfl ?_
                    exact ih s_280 (x6_37 + 1) g54 hf
                  refine gw_icmp_ne F (tgt := 280) dX12_layBend_253 (by decide) h53 (by decide) (fun c55 => ?_) (fun c55 => ?_)
                  · have hf := hf.1 c55
                    refine gw_sub [0, 1, 2, 3, 4, 5, 6] rfl ?_
                    exact J280 s_248 hf
                  · have hf := hf.2 c55
                    refine gw_aload_n F 0 rfl rfl (by decide) dX12_layBend_256 ?_
                    refine gw_get7 F (so_64 hst) (by decide) rfl sg_lay_RX12 (j := 24) (by decide) (o1 := 74) (by first | rfl | omega) rfl (host := "") (.inl kw_980) dX12_layBend_257 (fun h56 => ?_)
                    refine gw_iload F 6 rfl dX12_layBend_260 ?_
                    obtain ⟨⟨b570, b571⟩, hf⟩ := hf
                    refine gw_iald F (sa_74 hst) b570 b571 dX12_layBend_262 (fun h58 => ?_)
                    refine gw_aload_n F 0 rfl rfl (by decide) dX12_layBend_263 ?_
                    refine gw_get7 F (so_64 hst) (by decide) rfl sg_lay_RX12 (j := 14) (by decide) (o1 := 66) (by first | rfl | omega) rfl (host := "") (.inl kw_970) dX12_layBend_264 (fun h59 => ?_)
                    refine gw_iload_n F 1 rfl rfl dX12_layBend_267 ?_
                    refine gw_iconst F dX12_layBend_268 ?_
                    refine gw_iadd F rfl dX12_layBend_269 ?_
                    obtain ⟨⟨b600, b601⟩, hf⟩ := hf
                    refine gw_iald F (sa_66 hst) b600 b601 dX12_layBend_270 (fun h61 => ?_)
                    refine gw_icmp_le F (tgt := 280) dX12_layBend_271 (by decide) h58 h61 (fun c62 => ?_) (fun c62 => ?_)
                    · have hf := hf.1 c62
                      refine gw_sub [0, 1, 2, 3, 4, 5, 6] rfl ?_
                      exact J280 s_248 hf
                    · have hf := hf.2 c62
                      refine gw_aload_n F 0 rfl rfl (by decide) dX12_layBend_274 ?_
                      refine gw_iload F 6 rfl dX12_layBend_275 ?_
                      obtain ⟨s63, e64⟩ : ∃ z : sg_M, z = sg_up s_248 64 30 x6_37 := ⟨_, rfl⟩
                      have hf := hf s63 e64
                      refine gw_put0 F (so_64 hst) (by decide) rfl sg_lay_RX12 (j := 30) (by decide) r6_37 e64 tyX12_ok nmX12 rfl (tyX12_ok 30 (by decide)) rfl (host := "") (.inl kw_986) dX12_layBend_277 ?_
                      refine gw_sub [0, 1, 2, 3, 4, 5, 6] rfl ?_
                      exact J280 s63 hf
                refine gw_icmp_le F (tgt := 248) dX12_layBend_234 (by decide) h51 h52 (fun c65 => ?_) (fun c65 => ?_)
                · have hf := hf.1 c65
                  refine gw_sub [0, 1, 2, 3, 4, 5, 6] rfl ?_
                  exact J248 s47 hf
                · have hf := hf.2 c65
                  refine gw_aload_n F 0 rfl rfl (by decide) dX12_layBend_237 ?_
                  refine gw_aload_n F 0 rfl rfl (by decide) dX12_layBend_238 ?_
                  refine gw_get7 F (so_64 hst) (by decide) rfl sg_lay_RX12 (j := 24) (by decide) (o1 := 74) (by first | rfl | omega) rfl (host := "") (.inl kw_980) dX12_layBend_239 (fun h66 => ?_)
                  refine gw_iload F 6 rfl dX12_layBend_242 ?_
                  obtain ⟨⟨b670, b671⟩, hf⟩ := hf
                  refine gw_iald F (sa_74 hst) b670 b671 dX12_layBend_244 (fun h68 => ?_)
                  obtain ⟨s69, e70⟩ : ∃ z : sg_M, z = sg_up s47 64 31 (s47 74 x6_37) := ⟨_, rfl⟩
                  have hf := hf s69 e70
                  refine gw_put0 F (so_64 hst) (by decide) rfl sg_lay_RX12 (j := 31) (by decide) h68 e70 tyX12_ok nmX12 rfl (tyX12_ok 31 (by decide)) rfl (host := "") (.inl kw_987) dX12_layBend_245 ?_
                  refine gw_sub [0, 1, 2, 3, 4, 5, 6] rfl ?_
                  exact J248 s69 hf
              refine gw_if_ge F (tgt := 217) dX12_layBend_208 (by decide) r9_179 (fun c71 => ?_) (fun c71 => ?_)
              · have hf := hf.1 c71
                refine gw_iload F 8 rfl dX12_layBend_217 ?_
                refine gw_sub [0, 1, 2, 3, 4, 5, 6, 7] rfl ?_
                exact J219 x9_179 r9_179 hf
              · have hf := hf.2 c71
                refine gw_iload F 8 rfl dX12_layBend_211 ?_
                refine gw_ineg F rfl dX12_layBend_213 ?_
                refine gw_goto F (tgt := 219) dX12_layBend_214 (by decide) ?_
                obtain ⟨g72, hf⟩ := hf
                refine gw_sub [0, 1, 2, 3, 4, 5, 6, 7] rfl ?_
                exact J219 (-x9_179) g72 hf
            refine gw_icmp_ge F (tgt := 179) dX12_layBend_171 (by decide) r9_166 (by decide) (fun c73 => ?_) (fun c73 => ?_)
            · have hf := hf.1 c73
              refine gw_sub [0, 1, 2, 3, 4, 5, 6, 7, 8] rfl ?_
              exact J179 x9_166 r9_166 hf
            · have hf := hf.2 c73
              refine gw_sipush F rfl dX12_layBend_174 ?_
              refine gw_istore F (by decide) rfl dX12_layBend_177 ?_
              refine gw_sub [1, 2, 3, 4, 5, 6, 7, 8, 0] rfl ?_
              exact J179 (-2000) (by decide) hf
          refine gw_icmp_le F (tgt := 166) dX12_layBend_158 (by decide) g34 (by decide) (fun c74 => ?_) (fun c74 => ?_)
          · have hf := hf.1 c74
            refine gw_sub [3, 4, 5, 6, 7, 8, 9, 2, 0] rfl ?_
            exact J166 v32 g34 hf
          · have hf := hf.2 c74
            refine gw_sipush F rfl dX12_layBend_161 ?_
            refine gw_istore F (by decide) rfl dX12_layBend_164 ?_
            refine gw_sub [3, 4, 5, 6, 7, 8, 9, 2, 0] rfl ?_
            exact J166 2000 (by decide) hf
        refine gw_if_ne F (tgt := 70) dX12_layBend_48 (by decide) r4 (fun c75 => ?_) (fun c75 => ?_)
        · have hf := hf.1 c75
          refine gw_iload F 4 rfl dX12_layBend_70 ?_
          refine gw_iload F 5 rfl dX12_layBend_72 ?_
          refine gw_iload F 4 rfl dX12_layBend_74 ?_
          refine gw_isub F rfl dX12_layBend_76 ?_
          refine gw_iload F 6 rfl dX12_layBend_77 ?_
          refine gw_imul F rfl dX12_layBend_79 ?_
          refine gw_aload_n F 0 rfl rfl (by decide) dX12_layBend_80 ?_
          refine gw_get0 F (so_64 hst) (by decide) rfl sg_lay_RX12 (j := 27) (by decide) rfl (host := "") (.inl kw_983) dX12_layBend_81 (fun h76 => ?_)
          refine gw_iconst F dX12_layBend_84 ?_
          refine gw_isub F rfl dX12_layBend_85 ?_
          obtain ⟨g77, hf⟩ := hf
          obtain ⟨g78, hf⟩ := hf
          obtain ⟨g79, hf⟩ := hf
          refine gw_idiv F g77 g78 g79 rfl dX12_layBend_86 ?_
          refine gw_iadd F rfl dX12_layBend_87 ?_
          obtain ⟨g80, hf⟩ := hf
          refine gw_sub [0, 1, 2, 3, 4, 5, 6] rfl ?_
          exact J88 (x4 + (Int.tdiv ((x5 - x4) * x6_37) ((s_37 64 27) - 1))) g80 hf
        · have hf := hf.2 c75
          refine gw_aload_n F 0 rfl rfl (by decide) dX12_layBend_51 ?_
          refine gw_get7 F (so_64 hst) (by decide) rfl sg_lay_RX12 (j := 14) (by decide) (o1 := 66) (by first | rfl | omega) rfl (host := "") (.inl kw_970) dX12_layBend_52 (fun h81 => ?_)
          refine gw_iload_n F 1 rfl rfl dX12_layBend_55 ?_
          refine gw_bipush F rfl dX12_layBend_56 ?_
          refine gw_iadd F rfl dX12_layBend_58 ?_
          refine gw_iconst F dX12_layBend_59 ?_
          refine gw_iload F 6 rfl dX12_layBend_60 ?_
          refine gw_imul F rfl dX12_layBend_62 ?_
          refine gw_iadd F rfl dX12_layBend_63 ?_
          refine gw_iconst F dX12_layBend_64 ?_
          refine gw_iadd F rfl dX12_layBend_65 ?_
          obtain ⟨⟨b820, b821⟩, hf⟩ := hf
          refine gw_iald F (sa_66 hst) b820 b821 dX12_layBend_66 (fun h83 => ?_)
          refine gw_goto F (tgt := 88) dX12_layBend_67 (by decide) ?_
          refine gw_sub [0, 1, 2, 3, 4, 5, 6] rfl ?_
          exact J88 (s_37 66 (((x1 + 10) + (4 * x6_37)) + 1)) h83 hf
  obtain ⟨n84, hf⟩ := hf
  refine gw_sub [1, 2, 3, 4, 5, 6, 0] rfl ?_
  refine L37 _ (fun s_286e37 hf => ?_) n84 s13 0 (by decide) hf
  refine gw_aload_n F 0 rfl rfl (by decide) dX12_layBend_286 ?_
  refine gw_iconst F dX12_layBend_287 ?_
  obtain ⟨s85, e86⟩ : ∃ z : sg_M, z = sg_up s_286e37 64 29 0 := ⟨_, rfl⟩
  have hf := hf s85 e86
  refine gw_put0 F (so_64 hst) (by decide) rfl sg_lay_RX12 (j := 29) (by decide) (by decide) e86 tyX12_ok nmX12 rfl (tyX12_ok 29 (by decide)) rfl (host := "") (.inl kw_985) dX12_layBend_288 ?_
  refine gw_iconst F dX12_layBend_291 ?_
  refine gw_istore F (by decide) rfl dX12_layBend_292 ?_
  have L294 : ∀ n_294 : Nat, ∀ (s_294 : sg_M) (x6_294 : Int), sg_R x6_294 → fX12_layBend_L294  Q n_294 s_294 x6_294 → sg_W p l e (sg_rm 2 0 0) s m args below meth c (MQ below (sg_Q (none) G La s.heap.size (sg_HV La Q)) args s 0 0 (sg_A La s.heap.size)) 10 G (sg_A La s.heap.size) La s_294 0 0 294 [(0, sg_r 64), (6, sg_i x6_294)] [] := by
    intro n_294
    induction n_294 with
    | zero => intro s_294 x6_294 r6_294 hf; exact hf.elim
    | succ n_294 ih =>
      intro s_294 x6_294 r6_294 hf
      unfold fX12_layBend_L294 at hf
      refine gw_iload F 1 rfl dX12_layBend_294 ?_
      refine gw_aload_n F 0 rfl rfl (by decide) dX12_layBend_296 ?_
      refine gw_get0 F (so_64 hst) (by decide) rfl sg_lay_RX12 (j := 27) (by decide) rfl (host := "") (.inl kw_983) dX12_layBend_297 (fun h87 => ?_)
      refine gw_icmp_ge F (tgt := 356) dX12_layBend_300 (by decide) r6_294 h87 (fun c88 => ?_) (fun c88 => ?_)
      · have hf := hf.1 c88
        exact gr_HV F hf (by decide) (by decide) dX12_layBend_356
      · have hf := hf.2 c88
        refine gw_aload_n F 0 rfl rfl (by decide) dX12_layBend_303 ?_
        refine gw_get7 F (so_64 hst) (by decide) rfl sg_lay_RX12 (j := 26) (by decide) (o1 := 76) (by first | rfl | omega) rfl (host := "") (.inl kw_982) dX12_layBend_304 (fun h89 => ?_)
        refine gw_iload F 1 rfl dX12_layBend_307 ?_
        refine gw_aload_n F 0 rfl rfl (by decide) dX12_layBend_309 ?_
        refine gw_iload F 1 rfl dX12_layBend_310 ?_
        refine gk_PZ F (gc_V F (S := [sg_i x6_294, sg_r 76]) (As := [sg_i x6_294]) (T := TX12) (N := 62) (CX12_isShutIn hst r6_294 hf) (so_64 hst) (by decide) rfl kw_1124 kw_103 kw_1122 kw_1123 kw_56 hcX12_isShutIn ⟨by decide, by decide⟩ rfl rfl (Nat.le_of_ble_eq_true rfl) ⟨by decide, by decide⟩ dX12_layBend_312) (fun u90 h91 hf => ?_)
        obtain ⟨⟨b920, b921⟩, hf⟩ := hf
        obtain ⟨s93, e94⟩ : ∃ z : sg_M, z = sg_up s_294 76 x6_294 u90 := ⟨_, rfl⟩
        have hf := hf s93 e94
        refine gw_zast F (n := 60) (so_76 hst) (by decide) (by decide) (by decide) b920 b921 h91 e94 dX12_layBend_315 ?_
        refine gw_aload_n F 0 rfl rfl (by decide) dX12_layBend_316 ?_
        refine gw_get7 F (so_64 hst) (by decide) rfl sg_lay_RX12 (j := 26) (by decide) (o1 := 76) (by first | rfl | omega) rfl (host := "") (.inl kw_982) dX12_layBend_317 (fun h95 => ?_)
        refine gw_iload F 1 rfl dX12_layBend_320 ?_
        obtain ⟨⟨b960, b961⟩, hf⟩ := hf
        refine gw_zald F (n := 60) (so_76 hst) (by decide) (by decide) (by decide) b960 b961 dX12_layBend_322 (fun h97 => ?_)
        have J350 : ∀ (s_350 : sg_M), (fX12_layBend_j350 x6_294 (fX12_layBend_L294  Q n_294)) s_350 → sg_W p l e (sg_rm 2 0 0) s m args below meth c (MQ below (sg_Q (none) G La s.heap.size (sg_HV La Q)) args s 0 0 (sg_A La s.heap.size)) 10 G (sg_A La s.heap.size) La s_350 0 0 350 [(0, sg_r 64), (6, sg_i x6_294)] [] := by
          intro s_350 hf
          unfold fX12_layBend_j350 at hf
          refine gw_iinc F (z := (x6_294 + 1)) 1 rfl (by omega) (by decide) rfl dX12_layBend_350 ?_
          refine gw_goto F (tgt := 294) dX12_layBend_353 (by decide) ?_
          obtain ⟨g98, hf⟩ := hf
          refine gw_sub [1, 0] rfl ?_
          exact ih s_350 (x6_294 + 1) g98 hf
        refine gw_if_ne F (tgt := 329) dX12_layBend_323 (by decide) (sg_B_R h97) (fun c99 => ?_) (fun c99 => ?_)
        · have hf := hf.1 c99
          refine gw_aload_n F 0 rfl rfl (by decide) dX12_layBend_329 ?_
          refine gw_get7 F (so_64 hst) (by decide) rfl sg_lay_RX12 (j := 25) (by decide) (o1 := 75) (by first | rfl | omega) rfl (host := "") (.inl kw_981) dX12_layBend_330 (fun h100 => ?_)
          refine gw_aload_n F 0 rfl rfl (by decide) dX12_layBend_333 ?_
          refine gw_get0 F (so_64 hst) (by decide) rfl sg_lay_RX12 (j := 29) (by decide) rfl (host := "") (.inl kw_985) dX12_layBend_334 (fun h101 => ?_)
          refine gw_iload F 1 rfl dX12_layBend_337 ?_
          obtain ⟨⟨b1020, b1021⟩, hf⟩ := hf
          obtain ⟨s103, e104⟩ : ∃ z : sg_M, z = sg_up s93 75 (s93 64 29) x6_294 := ⟨_, rfl⟩
          have hf := hf s103 e104
          refine gw_iast F (sa_75 hst) b1020 b1021 r6_294 e104 dX12_layBend_339 ?_
          refine gw_aload_n F 0 rfl rfl (by decide) dX12_layBend_340 ?_
          refine gw_dup F rfl dX12_layBend_341 ?_
          refine gw_get0 F (so_64 hst) (by decide) rfl sg_lay_RX12 (j := 29) (by decide) rfl (host := "") (.inl kw_985) dX12_layBend_342 (fun h105 => ?_)
          refine gw_iconst F dX12_layBend_345 ?_
          refine gw_iadd F rfl dX12_layBend_346 ?_
          obtain ⟨g106, hf⟩ := hf
          obtain ⟨s107, e108⟩ : ∃ z : sg_M, z = sg_up s103 64 29 ((s103 64 29) + 1) := ⟨_, rfl⟩
          have hf := hf s107 e108
          refine gw_put0 F (so_64 hst) (by decide) rfl sg_lay_RX12 (j := 29) (by decide) g106 e108 tyX12_ok nmX12 rfl (tyX12_ok 29 (by decide)) rfl (host := "") (.inl kw_985) dX12_layBend_347 ?_
          refine gw_sub [0, 1] rfl ?_
          exact J350 s107 hf
        · have hf := hf.2 c99
          refine gw_goto F (tgt := 350) dX12_layBend_326 (by decide) ?_
          refine gw_sub [0, 1] rfl ?_
          exact J350 s93 hf
  obtain ⟨n109, hf⟩ := hf
  refine gw_sub [1, 0] rfl ?_
  refine L294   n109 s85 0 (by decide) hf

theorem dX12_root_0 : decode cX12_root 0 = .ok (.iconst 0, 1) := by decide +kernel
theorem dX12_root_1 : decode cX12_root 1 = .ok (.istore_n 1, 1) := by decide +kernel
theorem dX12_root_2 : decode cX12_root 2 = .ok (.sipush 2048, 3) := by decide +kernel
theorem dX12_root_5 : decode cX12_root 5 = .ok (.istore_n 2, 1) := by decide +kernel
theorem dX12_root_6 : decode cX12_root 6 = .ok (.iload_n 2, 1) := by decide +kernel
theorem dX12_root_7 : decode cX12_root 7 = .ok (.ifCond .le 25, 3) := by decide +kernel
theorem dX12_root_10 : decode cX12_root 10 = .ok (.iload_n 1, 1) := by decide +kernel
theorem dX12_root_11 : decode cX12_root 11 = .ok (.iload_n 2, 1) := by decide +kernel
theorem dX12_root_12 : decode cX12_root 12 = .ok (.iadd, 1) := by decide +kernel
theorem dX12_root_13 : decode cX12_root 13 = .ok (.iload_n 1, 1) := by decide +kernel
theorem dX12_root_14 : decode cX12_root 14 = .ok (.iload_n 2, 1) := by decide +kernel
theorem dX12_root_15 : decode cX12_root 15 = .ok (.iadd, 1) := by decide +kernel
theorem dX12_root_16 : decode cX12_root 16 = .ok (.imul, 1) := by decide +kernel
theorem dX12_root_17 : decode cX12_root 17 = .ok (.iload_n 0, 1) := by decide +kernel
theorem dX12_root_18 : decode cX12_root 18 = .ok (.if_icmp .gt 7, 3) := by decide +kernel
theorem dX12_root_21 : decode cX12_root 21 = .ok (.iload_n 1, 1) := by decide +kernel
theorem dX12_root_22 : decode cX12_root 22 = .ok (.iload_n 2, 1) := by decide +kernel
theorem dX12_root_23 : decode cX12_root 23 = .ok (.iadd, 1) := by decide +kernel
theorem dX12_root_24 : decode cX12_root 24 = .ok (.istore_n 1, 1) := by decide +kernel
theorem dX12_root_25 : decode cX12_root 25 = .ok (.iload_n 2, 1) := by decide +kernel
theorem dX12_root_26 : decode cX12_root 26 = .ok (.iconst 1, 1) := by decide +kernel
theorem dX12_root_27 : decode cX12_root 27 = .ok (.ishr, 1) := by decide +kernel
theorem dX12_root_28 : decode cX12_root 28 = .ok (.istore_n 2, 1) := by decide +kernel
theorem dX12_root_29 : decode cX12_root 29 = .ok (.goto (-23), 3) := by decide +kernel
theorem dX12_root_32 : decode cX12_root 32 = .ok (.iload_n 1, 1) := by decide +kernel
theorem dX12_root_33 : decode cX12_root 33 = .ok (.ireturn, 1) := by decide +kernel
theorem hcX12_root : yX12_root.cls ≠ "java/lang/invoke/MethodHandle" ∧ yX12_root.cls ≠ "java/lang/invoke/VarHandle" ∧ (parseMethodDescriptor yX12_root.desc).map (fun d => d.parameters.length) = some 1 := ⟨by decide +kernel, by decide +kernel, by decide +kernel⟩
def fX12_root_j25 (x2_6 : Int) (k6 : Int → Int → Prop) (x1_25 : Int) : Prop := k6 x1_25 (sg_shr x2_6 1)
def fX12_root_L6 (x0 : Int) (Q : Int → Prop) : Nat → Int → Int → Prop
  | 0, _, _ => False
  | n_6 + 1, x1_6, x2_6 => ((x2_6 ≤ 0 → Q x1_6) ∧ (¬ (x2_6 ≤ 0) → sg_R ((x1_6 + x2_6) * (x1_6 + x2_6)) ∧ ((x0 < ((x1_6 + x2_6) * (x1_6 + x2_6)) → (fX12_root_j25 x2_6 (fX12_root_L6 x0 Q n_6)) x1_6) ∧ (¬ (x0 < ((x1_6 + x2_6) * (x1_6 + x2_6))) → sg_R (x1_6 + x2_6) ∧ (fX12_root_j25 x2_6 (fX12_root_L6 x0 Q n_6)) (x1_6 + x2_6)))))
def fX12_root (x0 : Int) (Q : Int → Prop) : Prop := (∃ n5 : Nat, fX12_root_L6 x0 Q n5 0 2048)
set_option maxHeartbeats 4000000 in
set_option maxRecDepth 100000 in
theorem CX12_root {l : Launch} {G : sg_G} {La : sg_L} {s0 : sg_M} {x0 : Int} (r0 : sg_R x0) {Q : Int → Prop} (hf : fX12_root x0 Q) : sg_C l G yX12_root cX12_root 3 (some .int) 1 0 0 La s0 [sg_i x0] (sg_PI La s0 Q) := by
  refine sg_body (by decide +kernel) (Nat.le_of_ble_eq_true rfl) ?_
  intro p e s m args below meth c F hnm
  unfold fX12_root at hf
  show sg_W p l e (sg_rm 1 0 0) s m args below meth c (MQ below (sg_Q (some .int) G La s.heap.size (sg_PI La s0 Q)) args s 0 0 (sg_A La s.heap.size)) 3 G (sg_A La s.heap.size) La s0 0 0 0 [(0, sg_i x0)] []
  refine gw_iconst F dX12_root_0 ?_
  refine gw_istore_n F rfl (by decide) rfl dX12_root_1 ?_
  refine gw_sipush F rfl dX12_root_2 ?_
  refine gw_istore_n F rfl (by decide) rfl dX12_root_5 ?_
  have L6 : ∀ n_6 : Nat, ∀ (x1_6 : Int) (x2_6 : Int), sg_R x1_6 → sg_R x2_6 → fX12_root_L6 x0 Q n_6 x1_6 x2_6 → sg_W p l e (sg_rm 1 0 0) s m args below meth c (MQ below (sg_Q (some .int) G La s.heap.size (sg_PI La s0 Q)) args s 0 0 (sg_A La s.heap.size)) 3 G (sg_A La s.heap.size) La s0 0 0 6 [(0, sg_i x0), (1, sg_i x1_6), (2, sg_i x2_6)] [] := by
    intro n_6
    induction n_6 with
    | zero => intro x1_6 x2_6 r1_6 r2_6 hf; exact hf.elim
    | succ n_6 ih =>
      intro x1_6 x2_6 r1_6 r2_6 hf
      unfold fX12_root_L6 at hf
      refine gw_iload_n F 2 rfl rfl dX12_root_6 ?_
      refine gw_if_le F (tgt := 32) dX12_root_7 (by decide) r2_6 (fun c1 => ?_) (fun c1 => ?_)
      · have hf := hf.1 c1
        refine gw_iload_n F 1 rfl rfl dX12_root_32 ?_
        exact gr_PI F r1_6 hf (by decide) (by decide) dX12_root_33
      · have hf := hf.2 c1
        refine gw_iload_n F 1 rfl rfl dX12_root_10 ?_
        refine gw_iload_n F 2 rfl rfl dX12_root_11 ?_
        refine gw_iadd F rfl dX12_root_12 ?_
        refine gw_iload_n F 1 rfl rfl dX12_root_13 ?_
        refine gw_iload_n F 2 rfl rfl dX12_root_14 ?_
        refine gw_iadd F rfl dX12_root_15 ?_
        refine gw_imul F rfl dX12_root_16 ?_
        refine gw_iload_n F 0 rfl rfl dX12_root_17 ?_
        have J25 : ∀ (x1_25 : Int), sg_R x1_25 → (fX12_root_j25 x2_6 (fX12_root_L6 x0 Q n_6)) x1_25 → sg_W p l e (sg_rm 1 0 0) s m args below meth c (MQ below (sg_Q (some .int) G La s.heap.size (sg_PI La s0 Q)) args s 0 0 (sg_A La s.heap.size)) 3 G (sg_A La s.heap.size) La s0 0 0 25 [(0, sg_i x0), (1, sg_i x1_25), (2, sg_i x2_6)] [] := by
          intro x1_25 r1_25 hf
          unfold fX12_root_j25 at hf
          refine gw_iload_n F 2 rfl rfl dX12_root_25 ?_
          refine gw_iconst F dX12_root_26 ?_
          refine gw_ishr F rfl dX12_root_27 ?_
          refine gw_istore_n F rfl (by decide) rfl dX12_root_28 ?_
          refine gw_goto F (tgt := 6) dX12_root_29 (by decide) ?_
          refine gw_sub [1, 2, 0] rfl ?_
          exact ih x1_25 (sg_shr x2_6 1) r1_25 (sg_shr_R _ _) hf
        obtain ⟨g2, hf⟩ := hf
        refine gw_icmp_gt F (tgt := 25) dX12_root_18 (by decide) g2 r0 (fun c3 => ?_) (fun c3 => ?_)
        · have hf := hf.1 c3
          refine gw_sub [0, 1, 2] rfl ?_
          exact J25 x1_6 r1_6 hf
        · have hf := hf.2 c3
          refine gw_iload_n F 1 rfl rfl dX12_root_21 ?_
          refine gw_iload_n F 2 rfl rfl dX12_root_22 ?_
          refine gw_iadd F rfl dX12_root_23 ?_
          refine gw_istore_n F rfl (by decide) rfl dX12_root_24 ?_
          obtain ⟨g4, hf⟩ := hf
          refine gw_sub [1, 0, 2] rfl ?_
          exact J25 (x1_6 + x2_6) g4 hf
  obtain ⟨n5, hf⟩ := hf
  refine gw_sub [2, 1, 0] rfl ?_
  refine L6   n5 0 2048 (by decide) (by decide) hf

theorem dX12_rings_0 : decode cX12_rings 0 = .ok (.aload_n 0, 1) := by decide +kernel
theorem dX12_rings_1 : decode cX12_rings 1 = .ok (.invokevirtual 252, 3) := by decide +kernel
theorem dX12_rings_4 : decode cX12_rings 4 = .ok (.ifCond .ne 5, 3) := by decide +kernel
theorem dX12_rings_7 : decode cX12_rings 7 = .ok (.iconst 0, 1) := by decide +kernel
theorem dX12_rings_8 : decode cX12_rings 8 = .ok (.ireturn, 1) := by decide +kernel
theorem dX12_rings_9 : decode cX12_rings 9 = .ok (.iconst 0, 1) := by decide +kernel
theorem dX12_rings_10 : decode cX12_rings 10 = .ok (.istore_n 2, 1) := by decide +kernel
theorem dX12_rings_11 : decode cX12_rings 11 = .ok (.iconst 0, 1) := by decide +kernel
theorem dX12_rings_12 : decode cX12_rings 12 = .ok (.istore_n 3, 1) := by decide +kernel
theorem dX12_rings_13 : decode cX12_rings 13 = .ok (.iconst 0, 1) := by decide +kernel
theorem dX12_rings_14 : decode cX12_rings 14 = .ok (.istore 4, 2) := by decide +kernel
theorem dX12_rings_16 : decode cX12_rings 16 = .ok (.iload 4, 2) := by decide +kernel
theorem dX12_rings_18 : decode cX12_rings 18 = .ok (.aload_n 0, 1) := by decide +kernel
theorem dX12_rings_19 : decode cX12_rings 19 = .ok (.getfield 239, 3) := by decide +kernel
theorem dX12_rings_22 : decode cX12_rings 22 = .ok (.if_icmp .ge 39, 3) := by decide +kernel
theorem dX12_rings_25 : decode cX12_rings 25 = .ok (.aload_n 0, 1) := by decide +kernel
theorem dX12_rings_26 : decode cX12_rings 26 = .ok (.getfield 35, 3) := by decide +kernel
theorem dX12_rings_29 : decode cX12_rings 29 = .ok (.iload 4, 2) := by decide +kernel
theorem dX12_rings_31 : decode cX12_rings 31 = .ok (.iaload, 1) := by decide +kernel
theorem dX12_rings_32 : decode cX12_rings 32 = .ok (.iload_n 1, 1) := by decide +kernel
theorem dX12_rings_33 : decode cX12_rings 33 = .ok (.iload_n 1, 1) := by decide +kernel
theorem dX12_rings_34 : decode cX12_rings 34 = .ok (.imul, 1) := by decide +kernel
theorem dX12_rings_35 : decode cX12_rings 35 = .ok (.if_icmp .le 20, 3) := by decide +kernel
theorem dX12_rings_38 : decode cX12_rings 38 = .ok (.iload_n 2, 1) := by decide +kernel
theorem dX12_rings_39 : decode cX12_rings 39 = .ok (.aload_n 0, 1) := by decide +kernel
theorem dX12_rings_40 : decode cX12_rings 40 = .ok (.getfield 35, 3) := by decide +kernel
theorem dX12_rings_43 : decode cX12_rings 43 = .ok (.iload 4, 2) := by decide +kernel
theorem dX12_rings_45 : decode cX12_rings 45 = .ok (.iaload, 1) := by decide +kernel
theorem dX12_rings_46 : decode cX12_rings 46 = .ok (.iload_n 1, 1) := by decide +kernel
theorem dX12_rings_47 : decode cX12_rings 47 = .ok (.iload_n 1, 1) := by decide +kernel
theorem dX12_rings_48 : decode cX12_rings 48 = .ok (.imul, 1) := by decide +kernel
theorem dX12_rings_49 : decode cX12_rings 49 = .ok (.isub, 1) := by decide +kernel
theorem dX12_rings_50 : decode cX12_rings 50 = .ok (.invokestatic 245, 3) := by decide +kernel
theorem dX12_rings_53 : decode cX12_rings 53 = .ok (.iadd, 1) := by decide +kernel
theorem dX12_rings_54 : decode cX12_rings 54 = .ok (.istore_n 2, 1) := by decide +kernel
theorem dX12_rings_55 : decode cX12_rings 55 = .ok (.iinc 4 1, 3) := by decide +kernel
theorem dX12_rings_58 : decode cX12_rings 58 = .ok (.goto (-42), 3) := by decide +kernel
theorem dX12_rings_61 : decode cX12_rings 61 = .ok (.aload_n 0, 1) := by decide +kernel
theorem dX12_rings_62 : decode cX12_rings 62 = .ok (.getfield 242, 3) := by decide +kernel
theorem dX12_rings_65 : decode cX12_rings 65 = .ok (.iconst 1, 1) := by decide +kernel
theorem dX12_rings_66 : decode cX12_rings 66 = .ok (.iadd, 1) := by decide +kernel
theorem dX12_rings_67 : decode cX12_rings 67 = .ok (.istore 4, 2) := by decide +kernel
theorem dX12_rings_69 : decode cX12_rings 69 = .ok (.iload 4, 2) := by decide +kernel
theorem dX12_rings_71 : decode cX12_rings 71 = .ok (.aload_n 0, 1) := by decide +kernel
theorem dX12_rings_72 : decode cX12_rings 72 = .ok (.getfield 212, 3) := by decide +kernel
theorem dX12_rings_75 : decode cX12_rings 75 = .ok (.if_icmp .ge 39, 3) := by decide +kernel
theorem dX12_rings_78 : decode cX12_rings 78 = .ok (.aload_n 0, 1) := by decide +kernel
theorem dX12_rings_79 : decode cX12_rings 79 = .ok (.getfield 35, 3) := by decide +kernel
theorem dX12_rings_82 : decode cX12_rings 82 = .ok (.iload 4, 2) := by decide +kernel
theorem dX12_rings_84 : decode cX12_rings 84 = .ok (.iaload, 1) := by decide +kernel
theorem dX12_rings_85 : decode cX12_rings 85 = .ok (.iload_n 1, 1) := by decide +kernel
theorem dX12_rings_86 : decode cX12_rings 86 = .ok (.iload_n 1, 1) := by decide +kernel
theorem dX12_rings_87 : decode cX12_rings 87 = .ok (.imul, 1) := by decide +kernel
theorem dX12_rings_88 : decode cX12_rings 88 = .ok (.if_icmp .le 20, 3) := by decide +kernel
theorem dX12_rings_91 : decode cX12_rings 91 = .ok (.iload_n 3, 1) := by decide +kernel
theorem dX12_rings_92 : decode cX12_rings 92 = .ok (.aload_n 0, 1) := by decide +kernel
theorem dX12_rings_93 : decode cX12_rings 93 = .ok (.getfield 35, 3) := by decide +kernel
theorem dX12_rings_96 : decode cX12_rings 96 = .ok (.iload 4, 2) := by decide +kernel
theorem dX12_rings_98 : decode cX12_rings 98 = .ok (.iaload, 1) := by decide +kernel
theorem dX12_rings_99 : decode cX12_rings 99 = .ok (.iload_n 1, 1) := by decide +kernel
theorem dX12_rings_100 : decode cX12_rings 100 = .ok (.iload_n 1, 1) := by decide +kernel
theorem dX12_rings_101 : decode cX12_rings 101 = .ok (.imul, 1) := by decide +kernel
theorem dX12_rings_102 : decode cX12_rings 102 = .ok (.isub, 1) := by decide +kernel
theorem dX12_rings_103 : decode cX12_rings 103 = .ok (.invokestatic 245, 3) := by decide +kernel
theorem dX12_rings_106 : decode cX12_rings 106 = .ok (.iadd, 1) := by decide +kernel
theorem dX12_rings_107 : decode cX12_rings 107 = .ok (.istore_n 3, 1) := by decide +kernel
theorem dX12_rings_108 : decode cX12_rings 108 = .ok (.iinc 4 1, 3) := by decide +kernel
theorem dX12_rings_111 : decode cX12_rings 111 = .ok (.goto (-42), 3) := by decide +kernel
theorem dX12_rings_114 : decode cX12_rings 114 = .ok (.iload_n 2, 1) := by decide +kernel
theorem dX12_rings_115 : decode cX12_rings 115 = .ok (.iload_n 3, 1) := by decide +kernel
theorem dX12_rings_116 : decode cX12_rings 116 = .ok (.if_icmp .ge 7, 3) := by decide +kernel
theorem dX12_rings_119 : decode cX12_rings 119 = .ok (.iload_n 2, 1) := by decide +kernel
theorem dX12_rings_120 : decode cX12_rings 120 = .ok (.goto 4, 3) := by decide +kernel
theorem dX12_rings_123 : decode cX12_rings 123 = .ok (.iload_n 3, 1) := by decide +kernel
theorem dX12_rings_124 : decode cX12_rings 124 = .ok (.ireturn, 1) := by decide +kernel
theorem hcX12_rings : yX12_rings.cls ≠ "java/lang/invoke/MethodHandle" ∧ yX12_rings.cls ≠ "java/lang/invoke/VarHandle" ∧ (parseMethodDescriptor yX12_rings.desc).map (fun d => d.parameters.length) = some 1 := ⟨by decide +kernel, by decide +kernel, by decide +kernel⟩
def fX12_rings_j55 (x4_16 : Int) (k16 : Int → Int → Prop) (x2_55 : Int) : Prop := sg_R (x4_16 + 1) ∧ k16 x2_55 (x4_16 + 1)
def fX12_rings_L16 (s0 : sg_M) (x1 : Int) (k61 : Int → Prop) : Nat → Int → Int → Prop
  | 0, _, _ => False
  | n_16 + 1, x2_16, x4_16 => (((s0 64 32) ≤ x4_16 → k61 x2_16) ∧ (¬ ((s0 64 32) ≤ x4_16) → (0 ≤ x4_16 ∧ x4_16 < 60) ∧ sg_R (x1 * x1) ∧ (((s0 73 x4_16) ≤ (x1 * x1) → (fX12_rings_j55 x4_16 (fX12_rings_L16 s0 x1 k61 n_16)) x2_16) ∧ (¬ ((s0 73 x4_16) ≤ (x1 * x1)) → (0 ≤ x4_16 ∧ x4_16 < 60) ∧ sg_R ((s0 73 x4_16) - (x1 * x1)) ∧ fX12_root ((s0 73 x4_16) - (x1 * x1)) (fun u16 => sg_R (x2_16 + u16) ∧ (fX12_rings_j55 x4_16 (fX12_rings_L16 s0 x1 k61 n_16)) (x2_16 + u16))))))
def fX12_rings_j108 (x4_69 : Int) (k69 : Int → Int → Prop) (x3_108 : Int) : Prop := sg_R (x4_69 + 1) ∧ k69 x3_108 (x4_69 + 1)
def fX12_rings_L69 (s0 : sg_M) (x1 : Int) (k114 : Int → Prop) : Nat → Int → Int → Prop
  | 0, _, _ => False
  | n_69 + 1, x3_69, x4_69 => (((s0 64 27) ≤ x4_69 → k114 x3_69) ∧ (¬ ((s0 64 27) ≤ x4_69) → (0 ≤ x4_69 ∧ x4_69 < 60) ∧ sg_R (x1 * x1) ∧ (((s0 73 x4_69) ≤ (x1 * x1) → (fX12_rings_j108 x4_69 (fX12_rings_L69 s0 x1 k114 n_69)) x3_69) ∧ (¬ ((s0 73 x4_69) ≤ (x1 * x1)) → (0 ≤ x4_69 ∧ x4_69 < 60) ∧ sg_R ((s0 73 x4_69) - (x1 * x1)) ∧ fX12_root ((s0 73 x4_69) - (x1 * x1)) (fun u33 => sg_R (x3_69 + u33) ∧ (fX12_rings_j108 x4_69 (fX12_rings_L69 s0 x1 k114 n_69)) (x3_69 + u33))))))
def fX12_rings (s0 : sg_M) (x1 : Int) (Q : Int → Prop) : Prop := fX12_isShut s0 (fun u1 => ((u1 ≠ 0 → (∃ n19 : Nat, fX12_rings_L16 s0 x1 (fun x2_61e16 => sg_R ((s0 64 33) + 1) ∧ (∃ n37 : Nat, fX12_rings_L69 s0 x1 (fun x3_114e69 => ((x3_114e69 ≤ x2_61e16 → Q x3_114e69) ∧ (¬ (x3_114e69 ≤ x2_61e16) → Q x2_61e16))) n37 0 ((s0 64 33) + 1))) n19 0 0)) ∧ (u1 = 0 → Q 0)))
set_option maxHeartbeats 4000000 in
set_option maxRecDepth 100000 in
theorem CX12_rings {l : Launch} {G : sg_G} {La : sg_L} {s0 : sg_M} (hst : sg_St La) {x1 : Int} (r1 : sg_R x1) {Q : Int → Prop} (hf : fX12_rings s0 x1 Q) : sg_C l G yX12_rings cX12_rings 5 (some .int) 2 0 0 La s0 [sg_r 64, sg_i x1] (sg_PI La s0 Q) := by
  refine sg_body (by decide +kernel) (Nat.le_of_ble_eq_true rfl) ?_
  intro p e s m args below meth c F hnm
  unfold fX12_rings at hf
  show sg_W p l e (sg_rm 2 0 0) s m args below meth c (MQ below (sg_Q (some .int) G La s.heap.size (sg_PI La s0 Q)) args s 0 0 (sg_A La s.heap.size)) 5 G (sg_A La s.heap.size) La s0 0 0 0 [(0, sg_r 64), (1, sg_i x1)] []
  refine gw_aload_n F 0 rfl rfl (by decide) dX12_rings_0 ?_
  refine gk_PZ F (gc_V F (S := []) (As := []) (T := TX12) (N := 62) (CX12_isShut hst hf) (so_64 hst) (by decide) rfl kw_1148 kw_103 kw_1146 kw_1147 kw_59 hcX12_isShut ⟨by decide, by decide⟩ rfl rfl (Nat.le_of_ble_eq_true rfl) ⟨by decide, by decide⟩ dX12_rings_1) (fun u1 h2 hf => ?_)
  refine gw_if_ne F (tgt := 9) dX12_rings_4 (by decide) (sg_B_R h2) (fun c3 => ?_) (fun c3 => ?_)
  · have hf := hf.1 c3
    refine gw_iconst F dX12_rings_9 ?_
    refine gw_istore_n F rfl (by decide) rfl dX12_rings_10 ?_
    refine gw_iconst F dX12_rings_11 ?_
    refine gw_istore_n F rfl (by decide) rfl dX12_rings_12 ?_
    refine gw_iconst F dX12_rings_13 ?_
    refine gw_istore F (by decide) rfl dX12_rings_14 ?_
    have L16 : ∀ (k61 : Int → Prop) (hk61 : ∀ (x2_61e16 : Int), sg_R x2_61e16 → k61 x2_61e16 → sg_W p l e (sg_rm 2 0 0) s m args below meth c (MQ below (sg_Q (some .int) G La s.heap.size (sg_PI La s0 Q)) args s 0 0 (sg_A La s.heap.size)) 5 G (sg_A La s.heap.size) La s0 0 0 61 [(0, sg_r 64), (1, sg_i x1), (2, sg_i x2_61e16), (3, sg_i 0)] []), ∀ n_16 : Nat, ∀ (x2_16 : Int) (x4_16 : Int), sg_R x2_16 → sg_R x4_16 → fX12_rings_L16 s0 x1 k61 n_16 x2_16 x4_16 → sg_W p l e (sg_rm 2 0 0) s m args below meth c (MQ below (sg_Q (some .int) G La s.heap.size (sg_PI La s0 Q)) args s 0 0 (sg_A La s.heap.size)) 5 G (sg_A La s.heap.size) La s0 0 0 16 [(0, sg_r 64), (1, sg_i x1), (2, sg_i x2_16), (3, sg_i 0), (4, sg_i x4_16)] [] := by
      intro k61 hk61 n_16
      induction n_16 with
      | zero => intro x2_16 x4_16 r2_16 r4_16 hf; exact hf.elim
      | succ n_16 ih =>
        intro x2_16 x4_16 r2_16 r4_16 hf
        unfold fX12_rings_L16 at hf
        refine gw_iload F 4 rfl dX12_rings_16 ?_
        refine gw_aload_n F 0 rfl rfl (by decide) dX12_rings_18 ?_
        refine gw_get0 F (so_64 hst) (by decide) rfl sg_lay_RX12 (j := 32) (by decide) rfl (host := "") (.inl kw_988) dX12_rings_19 (fun h4 => ?_)
        refine gw_icmp_ge F (tgt := 61) dX12_rings_22 (by decide) r4_16 h4 (fun c5 => ?_) (fun c5 => ?_)
        · have hf := hf.1 c5
          refine gw_sub [0, 1, 2, 3] rfl ?_
          exact hk61 x2_16 r2_16 hf
        · have hf := hf.2 c5
          refine gw_aload_n F 0 rfl rfl (by decide) dX12_rings_25 ?_
          refine gw_get7 F (so_64 hst) (by decide) rfl sg_lay_RX12 (j := 23) (by decide) (o1 := 73) (by first | rfl | omega) rfl (host := "") (.inl kw_979) dX12_rings_26 (fun h6 => ?_)
          refine gw_iload F 4 rfl dX12_rings_29 ?_
          obtain ⟨⟨b70, b71⟩, hf⟩ := hf
          refine gw_iald F (sa_73 hst) b70 b71 dX12_rings_31 (fun h8 => ?_)
          refine gw_iload_n F 1 rfl rfl dX12_rings_32 ?_
          refine gw_iload_n F 1 rfl rfl dX12_rings_33 ?_
          refine gw_imul F rfl dX12_rings_34 ?_
          have J55 : ∀ (x2_55 : Int), sg_R x2_55 → (fX12_rings_j55 x4_16 (fX12_rings_L16 s0 x1 k61 n_16)) x2_55 → sg_W p l e (sg_rm 2 0 0) s m args below meth c (MQ below (sg_Q (some .int) G La s.heap.size (sg_PI La s0 Q)) args s 0 0 (sg_A La s.heap.size)) 5 G (sg_A La s.heap.size) La s0 0 0 55 [(0, sg_r 64), (1, sg_i x1), (2, sg_i x2_55), (3, sg_i 0), (4, sg_i x4_16)] [] := by
            intro x2_55 r2_55 hf
            unfold fX12_rings_j55 at hf
            refine gw_iinc F (z := (x4_16 + 1)) 4 rfl (by omega) (by decide) rfl dX12_rings_55 ?_
            refine gw_goto F (tgt := 16) dX12_rings_58 (by decide) ?_
            obtain ⟨g9, hf⟩ := hf
            refine gw_sub [1, 2, 3, 4, 0] rfl ?_
            exact ih x2_55 (x4_16 + 1) r2_55 g9 hf
          obtain ⟨g10, hf⟩ := hf
          refine gw_icmp_le F (tgt := 55) dX12_rings_35 (by decide) h8 g10 (fun c11 => ?_) (fun c11 => ?_)
          · have hf := hf.1 c11
            refine gw_sub [0, 1, 2, 3, 4] rfl ?_
            exact J55 x2_16 r2_16 hf
          · have hf := hf.2 c11
            refine gw_iload_n F 2 rfl rfl dX12_rings_38 ?_
            refine gw_aload_n F 0 rfl rfl (by decide) dX12_rings_39 ?_
            refine gw_get7 F (so_64 hst) (by decide) rfl sg_lay_RX12 (j := 23) (by decide) (o1 := 73) (by first | rfl | omega) rfl (host := "") (.inl kw_979) dX12_rings_40 (fun h12 => ?_)
            refine gw_iload F 4 rfl dX12_rings_43 ?_
            obtain ⟨⟨b130, b131⟩, hf⟩ := hf
            refine gw_iald F (sa_73 hst) b130 b131 dX12_rings_45 (fun h14 => ?_)
            refine gw_iload_n F 1 rfl rfl dX12_rings_46 ?_
            refine gw_iload_n F 1 rfl rfl dX12_rings_47 ?_
            refine gw_imul F rfl dX12_rings_48 ?_
            refine gw_isub F rfl dX12_rings_49 ?_
            obtain ⟨g15, hf⟩ := hf
            refine gk_PI F (gc_S F (S := [sg_i x2_16]) (As := [sg_i ((s0 73 x4_16) - (x1 * x1))]) (CX12_root g15 hf) kw_1145 kw_103 kw_1143 kw_1144 hcX12_root ⟨by decide, by decide⟩ rfl rfl (Nat.le_of_ble_eq_true rfl) ⟨by decide, by decide⟩ dX12_rings_50) (fun u16 h17 hf => ?_)
            refine gw_iadd F rfl dX12_rings_53 ?_
            refine gw_istore_n F rfl (by decide) rfl dX12_rings_54 ?_
            obtain ⟨g18, hf⟩ := hf
            refine gw_sub [1, 2, 0, 3, 4] rfl ?_
            exact J55 (x2_16 + u16) g18 hf
    obtain ⟨n19, hf⟩ := hf
    refine gw_sub [3, 4, 2, 1, 0] rfl ?_
    refine L16 _ (fun x2_61e16 r2_61e16 hf => ?_) n19 0 0 (by decide) (by decide) hf
    refine gw_aload_n F 0 rfl rfl (by decide) dX12_rings_61 ?_
    refine gw_get0 F (so_64 hst) (by decide) rfl sg_lay_RX12 (j := 33) (by decide) rfl (host := "") (.inl kw_989) dX12_rings_62 (fun h20 => ?_)
    refine gw_iconst F dX12_rings_65 ?_
    refine gw_iadd F rfl dX12_rings_66 ?_
    refine gw_istore F (by decide) rfl dX12_rings_67 ?_
    have L69 : ∀ (k114 : Int → Prop) (hk114 : ∀ (x3_114e69 : Int), sg_R x3_114e69 → k114 x3_114e69 → sg_W p l e (sg_rm 2 0 0) s m args below meth c (MQ below (sg_Q (some .int) G La s.heap.size (sg_PI La s0 Q)) args s 0 0 (sg_A La s.heap.size)) 5 G (sg_A La s.heap.size) La s0 0 0 114 [(2, sg_i x2_61e16), (3, sg_i x3_114e69)] []), ∀ n_69 : Nat, ∀ (x3_69 : Int) (x4_69 : Int), sg_R x3_69 → sg_R x4_69 → fX12_rings_L69 s0 x1 k114 n_69 x3_69 x4_69 → sg_W p l e (sg_rm 2 0 0) s m args below meth c (MQ below (sg_Q (some .int) G La s.heap.size (sg_PI La s0 Q)) args s 0 0 (sg_A La s.heap.size)) 5 G (sg_A La s.heap.size) La s0 0 0 69 [(0, sg_r 64), (1, sg_i x1), (2, sg_i x2_61e16), (3, sg_i x3_69), (4, sg_i x4_69)] [] := by
      intro k114 hk114 n_69
      induction n_69 with
      | zero => intro x3_69 x4_69 r3_69 r4_69 hf; exact hf.elim
      | succ n_69 ih =>
        intro x3_69 x4_69 r3_69 r4_69 hf
        unfold fX12_rings_L69 at hf
        refine gw_iload F 4 rfl dX12_rings_69 ?_
        refine gw_aload_n F 0 rfl rfl (by decide) dX12_rings_71 ?_
        refine gw_get0 F (so_64 hst) (by decide) rfl sg_lay_RX12 (j := 27) (by decide) rfl (host := "") (.inl kw_983) dX12_rings_72 (fun h21 => ?_)
        refine gw_icmp_ge F (tgt := 114) dX12_rings_75 (by decide) r4_69 h21 (fun c22 => ?_) (fun c22 => ?_)
        · have hf := hf.1 c22
          refine gw_sub [2, 3] rfl ?_
          exact hk114 x3_69 r3_69 hf
        · have hf := hf.2 c22
          refine gw_aload_n F 0 rfl rfl (by decide) dX12_rings_78 ?_
          refine gw_get7 F (so_64 hst) (by decide) rfl sg_lay_RX12 (j := 23) (by decide) (o1 := 73) (by first | rfl | omega) rfl (host := "") (.inl kw_979) dX12_rings_79 (fun h23 => ?_)
          refine gw_iload F 4 rfl dX12_rings_82 ?_
          obtain ⟨⟨b240, b241⟩, hf⟩ := hf
          refine gw_iald F (sa_73 hst) b240 b241 dX12_rings_84 (fun h25 => ?_)
          refine gw_iload_n F 1 rfl rfl dX12_rings_85 ?_
          refine gw_iload_n F 1 rfl rfl dX12_rings_86 ?_
          refine gw_imul F rfl dX12_rings_87 ?_
          have J108 : ∀ (x3_108 : Int), sg_R x3_108 → (fX12_rings_j108 x4_69 (fX12_rings_L69 s0 x1 k114 n_69)) x3_108 → sg_W p l e (sg_rm 2 0 0) s m args below meth c (MQ below (sg_Q (some .int) G La s.heap.size (sg_PI La s0 Q)) args s 0 0 (sg_A La s.heap.size)) 5 G (sg_A La s.heap.size) La s0 0 0 108 [(0, sg_r 64), (1, sg_i x1), (2, sg_i x2_61e16), (3, sg_i x3_108), (4, sg_i x4_69)] [] := by
            intro x3_108 r3_108 hf
            unfold fX12_rings_j108 at hf
            refine gw_iinc F (z := (x4_69 + 1)) 4 rfl (by omega) (by decide) rfl dX12_rings_108 ?_
            refine gw_goto F (tgt := 69) dX12_rings_111 (by decide) ?_
            obtain ⟨g26, hf⟩ := hf
            refine gw_sub [1, 2, 3, 4, 0] rfl ?_
            exact ih x3_108 (x4_69 + 1) r3_108 g26 hf
          obtain ⟨g27, hf⟩ := hf
          refine gw_icmp_le F (tgt := 108) dX12_rings_88 (by decide) h25 g27 (fun c28 => ?_) (fun c28 => ?_)
          · have hf := hf.1 c28
            refine gw_sub [0, 1, 2, 3, 4] rfl ?_
            exact J108 x3_69 r3_69 hf
          · have hf := hf.2 c28
            refine gw_iload_n F 3 rfl rfl dX12_rings_91 ?_
            refine gw_aload_n F 0 rfl rfl (by decide) dX12_rings_92 ?_
            refine gw_get7 F (so_64 hst) (by decide) rfl sg_lay_RX12 (j := 23) (by decide) (o1 := 73) (by first | rfl | omega) rfl (host := "") (.inl kw_979) dX12_rings_93 (fun h29 => ?_)
            refine gw_iload F 4 rfl dX12_rings_96 ?_
            obtain ⟨⟨b300, b301⟩, hf⟩ := hf
            refine gw_iald F (sa_73 hst) b300 b301 dX12_rings_98 (fun h31 => ?_)
            refine gw_iload_n F 1 rfl rfl dX12_rings_99 ?_
            refine gw_iload_n F 1 rfl rfl dX12_rings_100 ?_
            refine gw_imul F rfl dX12_rings_101 ?_
            refine gw_isub F rfl dX12_rings_102 ?_
            obtain ⟨g32, hf⟩ := hf
            refine gk_PI F (gc_S F (S := [sg_i x3_69]) (As := [sg_i ((s0 73 x4_69) - (x1 * x1))]) (CX12_root g32 hf) kw_1145 kw_103 kw_1143 kw_1144 hcX12_root ⟨by decide, by decide⟩ rfl rfl (Nat.le_of_ble_eq_true rfl) ⟨by decide, by decide⟩ dX12_rings_103) (fun u33 h34 hf => ?_)
            refine gw_iadd F rfl dX12_rings_106 ?_
            refine gw_istore_n F rfl (by decide) rfl dX12_rings_107 ?_
            obtain ⟨g35, hf⟩ := hf
            refine gw_sub [1, 2, 3, 0, 4] rfl ?_
            exact J108 (x3_69 + u33) g35 hf
    obtain ⟨g36, hf⟩ := hf
    obtain ⟨n37, hf⟩ := hf
    refine gw_sub [1, 2, 3, 4, 0] rfl ?_
    refine L69 _ (fun x3_114e69 r3_114e69 hf => ?_) n37 0 ((s0 64 33) + 1) (by decide) g36 hf
    refine gw_iload_n F 0 rfl rfl dX12_rings_114 ?_
    refine gw_iload_n F 1 rfl rfl dX12_rings_115 ?_
    refine gw_icmp_ge F (tgt := 123) dX12_rings_116 (by decide) r2_61e16 r3_114e69 (fun c38 => ?_) (fun c38 => ?_)
    · have hf := hf.1 c38
      refine gw_iload_n F 1 rfl rfl dX12_rings_123 ?_
      exact gr_PI F r3_114e69 hf (by decide) (by decide) dX12_rings_124
    · have hf := hf.2 c38
      refine gw_iload_n F 0 rfl rfl dX12_rings_119 ?_
      refine gw_goto F (tgt := 124) dX12_rings_120 (by decide) ?_
      exact gr_PI F r2_61e16 hf (by decide) (by decide) dX12_rings_124
  · have hf := hf.2 c3
    refine gw_iconst F dX12_rings_7 ?_
    exact gr_PI F (by decide) hf (by decide) (by decide) dX12_rings_8

theorem dX12_phases_0 : decode cX12_phases 0 = .ok (.aload_n 0, 1) := by decide +kernel
theorem dX12_phases_1 : decode cX12_phases 1 = .ok (.iload_n 1, 1) := by decide +kernel
theorem dX12_phases_2 : decode cX12_phases 2 = .ok (.putfield 239, 3) := by decide +kernel
theorem dX12_phases_5 : decode cX12_phases 5 = .ok (.aload_n 0, 1) := by decide +kernel
theorem dX12_phases_6 : decode cX12_phases 6 = .ok (.iload_n 1, 1) := by decide +kernel
theorem dX12_phases_7 : decode cX12_phases 7 = .ok (.putfield 242, 3) := by decide +kernel
theorem dX12_phases_10 : decode cX12_phases 10 = .ok (.iload_n 2, 1) := by decide +kernel
theorem dX12_phases_11 : decode cX12_phases 11 = .ok (.iload_n 2, 1) := by decide +kernel
theorem dX12_phases_12 : decode cX12_phases 12 = .ok (.imul, 1) := by decide +kernel
theorem dX12_phases_13 : decode cX12_phases 13 = .ok (.aload_n 0, 1) := by decide +kernel
theorem dX12_phases_14 : decode cX12_phases 14 = .ok (.getfield 35, 3) := by decide +kernel
theorem dX12_phases_17 : decode cX12_phases 17 = .ok (.iload_n 1, 1) := by decide +kernel
theorem dX12_phases_18 : decode cX12_phases 18 = .ok (.iaload, 1) := by decide +kernel
theorem dX12_phases_19 : decode cX12_phases 19 = .ok (.if_icmp .gt 5, 3) := by decide +kernel
theorem dX12_phases_22 : decode cX12_phases 22 = .ok (.iconst 0, 1) := by decide +kernel
theorem dX12_phases_23 : decode cX12_phases 23 = .ok (.ireturn, 1) := by decide +kernel
theorem dX12_phases_24 : decode cX12_phases 24 = .ok (.aload_n 0, 1) := by decide +kernel
theorem dX12_phases_25 : decode cX12_phases 25 = .ok (.getfield 239, 3) := by decide +kernel
theorem dX12_phases_28 : decode cX12_phases 28 = .ok (.ifCond .le 33, 3) := by decide +kernel
theorem dX12_phases_31 : decode cX12_phases 31 = .ok (.iload_n 2, 1) := by decide +kernel
theorem dX12_phases_32 : decode cX12_phases 32 = .ok (.iload_n 2, 1) := by decide +kernel
theorem dX12_phases_33 : decode cX12_phases 33 = .ok (.imul, 1) := by decide +kernel
theorem dX12_phases_34 : decode cX12_phases 34 = .ok (.aload_n 0, 1) := by decide +kernel
theorem dX12_phases_35 : decode cX12_phases 35 = .ok (.getfield 35, 3) := by decide +kernel
theorem dX12_phases_38 : decode cX12_phases 38 = .ok (.aload_n 0, 1) := by decide +kernel
theorem dX12_phases_39 : decode cX12_phases 39 = .ok (.getfield 239, 3) := by decide +kernel
theorem dX12_phases_42 : decode cX12_phases 42 = .ok (.iconst 1, 1) := by decide +kernel
theorem dX12_phases_43 : decode cX12_phases 43 = .ok (.isub, 1) := by decide +kernel
theorem dX12_phases_44 : decode cX12_phases 44 = .ok (.iaload, 1) := by decide +kernel
theorem dX12_phases_45 : decode cX12_phases 45 = .ok (.if_icmp .le 16, 3) := by decide +kernel
theorem dX12_phases_48 : decode cX12_phases 48 = .ok (.aload_n 0, 1) := by decide +kernel
theorem dX12_phases_49 : decode cX12_phases 49 = .ok (.dup, 1) := by decide +kernel
theorem dX12_phases_50 : decode cX12_phases 50 = .ok (.getfield 239, 3) := by decide +kernel
theorem dX12_phases_53 : decode cX12_phases 53 = .ok (.iconst 1, 1) := by decide +kernel
theorem dX12_phases_54 : decode cX12_phases 54 = .ok (.isub, 1) := by decide +kernel
theorem dX12_phases_55 : decode cX12_phases 55 = .ok (.putfield 239, 3) := by decide +kernel
theorem dX12_phases_58 : decode cX12_phases 58 = .ok (.goto (-34), 3) := by decide +kernel
theorem dX12_phases_61 : decode cX12_phases 61 = .ok (.aload_n 0, 1) := by decide +kernel
theorem dX12_phases_62 : decode cX12_phases 62 = .ok (.getfield 242, 3) := by decide +kernel
theorem dX12_phases_65 : decode cX12_phases 65 = .ok (.aload_n 0, 1) := by decide +kernel
theorem dX12_phases_66 : decode cX12_phases 66 = .ok (.getfield 212, 3) := by decide +kernel
theorem dX12_phases_69 : decode cX12_phases 69 = .ok (.iconst 1, 1) := by decide +kernel
theorem dX12_phases_70 : decode cX12_phases 70 = .ok (.isub, 1) := by decide +kernel
theorem dX12_phases_71 : decode cX12_phases 71 = .ok (.if_icmp .ge 33, 3) := by decide +kernel
theorem dX12_phases_74 : decode cX12_phases 74 = .ok (.iload_n 2, 1) := by decide +kernel
theorem dX12_phases_75 : decode cX12_phases 75 = .ok (.iload_n 2, 1) := by decide +kernel
theorem dX12_phases_76 : decode cX12_phases 76 = .ok (.imul, 1) := by decide +kernel
theorem dX12_phases_77 : decode cX12_phases 77 = .ok (.aload_n 0, 1) := by decide +kernel
theorem dX12_phases_78 : decode cX12_phases 78 = .ok (.getfield 35, 3) := by decide +kernel
theorem dX12_phases_81 : decode cX12_phases 81 = .ok (.aload_n 0, 1) := by decide +kernel
theorem dX12_phases_82 : decode cX12_phases 82 = .ok (.getfield 242, 3) := by decide +kernel
theorem dX12_phases_85 : decode cX12_phases 85 = .ok (.iconst 1, 1) := by decide +kernel
theorem dX12_phases_86 : decode cX12_phases 86 = .ok (.iadd, 1) := by decide +kernel
theorem dX12_phases_87 : decode cX12_phases 87 = .ok (.iaload, 1) := by decide +kernel
theorem dX12_phases_88 : decode cX12_phases 88 = .ok (.if_icmp .le 16, 3) := by decide +kernel
theorem dX12_phases_91 : decode cX12_phases 91 = .ok (.aload_n 0, 1) := by decide +kernel
theorem dX12_phases_92 : decode cX12_phases 92 = .ok (.dup, 1) := by decide +kernel
theorem dX12_phases_93 : decode cX12_phases 93 = .ok (.getfield 242, 3) := by decide +kernel
theorem dX12_phases_96 : decode cX12_phases 96 = .ok (.iconst 1, 1) := by decide +kernel
theorem dX12_phases_97 : decode cX12_phases 97 = .ok (.iadd, 1) := by decide +kernel
theorem dX12_phases_98 : decode cX12_phases 98 = .ok (.putfield 242, 3) := by decide +kernel
theorem dX12_phases_101 : decode cX12_phases 101 = .ok (.goto (-40), 3) := by decide +kernel
theorem dX12_phases_104 : decode cX12_phases 104 = .ok (.iconst 0, 1) := by decide +kernel
theorem dX12_phases_105 : decode cX12_phases 105 = .ok (.istore_n 3, 1) := by decide +kernel
theorem dX12_phases_106 : decode cX12_phases 106 = .ok (.aload_n 0, 1) := by decide +kernel
theorem dX12_phases_107 : decode cX12_phases 107 = .ok (.getfield 239, 3) := by decide +kernel
theorem dX12_phases_110 : decode cX12_phases 110 = .ok (.istore 4, 2) := by decide +kernel
theorem dX12_phases_112 : decode cX12_phases 112 = .ok (.iload 4, 2) := by decide +kernel
theorem dX12_phases_114 : decode cX12_phases 114 = .ok (.aload_n 0, 1) := by decide +kernel
theorem dX12_phases_115 : decode cX12_phases 115 = .ok (.getfield 242, 3) := by decide +kernel
theorem dX12_phases_118 : decode cX12_phases 118 = .ok (.if_icmp .gt 26, 3) := by decide +kernel
theorem dX12_phases_121 : decode cX12_phases 121 = .ok (.iload_n 3, 1) := by decide +kernel
theorem dX12_phases_122 : decode cX12_phases 122 = .ok (.iload_n 2, 1) := by decide +kernel
theorem dX12_phases_123 : decode cX12_phases 123 = .ok (.iload_n 2, 1) := by decide +kernel
theorem dX12_phases_124 : decode cX12_phases 124 = .ok (.imul, 1) := by decide +kernel
theorem dX12_phases_125 : decode cX12_phases 125 = .ok (.aload_n 0, 1) := by decide +kernel
theorem dX12_phases_126 : decode cX12_phases 126 = .ok (.getfield 35, 3) := by decide +kernel
theorem dX12_phases_129 : decode cX12_phases 129 = .ok (.iload 4, 2) := by decide +kernel
theorem dX12_phases_131 : decode cX12_phases 131 = .ok (.iaload, 1) := by decide +kernel
theorem dX12_phases_132 : decode cX12_phases 132 = .ok (.isub, 1) := by decide +kernel
theorem dX12_phases_133 : decode cX12_phases 133 = .ok (.invokestatic 245, 3) := by decide +kernel
theorem dX12_phases_136 : decode cX12_phases 136 = .ok (.iadd, 1) := by decide +kernel
theorem dX12_phases_137 : decode cX12_phases 137 = .ok (.istore_n 3, 1) := by decide +kernel
theorem dX12_phases_138 : decode cX12_phases 138 = .ok (.iinc 4 1, 3) := by decide +kernel
theorem dX12_phases_141 : decode cX12_phases 141 = .ok (.goto (-29), 3) := by decide +kernel
theorem dX12_phases_144 : decode cX12_phases 144 = .ok (.iload_n 3, 1) := by decide +kernel
theorem dX12_phases_145 : decode cX12_phases 145 = .ok (.ireturn, 1) := by decide +kernel
theorem hcX12_phases : yX12_phases.cls ≠ "java/lang/invoke/MethodHandle" ∧ yX12_phases.cls ≠ "java/lang/invoke/VarHandle" ∧ (parseMethodDescriptor yX12_phases.desc).map (fun d => d.parameters.length) = some 2 := ⟨by decide +kernel, by decide +kernel, by decide +kernel⟩
def fX12_phases_L24 (x2 : Int) (k61 : sg_M → Prop) : Nat → sg_M → Prop
  | 0, _ => False
  | n_24 + 1, s_24 => (((s_24 64 32) ≤ 0 → k61 s_24) ∧ (¬ ((s_24 64 32) ≤ 0) → (0 ≤ ((s_24 64 32) - 1) ∧ ((s_24 64 32) - 1) < 60) ∧ sg_R (x2 * x2) ∧ (((x2 * x2) ≤ (s_24 73 ((s_24 64 32) - 1)) → k61 s_24) ∧ (¬ ((x2 * x2) ≤ (s_24 73 ((s_24 64 32) - 1))) → sg_R ((s_24 64 32) - 1) ∧ ∀ s20 : sg_M, s20 = sg_up s_24 64 32 ((s_24 64 32) - 1) → (fX12_phases_L24 x2 k61 n_24) s20))))
def fX12_phases_L61 (x2 : Int) (k104 : sg_M → Prop) : Nat → sg_M → Prop
  | 0, _ => False
  | n_61 + 1, s_61 => sg_R ((s_61 64 27) - 1) ∧ ((((s_61 64 27) - 1) ≤ (s_61 64 33) → k104 s_61) ∧ (¬ (((s_61 64 27) - 1) ≤ (s_61 64 33)) → (0 ≤ ((s_61 64 33) + 1) ∧ ((s_61 64 33) + 1) < 60) ∧ sg_R (x2 * x2) ∧ (((x2 * x2) ≤ (s_61 73 ((s_61 64 33) + 1)) → k104 s_61) ∧ (¬ ((x2 * x2) ≤ (s_61 73 ((s_61 64 33) + 1))) → sg_R ((s_61 64 33) + 1) ∧ ∀ s35 : sg_M, s35 = sg_up s_61 64 33 ((s_61 64 33) + 1) → (fX12_phases_L61 x2 k104 n_61) s35))))
def fX12_phases_L112 (x2 : Int) (s_104e61 : sg_M) (Q : Int → sg_M → Prop) : Nat → Int → Int → Prop
  | 0, _, _ => False
  | n_112 + 1, x3_112, x4_112 => (((s_104e61 64 33) < x4_112 → Q x3_112 s_104e61) ∧ (¬ ((s_104e61 64 33) < x4_112) → (0 ≤ x4_112 ∧ x4_112 < 60) ∧ sg_R ((x2 * x2) - (s_104e61 73 x4_112)) ∧ fX12_root ((x2 * x2) - (s_104e61 73 x4_112)) (fun u45 => sg_R (x3_112 + u45) ∧ sg_R (x4_112 + 1) ∧ (fX12_phases_L112 x2 s_104e61 Q n_112) (x3_112 + u45) (x4_112 + 1))))
def fX12_phases (s0 : sg_M) (x1 : Int) (x2 : Int) (Q : Int → sg_M → Prop) : Prop := ∀ s1 : sg_M, s1 = sg_up s0 64 32 x1 → ∀ s3 : sg_M, s3 = sg_up s1 64 33 x1 → (0 ≤ x1 ∧ x1 < 60) ∧ sg_R (x2 * x2) ∧ (((s3 73 x1) < (x2 * x2) → (∃ n22 : Nat, fX12_phases_L24 x2 (fun s_61e24 => (∃ n37 : Nat, fX12_phases_L61 x2 (fun s_104e61 => (∃ n49 : Nat, fX12_phases_L112 x2 s_104e61 Q n49 0 (s_104e61 64 32))) n37 s_61e24)) n22 s3)) ∧ (¬ ((s3 73 x1) < (x2 * x2)) → Q 0 s3))
set_option maxHeartbeats 4000000 in
set_option maxRecDepth 100000 in
theorem CX12_phases {l : Launch} {G : sg_G} {La : sg_L} {s0 : sg_M} (hst : sg_St La) {x1 : Int} (r1 : sg_R x1) {x2 : Int} (r2 : sg_R x2) {Q : Int → sg_M → Prop} (hf : fX12_phases s0 x1 x2 Q) : sg_C l G yX12_phases cX12_phases 5 (some .int) 2 0 0 La s0 [sg_r 64, sg_i x1, sg_i x2] (sg_HI La Q) := by
  refine sg_body (by decide +kernel) (Nat.le_of_ble_eq_true rfl) ?_
  intro p e s m args below meth c F hnm
  unfold fX12_phases at hf
  show sg_W p l e (sg_rm 2 0 0) s m args below meth c (MQ below (sg_Q (some .int) G La s.heap.size (sg_HI La Q)) args s 0 0 (sg_A La s.heap.size)) 5 G (sg_A La s.heap.size) La s0 0 0 0 [(0, sg_r 64), (1, sg_i x1), (2, sg_i x2)] []
  refine gw_aload_n F 0 rfl rfl (by decide) dX12_phases_0 ?_
  refine gw_iload_n F 1 rfl rfl dX12_phases_1 ?_
  obtain ⟨s1, e2⟩ : ∃ z : sg_M, z = sg_up s0 64 32 x1 := ⟨_, rfl⟩
  have hf := hf s1 e2
  refine gw_put0 F (so_64 hst) (by decide) rfl sg_lay_RX12 (j := 32) (by decide) r1 e2 tyX12_ok nmX12 rfl (tyX12_ok 32 (by decide)) rfl (host := "") (.inl kw_988) dX12_phases_2 ?_
  refine gw_aload_n F 0 rfl rfl (by decide) dX12_phases_5 ?_
  refine gw_iload_n F 1 rfl rfl dX12_phases_6 ?_
  obtain ⟨s3, e4⟩ : ∃ z : sg_M, z = sg_up s1 64 33 x1 := ⟨_, rfl⟩
  have hf := hf s3 e4
  refine gw_put0 F (so_64 hst) (by decide) rfl sg_lay_RX12 (j := 33) (by decide) r1 e4 tyX12_ok nmX12 rfl (tyX12_ok 33 (by decide)) rfl (host := "") (.inl kw_989) dX12_phases_7 ?_
  refine gw_iload_n F 2 rfl rfl dX12_phases_10 ?_
  refine gw_iload_n F 2 rfl rfl dX12_phases_11 ?_
  refine gw_imul F rfl dX12_phases_12 ?_
  refine gw_aload_n F 0 rfl rfl (by decide) dX12_phases_13 ?_
  refine gw_get7 F (so_64 hst) (by decide) rfl sg_lay_RX12 (j := 23) (by decide) (o1 := 73) (by first | rfl | omega) rfl (host := "") (.inl kw_979) dX12_phases_14 (fun h5 => ?_)
  refine gw_iload_n F 1 rfl rfl dX12_phases_17 ?_
  obtain ⟨⟨b60, b61⟩, hf⟩ := hf
  refine gw_iald F (sa_73 hst) b60 b61 dX12_phases_18 (fun h7 => ?_)
  obtain ⟨g8, hf⟩ := hf
  refine gw_icmp_gt F (tgt := 24) dX12_phases_19 (by decide) g8 h7 (fun c9 => ?_) (fun c9 => ?_)
  · have hf := hf.1 c9
    have L24 : ∀ (k61 : sg_M → Prop) (hk61 : ∀ (s_61e24 : sg_M), k61 s_61e24 → sg_W p l e (sg_rm 2 0 0) s m args below meth c (MQ below (sg_Q (some .int) G La s.heap.size (sg_HI La Q)) args s 0 0 (sg_A La s.heap.size)) 5 G (sg_A La s.heap.size) La s_61e24 0 0 61 [(0, sg_r 64), (2, sg_i x2)] []), ∀ n_24 : Nat, ∀ (s_24 : sg_M), fX12_phases_L24 x2 k61 n_24 s_24 → sg_W p l e (sg_rm 2 0 0) s m args below meth c (MQ below (sg_Q (some .int) G La s.heap.size (sg_HI La Q)) args s 0 0 (sg_A La s.heap.size)) 5 G (sg_A La s.heap.size) La s_24 0 0 24 [(0, sg_r 64), (2, sg_i x2)] [] := by
      intro k61 hk61 n_24
      induction n_24 with
      | zero => intro s_24 hf; exact hf.elim
      | succ n_24 ih =>
        intro s_24 hf
        unfold fX12_phases_L24 at hf
        refine gw_aload_n F 0 rfl rfl (by decide) dX12_phases_24 ?_
        refine gw_get0 F (so_64 hst) (by decide) rfl sg_lay_RX12 (j := 32) (by decide) rfl (host := "") (.inl kw_988) dX12_phases_25 (fun h10 => ?_)
        refine gw_if_le F (tgt := 61) dX12_phases_28 (by decide) h10 (fun c11 => ?_) (fun c11 => ?_)
        · have hf := hf.1 c11
          refine gw_sub [0, 1] rfl ?_
          exact hk61 s_24 hf
        · have hf := hf.2 c11
          refine gw_iload_n F 1 rfl rfl dX12_phases_31 ?_
          refine gw_iload_n F 1 rfl rfl dX12_phases_32 ?_
          refine gw_imul F rfl dX12_phases_33 ?_
          refine gw_aload_n F 0 rfl rfl (by decide) dX12_phases_34 ?_
          refine gw_get7 F (so_64 hst) (by decide) rfl sg_lay_RX12 (j := 23) (by decide) (o1 := 73) (by first | rfl | omega) rfl (host := "") (.inl kw_979) dX12_phases_35 (fun h12 => ?_)
          refine gw_aload_n F 0 rfl rfl (by decide) dX12_phases_38 ?_
          refine gw_get0 F (so_64 hst) (by decide) rfl sg_lay_RX12 (j := 32) (by decide) rfl (host := "") (.inl kw_988) dX12_phases_39 (fun h13 => ?_)
          refine gw_iconst F dX12_phases_42 ?_
          refine gw_isub F rfl dX12_phases_43 ?_
          obtain ⟨⟨b140, b141⟩, hf⟩ := hf
          refine gw_iald F (sa_73 hst) b140 b141 dX12_phases_44 (fun h15 => ?_)
          obtain ⟨g16, hf⟩ := hf
          refine gw_icmp_le F (tgt := 61) dX12_phases_45 (by decide) g16 h15 (fun c17 => ?_) (fun c17 => ?_)
          · have hf := hf.1 c17
            refine gw_sub [0, 1] rfl ?_
            exact hk61 s_24 hf
          · have hf := hf.2 c17
            refine gw_aload_n F 0 rfl rfl (by decide) dX12_phases_48 ?_
            refine gw_dup F rfl dX12_phases_49 ?_
            refine gw_get0 F (so_64 hst) (by decide) rfl sg_lay_RX12 (j := 32) (by decide) rfl (host := "") (.inl kw_988) dX12_phases_50 (fun h18 => ?_)
            refine gw_iconst F dX12_phases_53 ?_
            refine gw_isub F rfl dX12_phases_54 ?_
            obtain ⟨g19, hf⟩ := hf
            obtain ⟨s20, e21⟩ : ∃ z : sg_M, z = sg_up s_24 64 32 ((s_24 64 32) - 1) := ⟨_, rfl⟩
            have hf := hf s20 e21
            refine gw_put0 F (so_64 hst) (by decide) rfl sg_lay_RX12 (j := 32) (by decide) g19 e21 tyX12_ok nmX12 rfl (tyX12_ok 32 (by decide)) rfl (host := "") (.inl kw_988) dX12_phases_55 ?_
            refine gw_goto F (tgt := 24) dX12_phases_58 (by decide) ?_
            refine gw_sub [0, 1] rfl ?_
            exact ih s20 hf
    obtain ⟨n22, hf⟩ := hf
    refine gw_sub [0, 2] rfl ?_
    refine L24 _ (fun s_61e24 hf => ?_) n22 s3 hf
    have L61 : ∀ (k104 : sg_M → Prop) (hk104 : ∀ (s_104e61 : sg_M), k104 s_104e61 → sg_W p l e (sg_rm 2 0 0) s m args below meth c (MQ below (sg_Q (some .int) G La s.heap.size (sg_HI La Q)) args s 0 0 (sg_A La s.heap.size)) 5 G (sg_A La s.heap.size) La s_104e61 0 0 104 [(0, sg_r 64), (2, sg_i x2)] []), ∀ n_61 : Nat, ∀ (s_61 : sg_M), fX12_phases_L61 x2 k104 n_61 s_61 → sg_W p l e (sg_rm 2 0 0) s m args below meth c (MQ below (sg_Q (some .int) G La s.heap.size (sg_HI La Q)) args s 0 0 (sg_A La s.heap.size)) 5 G (sg_A La s.heap.size) La s_61 0 0 61 [(0, sg_r 64), (2, sg_i x2)] [] := by
      intro k104 hk104 n_61
      induction n_61 with
      | zero => intro s_61 hf; exact hf.elim
      | succ n_61 ih =>
        intro s_61 hf
        unfold fX12_phases_L61 at hf
        refine gw_aload_n F 0 rfl rfl (by decide) dX12_phases_61 ?_
        refine gw_get0 F (so_64 hst) (by decide) rfl sg_lay_RX12 (j := 33) (by decide) rfl (host := "") (.inl kw_989) dX12_phases_62 (fun h23 => ?_)
        refine gw_aload_n F 0 rfl rfl (by decide) dX12_phases_65 ?_
        refine gw_get0 F (so_64 hst) (by decide) rfl sg_lay_RX12 (j := 27) (by decide) rfl (host := "") (.inl kw_983) dX12_phases_66 (fun h24 => ?_)
        refine gw_iconst F dX12_phases_69 ?_
        refine gw_isub F rfl dX12_phases_70 ?_
        obtain ⟨g25, hf⟩ := hf
        refine gw_icmp_ge F (tgt := 104) dX12_phases_71 (by decide) h23 g25 (fun c26 => ?_) (fun c26 => ?_)
        · have hf := hf.1 c26
          refine gw_sub [0, 1] rfl ?_
          exact hk104 s_61 hf
        · have hf := hf.2 c26
          refine gw_iload_n F 1 rfl rfl dX12_phases_74 ?_
          refine gw_iload_n F 1 rfl rfl dX12_phases_75 ?_
          refine gw_imul F rfl dX12_phases_76 ?_
          refine gw_aload_n F 0 rfl rfl (by decide) dX12_phases_77 ?_
          refine gw_get7 F (so_64 hst) (by decide) rfl sg_lay_RX12 (j := 23) (by decide) (o1 := 73) (by first | rfl | omega) rfl (host := "") (.inl kw_979) dX12_phases_78 (fun h27 => ?_)
          refine gw_aload_n F 0 rfl rfl (by decide) dX12_phases_81 ?_
          refine gw_get0 F (so_64 hst) (by decide) rfl sg_lay_RX12 (j := 33) (by decide) rfl (host := "") (.inl kw_989) dX12_phases_82 (fun h28 => ?_)
          refine gw_iconst F dX12_phases_85 ?_
          refine gw_iadd F rfl dX12_phases_86 ?_
          obtain ⟨⟨b290, b291⟩, hf⟩ := hf
          refine gw_iald F (sa_73 hst) b290 b291 dX12_phases_87 (fun h30 => ?_)
          obtain ⟨g31, hf⟩ := hf
          refine gw_icmp_le F (tgt := 104) dX12_phases_88 (by decide) g31 h30 (fun c32 => ?_) (fun c32 => ?_)
          · have hf := hf.1 c32
            refine gw_sub [0, 1] rfl ?_
            exact hk104 s_61 hf
          · have hf := hf.2 c32
            refine gw_aload_n F 0 rfl rfl (by decide) dX12_phases_91 ?_
            refine gw_dup F rfl dX12_phases_92 ?_
            refine gw_get0 F (so_64 hst) (by decide) rfl sg_lay_RX12 (j := 33) (by decide) rfl (host := "") (.inl kw_989) dX12_phases_93 (fun h33 => ?_)
            refine gw_iconst F dX12_phases_96 ?_
            refine gw_iadd F rfl dX12_phases_97 ?_
            obtain ⟨g34, hf⟩ := hf
            obtain ⟨s35, e36⟩ : ∃ z : sg_M, z = sg_up s_61 64 33 ((s_61 64 33) + 1) := ⟨_, rfl⟩
            have hf := hf s35 e36
            refine gw_put0 F (so_64 hst) (by decide) rfl sg_lay_RX12 (j := 33) (by decide) g34 e36 tyX12_ok nmX12 rfl (tyX12_ok 33 (by decide)) rfl (host := "") (.inl kw_989) dX12_phases_98 ?_
            refine gw_goto F (tgt := 61) dX12_phases_101 (by decide) ?_
            refine gw_sub [0, 1] rfl ?_
            exact ih s35 hf
    obtain ⟨n37, hf⟩ := hf
    refine gw_sub [0, 1] rfl ?_
    refine L61 _ (fun s_104e61 hf => ?_) n37 s_61e24 hf
    refine gw_iconst F dX12_phases_104 ?_
    refine gw_istore_n F rfl (by decide) rfl dX12_phases_105 ?_
    refine gw_aload_n F 1 rfl rfl (by decide) dX12_phases_106 ?_
    refine gw_get0 F (so_64 hst) (by decide) rfl sg_lay_RX12 (j := 32) (by decide) rfl (host := "") (.inl kw_988) dX12_phases_107 (fun h38 => ?_)
    refine gw_istore F (by decide) rfl dX12_phases_110 ?_
    have L112 : ∀ n_112 : Nat, ∀ (x3_112 : Int) (x4_112 : Int), sg_R x3_112 → sg_R x4_112 → fX12_phases_L112 x2 s_104e61 Q n_112 x3_112 x4_112 → sg_W p l e (sg_rm 2 0 0) s m args below meth c (MQ below (sg_Q (some .int) G La s.heap.size (sg_HI La Q)) args s 0 0 (sg_A La s.heap.size)) 5 G (sg_A La s.heap.size) La s_104e61 0 0 112 [(0, sg_r 64), (2, sg_i x2), (3, sg_i x3_112), (4, sg_i x4_112)] [] := by
      intro n_112
      induction n_112 with
      | zero => intro x3_112 x4_112 r3_112 r4_112 hf; exact hf.elim
      | succ n_112 ih =>
        intro x3_112 x4_112 r3_112 r4_112 hf
        unfold fX12_phases_L112 at hf
        refine gw_iload F 3 rfl dX12_phases_112 ?_
        refine gw_aload_n F 0 rfl rfl (by decide) dX12_phases_114 ?_
        refine gw_get0 F (so_64 hst) (by decide) rfl sg_lay_RX12 (j := 33) (by decide) rfl (host := "") (.inl kw_989) dX12_phases_115 (fun h39 => ?_)
        refine gw_icmp_gt F (tgt := 144) dX12_phases_118 (by decide) r4_112 h39 (fun c40 => ?_) (fun c40 => ?_)
        · have hf := hf.1 c40
          refine gw_iload_n F 2 rfl rfl dX12_phases_144 ?_
          exact gr_HI F r3_112 hf (by decide) (by decide) dX12_phases_145
        · have hf := hf.2 c40
          refine gw_iload_n F 2 rfl rfl dX12_phases_121 ?_
          refine gw_iload_n F 1 rfl rfl dX12_phases_122 ?_
          refine gw_iload_n F 1 rfl rfl dX12_phases_123 ?_
          refine gw_imul F rfl dX12_phases_124 ?_
          refine gw_aload_n F 0 rfl rfl (by decide) dX12_phases_125 ?_
          refine gw_get7 F (so_64 hst) (by decide) rfl sg_lay_RX12 (j := 23) (by decide) (o1 := 73) (by first | rfl | omega) rfl (host := "") (.inl kw_979) dX12_phases_126 (fun h41 => ?_)
          refine gw_iload F 3 rfl dX12_phases_129 ?_
          obtain ⟨⟨b420, b421⟩, hf⟩ := hf
          refine gw_iald F (sa_73 hst) b420 b421 dX12_phases_131 (fun h43 => ?_)
          refine gw_isub F rfl dX12_phases_132 ?_
          obtain ⟨g44, hf⟩ := hf
          refine gk_PI F (gc_S F (S := [sg_i x3_112]) (As := [sg_i ((x2 * x2) - (s_104e61 73 x4_112))]) (CX12_root g44 hf) kw_1145 kw_103 kw_1143 kw_1144 hcX12_root ⟨by decide, by decide⟩ rfl rfl (Nat.le_of_ble_eq_true rfl) ⟨by decide, by decide⟩ dX12_phases_133) (fun u45 h46 hf => ?_)
          refine gw_iadd F rfl dX12_phases_136 ?_
          refine gw_istore_n F rfl (by decide) rfl dX12_phases_137 ?_
          refine gw_iinc F (z := (x4_112 + 1)) 3 rfl (by omega) (by decide) rfl dX12_phases_138 ?_
          refine gw_goto F (tgt := 112) dX12_phases_141 (by decide) ?_
          obtain ⟨g47, hf⟩ := hf
          obtain ⟨g48, hf⟩ := hf
          refine gw_sub [2, 3, 1, 0] rfl ?_
          exact ih (x3_112 + u45) (x4_112 + 1) g47 g48 hf
    obtain ⟨n49, hf⟩ := hf
    refine gw_sub [2, 3, 1, 0] rfl ?_
    refine L112   n49 0 (s_104e61 64 32) (by decide) h38 hf
  · have hf := hf.2 c9
    refine gw_iconst F dX12_phases_22 ?_
    exact gr_HI F (by decide) hf (by decide) (by decide) dX12_phases_23

theorem dX12_toneOf_0 : decode cX12_toneOf 0 = .ok (.iconst 2, 1) := by decide +kernel
theorem dX12_toneOf_1 : decode cX12_toneOf 1 = .ok (.iload_n 2, 1) := by decide +kernel
theorem dX12_toneOf_2 : decode cX12_toneOf 2 = .ok (.imul, 1) := by decide +kernel
theorem dX12_toneOf_3 : decode cX12_toneOf 3 = .ok (.iconst 1, 1) := by decide +kernel
theorem dX12_toneOf_4 : decode cX12_toneOf 4 = .ok (.iadd, 1) := by decide +kernel
theorem dX12_toneOf_5 : decode cX12_toneOf 5 = .ok (.aload_n 0, 1) := by decide +kernel
theorem dX12_toneOf_6 : decode cX12_toneOf 6 = .ok (.getfield 215, 3) := by decide +kernel
theorem dX12_toneOf_9 : decode cX12_toneOf 9 = .ok (.imul, 1) := by decide +kernel
theorem dX12_toneOf_10 : decode cX12_toneOf 10 = .ok (.istore_n 3, 1) := by decide +kernel
theorem dX12_toneOf_11 : decode cX12_toneOf 11 = .ok (.aload_n 0, 1) := by decide +kernel
theorem dX12_toneOf_12 : decode cX12_toneOf 12 = .ok (.getfield 218, 3) := by decide +kernel
theorem dX12_toneOf_15 : decode cX12_toneOf 15 = .ok (.iconst (-1), 1) := by decide +kernel
theorem dX12_toneOf_16 : decode cX12_toneOf 16 = .ok (.if_icmp .ne 15, 3) := by decide +kernel
theorem dX12_toneOf_19 : decode cX12_toneOf 19 = .ok (.aload_n 0, 1) := by decide +kernel
theorem dX12_toneOf_20 : decode cX12_toneOf 20 = .ok (.iload_n 1, 1) := by decide +kernel
theorem dX12_toneOf_21 : decode cX12_toneOf 21 = .ok (.sipush 2000, 3) := by decide +kernel
theorem dX12_toneOf_24 : decode cX12_toneOf 24 = .ok (.invokevirtual 248, 3) := by decide +kernel
theorem dX12_toneOf_27 : decode cX12_toneOf 27 = .ok (.iload_n 3, 1) := by decide +kernel
theorem dX12_toneOf_28 : decode cX12_toneOf 28 = .ok (.if_icmp .ge 5, 3) := by decide +kernel
theorem dX12_toneOf_31 : decode cX12_toneOf 31 = .ok (.iconst (-1), 1) := by decide +kernel
theorem dX12_toneOf_32 : decode cX12_toneOf 32 = .ok (.ireturn, 1) := by decide +kernel
theorem dX12_toneOf_33 : decode cX12_toneOf 33 = .ok (.iconst 0, 1) := by decide +kernel
theorem dX12_toneOf_34 : decode cX12_toneOf 34 = .ok (.istore 4, 2) := by decide +kernel
theorem dX12_toneOf_36 : decode cX12_toneOf 36 = .ok (.sipush 2000, 3) := by decide +kernel
theorem dX12_toneOf_39 : decode cX12_toneOf 39 = .ok (.istore 5, 2) := by decide +kernel
theorem dX12_toneOf_41 : decode cX12_toneOf 41 = .ok (.iload 4, 2) := by decide +kernel
theorem dX12_toneOf_43 : decode cX12_toneOf 43 = .ok (.iconst 1, 1) := by decide +kernel
theorem dX12_toneOf_44 : decode cX12_toneOf 44 = .ok (.iadd, 1) := by decide +kernel
theorem dX12_toneOf_45 : decode cX12_toneOf 45 = .ok (.iload 5, 2) := by decide +kernel
theorem dX12_toneOf_47 : decode cX12_toneOf 47 = .ok (.if_icmp .ge 37, 3) := by decide +kernel
theorem dX12_toneOf_50 : decode cX12_toneOf 50 = .ok (.iload 4, 2) := by decide +kernel
theorem dX12_toneOf_52 : decode cX12_toneOf 52 = .ok (.iload 5, 2) := by decide +kernel
theorem dX12_toneOf_54 : decode cX12_toneOf 54 = .ok (.iadd, 1) := by decide +kernel
theorem dX12_toneOf_55 : decode cX12_toneOf 55 = .ok (.iconst 2, 1) := by decide +kernel
theorem dX12_toneOf_56 : decode cX12_toneOf 56 = .ok (.idiv, 1) := by decide +kernel
theorem dX12_toneOf_57 : decode cX12_toneOf 57 = .ok (.istore 6, 2) := by decide +kernel
theorem dX12_toneOf_59 : decode cX12_toneOf 59 = .ok (.aload_n 0, 1) := by decide +kernel
theorem dX12_toneOf_60 : decode cX12_toneOf 60 = .ok (.iload_n 1, 1) := by decide +kernel
theorem dX12_toneOf_61 : decode cX12_toneOf 61 = .ok (.iload 6, 2) := by decide +kernel
theorem dX12_toneOf_63 : decode cX12_toneOf 63 = .ok (.invokevirtual 248, 3) := by decide +kernel
theorem dX12_toneOf_66 : decode cX12_toneOf 66 = .ok (.iload_n 3, 1) := by decide +kernel
theorem dX12_toneOf_67 : decode cX12_toneOf 67 = .ok (.if_icmp .lt 10, 3) := by decide +kernel
theorem dX12_toneOf_70 : decode cX12_toneOf 70 = .ok (.iload 6, 2) := by decide +kernel
theorem dX12_toneOf_72 : decode cX12_toneOf 72 = .ok (.istore 5, 2) := by decide +kernel
theorem dX12_toneOf_74 : decode cX12_toneOf 74 = .ok (.goto 7, 3) := by decide +kernel
theorem dX12_toneOf_77 : decode cX12_toneOf 77 = .ok (.iload 6, 2) := by decide +kernel
theorem dX12_toneOf_79 : decode cX12_toneOf 79 = .ok (.istore 4, 2) := by decide +kernel
theorem dX12_toneOf_81 : decode cX12_toneOf 81 = .ok (.goto (-40), 3) := by decide +kernel
theorem dX12_toneOf_84 : decode cX12_toneOf 84 = .ok (.aload_n 0, 1) := by decide +kernel
theorem dX12_toneOf_85 : decode cX12_toneOf 85 = .ok (.iload_n 1, 1) := by decide +kernel
theorem dX12_toneOf_86 : decode cX12_toneOf 86 = .ok (.iload 5, 2) := by decide +kernel
theorem dX12_toneOf_88 : decode cX12_toneOf 88 = .ok (.invokevirtual 248, 3) := by decide +kernel
theorem dX12_toneOf_91 : decode cX12_toneOf 91 = .ok (.pop, 1) := by decide +kernel
theorem dX12_toneOf_92 : decode cX12_toneOf 92 = .ok (.iload 5, 2) := by decide +kernel
theorem dX12_toneOf_94 : decode cX12_toneOf 94 = .ok (.ireturn, 1) := by decide +kernel
theorem hcX12_toneOf : yX12_toneOf.cls ≠ "java/lang/invoke/MethodHandle" ∧ yX12_toneOf.cls ≠ "java/lang/invoke/VarHandle" ∧ (parseMethodDescriptor yX12_toneOf.desc).map (fun d => d.parameters.length) = some 2 := ⟨by decide +kernel, by decide +kernel, by decide +kernel⟩
def fX12_toneOf_j81 (s18 : sg_M) (k41 : sg_M → Int → Int → Prop) (x4_81 : Int) (x5_81 : Int) : Prop := k41 s18 x4_81 x5_81
def fX12_toneOf_L41 (s0 : sg_M) (x1 : Int) (x2 : Int) (Q : Int → sg_M → Prop) : Nat → sg_M → Int → Int → Prop
  | 0, _, _, _ => False
  | n_41 + 1, s_41, x4_41, x5_41 => sg_R (x4_41 + 1) ∧ ((x5_41 ≤ (x4_41 + 1) → fX12_phases s_41 x1 x5_41 (fun u11 s13 => Q x5_41 s13)) ∧ (¬ (x5_41 ≤ (x4_41 + 1)) → sg_R (x4_41 + x5_41) ∧ sg_R (Int.tdiv (x4_41 + x5_41) 2) ∧ fX12_phases s_41 x1 (Int.tdiv (x4_41 + x5_41) 2) (fun u16 s18 => ((u16 < (((2 * x2) + 1) * (s0 64 28)) → (fX12_toneOf_j81 s18 (fX12_toneOf_L41 s0 x1 x2 Q n_41)) (Int.tdiv (x4_41 + x5_41) 2) x5_41) ∧ (¬ (u16 < (((2 * x2) + 1) * (s0 64 28))) → (fX12_toneOf_j81 s18 (fX12_toneOf_L41 s0 x1 x2 Q n_41)) x4_41 (Int.tdiv (x4_41 + x5_41) 2))))))
def fX12_toneOf (s0 : sg_M) (x1 : Int) (x2 : Int) (Q : Int → sg_M → Prop) : Prop := (((s0 64 30) ≠ (-1) → Q (-1) s0) ∧ ((s0 64 30) = (-1) → fX12_phases s0 x1 2000 (fun u4 s6 => sg_R (((2 * x2) + 1) * (s0 64 28)) ∧ (((((2 * x2) + 1) * (s0 64 28)) ≤ u4 → (∃ n20 : Nat, fX12_toneOf_L41 s0 x1 x2 Q n20 s6 0 2000)) ∧ (¬ ((((2 * x2) + 1) * (s0 64 28)) ≤ u4) → Q (-1) s6)))))
set_option maxHeartbeats 4000000 in
set_option maxRecDepth 100000 in
theorem CX12_toneOf {l : Launch} {G : sg_G} {La : sg_L} {s0 : sg_M} (hst : sg_St La) {x1 : Int} (r1 : sg_R x1) {x2 : Int} (r2 : sg_R x2) {Q : Int → sg_M → Prop} (hf : fX12_toneOf s0 x1 x2 Q) : sg_C l G yX12_toneOf cX12_toneOf 7 (some .int) 3 0 0 La s0 [sg_r 64, sg_i x1, sg_i x2] (sg_HI La Q) := by
  refine sg_body (by decide +kernel) (Nat.le_of_ble_eq_true rfl) ?_
  intro p e s m args below meth c F hnm
  unfold fX12_toneOf at hf
  show sg_W p l e (sg_rm 3 0 0) s m args below meth c (MQ below (sg_Q (some .int) G La s.heap.size (sg_HI La Q)) args s 0 0 (sg_A La s.heap.size)) 7 G (sg_A La s.heap.size) La s0 0 0 0 [(0, sg_r 64), (1, sg_i x1), (2, sg_i x2)] []
  refine gw_iconst F dX12_toneOf_0 ?_
  refine gw_iload_n F 2 rfl rfl dX12_toneOf_1 ?_
  refine gw_imul F rfl dX12_toneOf_2 ?_
  refine gw_iconst F dX12_toneOf_3 ?_
  refine gw_iadd F rfl dX12_toneOf_4 ?_
  refine gw_aload_n F 0 rfl rfl (by decide) dX12_toneOf_5 ?_
  refine gw_get0 F (so_64 hst) (by decide) rfl sg_lay_RX12 (j := 28) (by decide) rfl (host := "") (.inl kw_984) dX12_toneOf_6 (fun h1 => ?_)
  refine gw_imul F rfl dX12_toneOf_9 ?_
  refine gw_istore_n F rfl (by decide) rfl dX12_toneOf_10 ?_
  refine gw_aload_n F 1 rfl rfl (by decide) dX12_toneOf_11 ?_
  refine gw_get0 F (so_64 hst) (by decide) rfl sg_lay_RX12 (j := 30) (by decide) rfl (host := "") (.inl kw_986) dX12_toneOf_12 (fun h2 => ?_)
  refine gw_iconst F dX12_toneOf_15 ?_
  refine gw_icmp_ne F (tgt := 31) dX12_toneOf_16 (by decide) h2 (by decide) (fun c3 => ?_) (fun c3 => ?_)
  · have hf := hf.1 c3
    refine gw_iconst F dX12_toneOf_31 ?_
    exact gr_HI F (by decide) hf (by decide) (by decide) dX12_toneOf_32
  · have hf := hf.2 c3
    refine gw_aload_n F 1 rfl rfl (by decide) dX12_toneOf_19 ?_
    refine gw_iload_n F 2 rfl rfl dX12_toneOf_20 ?_
    refine gw_sipush F rfl dX12_toneOf_21 ?_
    refine gk_HI F (gc_V F (S := []) (As := [sg_i x1, sg_i 2000]) (T := TX12) (N := 62) (CX12_phases hst r1 (by decide) hf) (so_64 hst) (by decide) rfl kw_1142 kw_103 kw_1140 kw_1141 kw_58 hcX12_phases ⟨by decide, by decide⟩ rfl rfl (Nat.le_of_ble_eq_true rfl) ⟨by decide, by decide⟩ dX12_toneOf_24) (fun u4 s6 h5 hf => ?_)
    refine gw_iload_n F 0 rfl rfl dX12_toneOf_27 ?_
    obtain ⟨g7, hf⟩ := hf
    refine gw_icmp_ge F (tgt := 33) dX12_toneOf_28 (by decide) h5 g7 (fun c8 => ?_) (fun c8 => ?_)
    · have hf := hf.1 c8
      refine gw_iconst F dX12_toneOf_33 ?_
      refine gw_istore F (by decide) rfl dX12_toneOf_34 ?_
      refine gw_sipush F rfl dX12_toneOf_36 ?_
      refine gw_istore F (by decide) rfl dX12_toneOf_39 ?_
      have L41 : ∀ n_41 : Nat, ∀ (s_41 : sg_M) (x4_41 : Int) (x5_41 : Int), sg_R x4_41 → sg_R x5_41 → fX12_toneOf_L41 s0 x1 x2 Q n_41 s_41 x4_41 x5_41 → sg_W p l e (sg_rm 3 0 0) s m args below meth c (MQ below (sg_Q (some .int) G La s.heap.size (sg_HI La Q)) args s 0 0 (sg_A La s.heap.size)) 7 G (sg_A La s.heap.size) La s_41 0 0 41 [(0, sg_r 64), (1, sg_i x1), (3, sg_i (((2 * x2) + 1) * (s0 64 28))), (4, sg_i x4_41), (5, sg_i x5_41)] [] := by
        intro n_41
        induction n_41 with
        | zero => intro s_41 x4_41 x5_41 r4_41 r5_41 hf; exact hf.elim
        | succ n_41 ih =>
          intro s_41 x4_41 x5_41 r4_41 r5_41 hf
          unfold fX12_toneOf_L41 at hf
          refine gw_iload F 3 rfl dX12_toneOf_41 ?_
          refine gw_iconst F dX12_toneOf_43 ?_
          refine gw_iadd F rfl dX12_toneOf_44 ?_
          refine gw_iload F 4 rfl dX12_toneOf_45 ?_
          obtain ⟨g9, hf⟩ := hf
          refine gw_icmp_ge F (tgt := 84) dX12_toneOf_47 (by decide) g9 r5_41 (fun c10 => ?_) (fun c10 => ?_)
          · have hf := hf.1 c10
            refine gw_aload_n F 0 rfl rfl (by decide) dX12_toneOf_84 ?_
            refine gw_iload_n F 1 rfl rfl dX12_toneOf_85 ?_
            refine gw_iload F 4 rfl dX12_toneOf_86 ?_
            refine gk_HI F (gc_V F (S := []) (As := [sg_i x1, sg_i x5_41]) (T := TX12) (N := 62) (CX12_phases hst r1 r5_41 hf) (so_64 hst) (by decide) rfl kw_1142 kw_103 kw_1140 kw_1141 kw_58 hcX12_phases ⟨by decide, by decide⟩ rfl rfl (Nat.le_of_ble_eq_true rfl) ⟨by decide, by decide⟩ dX12_toneOf_88) (fun u11 s13 h12 hf => ?_)
            refine gw_pop F rfl dX12_toneOf_91 ?_
            refine gw_iload F 4 rfl dX12_toneOf_92 ?_
            exact gr_HI F r5_41 hf (by decide) (by decide) dX12_toneOf_94
          · have hf := hf.2 c10
            refine gw_iload F 3 rfl dX12_toneOf_50 ?_
            refine gw_iload F 4 rfl dX12_toneOf_52 ?_
            refine gw_iadd F rfl dX12_toneOf_54 ?_
            refine gw_iconst F dX12_toneOf_55 ?_
            obtain ⟨g14, hf⟩ := hf
            refine gw_idiv F g14 (by decide) (by decide) rfl dX12_toneOf_56 ?_
            refine gw_istore F (by decide) rfl dX12_toneOf_57 ?_
            refine gw_aload_n F 1 rfl rfl (by decide) dX12_toneOf_59 ?_
            refine gw_iload_n F 2 rfl rfl dX12_toneOf_60 ?_
            refine gw_iload F 0 rfl dX12_toneOf_61 ?_
            obtain ⟨g15, hf⟩ := hf
            refine gk_HI F (gc_V F (S := []) (As := [sg_i x1, sg_i (Int.tdiv (x4_41 + x5_41) 2)]) (T := TX12) (N := 62) (CX12_phases hst r1 g15 hf) (so_64 hst) (by decide) rfl kw_1142 kw_103 kw_1140 kw_1141 kw_58 hcX12_phases ⟨by decide, by decide⟩ rfl rfl (Nat.le_of_ble_eq_true rfl) ⟨by decide, by decide⟩ dX12_toneOf_63) (fun u16 s18 h17 hf => ?_)
            refine gw_iload_n F 3 rfl rfl dX12_toneOf_66 ?_
            have J81 : ∀ (x4_81 : Int) (x5_81 : Int), sg_R x4_81 → sg_R x5_81 → (fX12_toneOf_j81 s18 (fX12_toneOf_L41 s0 x1 x2 Q n_41)) x4_81 x5_81 → sg_W p l e (sg_rm 3 0 0) s m args below meth c (MQ below (sg_Q (some .int) G La s.heap.size (sg_HI La Q)) args s 0 0 (sg_A La s.heap.size)) 7 G (sg_A La s.heap.size) La s18 0 0 81 [(0, sg_r 64), (1, sg_i x1), (3, sg_i (((2 * x2) + 1) * (s0 64 28))), (4, sg_i x4_81), (5, sg_i x5_81)] [] := by
              intro x4_81 x5_81 r4_81 r5_81 hf
              unfold fX12_toneOf_j81 at hf
              refine gw_goto F (tgt := 41) dX12_toneOf_81 (by decide) ?_
              refine gw_sub [0, 1, 2, 3, 4] rfl ?_
              exact ih s18 x4_81 x5_81 r4_81 r5_81 hf
            refine gw_icmp_lt F (tgt := 77) dX12_toneOf_67 (by decide) h17 g7 (fun c19 => ?_) (fun c19 => ?_)
            · have hf := hf.1 c19
              refine gw_iload F 0 rfl dX12_toneOf_77 ?_
              refine gw_istore F (by decide) rfl dX12_toneOf_79 ?_
              refine gw_sub [2, 3, 4, 0, 5] rfl ?_
              exact J81 (Int.tdiv (x4_41 + x5_41) 2) x5_41 g15 r5_41 hf
            · have hf := hf.2 c19
              refine gw_iload F 0 rfl dX12_toneOf_70 ?_
              refine gw_istore F (by decide) rfl dX12_toneOf_72 ?_
              refine gw_goto F (tgt := 81) dX12_toneOf_74 (by decide) ?_
              refine gw_sub [2, 3, 4, 5, 0] rfl ?_
              exact J81 x4_41 (Int.tdiv (x4_41 + x5_41) 2) r4_41 g15 hf
      obtain ⟨n20, hf⟩ := hf
      refine gw_sub [3, 4, 2, 1, 0] rfl ?_
      refine L41   n20 s6 0 2000 (by decide) (by decide) hf
    · have hf := hf.2 c8
      refine gw_iconst F dX12_toneOf_31 ?_
      exact gr_HI F (by decide) hf (by decide) (by decide) dX12_toneOf_32

theorem dX12_voiceBy_0 : decode cX12_voiceBy 0 = .ok (.aload_n 0, 1) := by decide +kernel
theorem dX12_voiceBy_1 : decode cX12_voiceBy 1 = .ok (.iload_n 1, 1) := by decide +kernel
theorem dX12_voiceBy_2 : decode cX12_voiceBy 2 = .ok (.iload_n 2, 1) := by decide +kernel
theorem dX12_voiceBy_3 : decode cX12_voiceBy 3 = .ok (.iload_n 3, 1) := by decide +kernel
theorem dX12_voiceBy_4 : decode cX12_voiceBy 4 = .ok (.iload 4, 2) := by decide +kernel
theorem dX12_voiceBy_6 : decode cX12_voiceBy 6 = .ok (.iload 5, 2) := by decide +kernel
theorem dX12_voiceBy_8 : decode cX12_voiceBy 8 = .ok (.invokevirtual 235, 3) := by decide +kernel
theorem dX12_voiceBy_11 : decode cX12_voiceBy 11 = .ok (.aload_n 0, 1) := by decide +kernel
theorem dX12_voiceBy_12 : decode cX12_voiceBy 12 = .ok (.iconst 0, 1) := by decide +kernel
theorem dX12_voiceBy_13 : decode cX12_voiceBy 13 = .ok (.putfield 273, 3) := by decide +kernel
theorem dX12_voiceBy_16 : decode cX12_voiceBy 16 = .ok (.aload_n 0, 1) := by decide +kernel
theorem dX12_voiceBy_17 : decode cX12_voiceBy 17 = .ok (.bipush 99, 2) := by decide +kernel
theorem dX12_voiceBy_19 : decode cX12_voiceBy 19 = .ok (.putfield 276, 3) := by decide +kernel
theorem dX12_voiceBy_22 : decode cX12_voiceBy 22 = .ok (.aload_n 0, 1) := by decide +kernel
theorem dX12_voiceBy_23 : decode cX12_voiceBy 23 = .ok (.iconst 0, 1) := by decide +kernel
theorem dX12_voiceBy_24 : decode cX12_voiceBy 24 = .ok (.putfield 279, 3) := by decide +kernel
theorem dX12_voiceBy_27 : decode cX12_voiceBy 27 = .ok (.aload_n 0, 1) := by decide +kernel
theorem dX12_voiceBy_28 : decode cX12_voiceBy 28 = .ok (.iconst 0, 1) := by decide +kernel
theorem dX12_voiceBy_29 : decode cX12_voiceBy 29 = .ok (.putfield 282, 3) := by decide +kernel
theorem dX12_voiceBy_32 : decode cX12_voiceBy 32 = .ok (.iconst (-1), 1) := by decide +kernel
theorem dX12_voiceBy_33 : decode cX12_voiceBy 33 = .ok (.istore 6, 2) := by decide +kernel
theorem dX12_voiceBy_35 : decode cX12_voiceBy 35 = .ok (.iconst 0, 1) := by decide +kernel
theorem dX12_voiceBy_36 : decode cX12_voiceBy 36 = .ok (.istore 7, 2) := by decide +kernel
theorem dX12_voiceBy_38 : decode cX12_voiceBy 38 = .ok (.iload 7, 2) := by decide +kernel
theorem dX12_voiceBy_40 : decode cX12_voiceBy 40 = .ok (.aload_n 0, 1) := by decide +kernel
theorem dX12_voiceBy_41 : decode cX12_voiceBy 41 = .ok (.getfield 226, 3) := by decide +kernel
theorem dX12_voiceBy_44 : decode cX12_voiceBy 44 = .ok (.if_icmp .ge 99, 3) := by decide +kernel
theorem dX12_voiceBy_47 : decode cX12_voiceBy 47 = .ok (.aload_n 0, 1) := by decide +kernel
theorem dX12_voiceBy_48 : decode cX12_voiceBy 48 = .ok (.aload_n 0, 1) := by decide +kernel
theorem dX12_voiceBy_49 : decode cX12_voiceBy 49 = .ok (.getfield 41, 3) := by decide +kernel
theorem dX12_voiceBy_52 : decode cX12_voiceBy 52 = .ok (.iload 7, 2) := by decide +kernel
theorem dX12_voiceBy_54 : decode cX12_voiceBy 54 = .ok (.iaload, 1) := by decide +kernel
theorem dX12_voiceBy_55 : decode cX12_voiceBy 55 = .ok (.iconst 0, 1) := by decide +kernel
theorem dX12_voiceBy_56 : decode cX12_voiceBy 56 = .ok (.invokevirtual 255, 3) := by decide +kernel
theorem dX12_voiceBy_59 : decode cX12_voiceBy 59 = .ok (.istore 8, 2) := by decide +kernel
theorem dX12_voiceBy_61 : decode cX12_voiceBy 61 = .ok (.iload 8, 2) := by decide +kernel
theorem dX12_voiceBy_63 : decode cX12_voiceBy 63 = .ok (.iconst (-1), 1) := by decide +kernel
theorem dX12_voiceBy_64 : decode cX12_voiceBy 64 = .ok (.if_icmp .eq 73, 3) := by decide +kernel
theorem dX12_voiceBy_67 : decode cX12_voiceBy 67 = .ok (.aload_n 0, 1) := by decide +kernel
theorem dX12_voiceBy_68 : decode cX12_voiceBy 68 = .ok (.invokevirtual 252, 3) := by decide +kernel
theorem dX12_voiceBy_71 : decode cX12_voiceBy 71 = .ok (.ifCond .ne 6, 3) := by decide +kernel
theorem dX12_voiceBy_74 : decode cX12_voiceBy 74 = .ok (.goto 63, 3) := by decide +kernel
theorem dX12_voiceBy_77 : decode cX12_voiceBy 77 = .ok (.aload_n 0, 1) := by decide +kernel
theorem dX12_voiceBy_78 : decode cX12_voiceBy 78 = .ok (.iload 8, 2) := by decide +kernel
theorem dX12_voiceBy_80 : decode cX12_voiceBy 80 = .ok (.invokevirtual 261, 3) := by decide +kernel
theorem dX12_voiceBy_83 : decode cX12_voiceBy 83 = .ok (.istore 9, 2) := by decide +kernel
theorem dX12_voiceBy_85 : decode cX12_voiceBy 85 = .ok (.iload 9, 2) := by decide +kernel
theorem dX12_voiceBy_87 : decode cX12_voiceBy 87 = .ok (.iload 6, 2) := by decide +kernel
theorem dX12_voiceBy_89 : decode cX12_voiceBy 89 = .ok (.if_icmp .gt 6, 3) := by decide +kernel
theorem dX12_voiceBy_92 : decode cX12_voiceBy 92 = .ok (.goto 45, 3) := by decide +kernel
theorem dX12_voiceBy_95 : decode cX12_voiceBy 95 = .ok (.iload 9, 2) := by decide +kernel
theorem dX12_voiceBy_97 : decode cX12_voiceBy 97 = .ok (.istore 6, 2) := by decide +kernel
theorem dX12_voiceBy_99 : decode cX12_voiceBy 99 = .ok (.aload_n 0, 1) := by decide +kernel
theorem dX12_voiceBy_100 : decode cX12_voiceBy 100 = .ok (.iload 8, 2) := by decide +kernel
theorem dX12_voiceBy_102 : decode cX12_voiceBy 102 = .ok (.putfield 273, 3) := by decide +kernel
theorem dX12_voiceBy_105 : decode cX12_voiceBy 105 = .ok (.aload_n 0, 1) := by decide +kernel
theorem dX12_voiceBy_106 : decode cX12_voiceBy 106 = .ok (.aload_n 0, 1) := by decide +kernel
theorem dX12_voiceBy_107 : decode cX12_voiceBy 107 = .ok (.getfield 41, 3) := by decide +kernel
theorem dX12_voiceBy_110 : decode cX12_voiceBy 110 = .ok (.iload 7, 2) := by decide +kernel
theorem dX12_voiceBy_112 : decode cX12_voiceBy 112 = .ok (.iaload, 1) := by decide +kernel
theorem dX12_voiceBy_113 : decode cX12_voiceBy 113 = .ok (.putfield 276, 3) := by decide +kernel
theorem dX12_voiceBy_116 : decode cX12_voiceBy 116 = .ok (.aload_n 0, 1) := by decide +kernel
theorem dX12_voiceBy_117 : decode cX12_voiceBy 117 = .ok (.iload 9, 2) := by decide +kernel
theorem dX12_voiceBy_119 : decode cX12_voiceBy 119 = .ok (.putfield 279, 3) := by decide +kernel
theorem dX12_voiceBy_122 : decode cX12_voiceBy 122 = .ok (.aload_n 0, 1) := by decide +kernel
theorem dX12_voiceBy_123 : decode cX12_voiceBy 123 = .ok (.aload_n 0, 1) := by decide +kernel
theorem dX12_voiceBy_124 : decode cX12_voiceBy 124 = .ok (.aload_n 0, 1) := by decide +kernel
theorem dX12_voiceBy_125 : decode cX12_voiceBy 125 = .ok (.getfield 41, 3) := by decide +kernel
theorem dX12_voiceBy_128 : decode cX12_voiceBy 128 = .ok (.iload 7, 2) := by decide +kernel
theorem dX12_voiceBy_130 : decode cX12_voiceBy 130 = .ok (.iaload, 1) := by decide +kernel
theorem dX12_voiceBy_131 : decode cX12_voiceBy 131 = .ok (.invokevirtual 258, 3) := by decide +kernel
theorem dX12_voiceBy_134 : decode cX12_voiceBy 134 = .ok (.putfield 282, 3) := by decide +kernel
theorem dX12_voiceBy_137 : decode cX12_voiceBy 137 = .ok (.iinc 7 1, 3) := by decide +kernel
theorem dX12_voiceBy_140 : decode cX12_voiceBy 140 = .ok (.goto (-102), 3) := by decide +kernel
theorem dX12_voiceBy_143 : decode cX12_voiceBy 143 = .ok (.aload_n 0, 1) := by decide +kernel
theorem dX12_voiceBy_144 : decode cX12_voiceBy 144 = .ok (.getfield 273, 3) := by decide +kernel
theorem dX12_voiceBy_147 : decode cX12_voiceBy 147 = .ok (.ireturn, 1) := by decide +kernel
theorem hcX12_voiceBy : yX12_voiceBy.cls ≠ "java/lang/invoke/MethodHandle" ∧ yX12_voiceBy.cls ≠ "java/lang/invoke/VarHandle" ∧ (parseMethodDescriptor yX12_voiceBy.desc).map (fun d => d.parameters.length) = some 5 := ⟨by decide +kernel, by decide +kernel, by decide +kernel⟩
def fX12_voiceBy_j137 (x7_38 : Int) (k38 : sg_M → Int → Int → Prop) (s_137 : sg_M) (x6_137 : Int) : Prop := sg_R (x7_38 + 1) ∧ k38 s_137 x6_137 (x7_38 + 1)
def fX12_voiceBy_L38  (Q : Int → sg_M → Prop) : Nat → sg_M → Int → Int → Prop
  | 0, _, _, _ => False
  | n_38 + 1, s_38, x6_38, x7_38 => (((s_38 64 29) ≤ x7_38 → Q (s_38 64 39) s_38) ∧ (¬ ((s_38 64 29) ≤ x7_38) → (0 ≤ x7_38 ∧ x7_38 < 60) ∧ fX12_toneOf s_38 (s_38 75 x7_38) 0 (fun u16 s18 => ((u16 = (-1) → (fX12_voiceBy_j137 x7_38 (fX12_voiceBy_L38  Q n_38)) s18 x6_38) ∧ (¬ (u16 = (-1)) → fX12_isShut s18 (fun u21 => ((u21 ≠ 0 → fX12_rings s18 u16 (fun u24 => ((x6_38 < u24 → ∀ s27 : sg_M, s27 = sg_up s18 64 39 u16 → (0 ≤ x7_38 ∧ x7_38 < 60) ∧ ∀ s32 : sg_M, s32 = sg_up s27 64 40 (s27 75 x7_38) → ∀ s34 : sg_M, s34 = sg_up s32 64 41 u24 → (0 ≤ x7_38 ∧ x7_38 < 60) ∧ fX12_isTwice s34 (s34 75 x7_38) (fun u39 => ∀ s41 : sg_M, s41 = sg_up s34 64 42 u39 → (fX12_voiceBy_j137 x7_38 (fX12_voiceBy_L38  Q n_38)) s41 u24)) ∧ (¬ (x6_38 < u24) → (fX12_voiceBy_j137 x7_38 (fX12_voiceBy_L38  Q n_38)) s18 x6_38)))) ∧ (u21 = 0 → (fX12_voiceBy_j137 x7_38 (fX12_voiceBy_L38  Q n_38)) s18 x6_38))))))))
def fX12_voiceBy (s0 : sg_M) (x1 : Int) (x2 : Int) (x3 : Int) (x4 : Int) (x5 : Int) (Q : Int → sg_M → Prop) : Prop := fX12_layBend s0 x1 x2 x3 x4 x5 (fun s1 => ∀ s2 : sg_M, s2 = sg_up s1 64 39 0 → ∀ s4 : sg_M, s4 = sg_up s2 64 40 99 → ∀ s6 : sg_M, s6 = sg_up s4 64 41 0 → ∀ s8 : sg_M, s8 = sg_up s6 64 42 0 → (∃ n43 : Nat, fX12_voiceBy_L38  Q n43 s8 (-1) 0))
set_option maxHeartbeats 4000000 in
set_option maxRecDepth 100000 in
theorem CX12_voiceBy {l : Launch} {G : sg_G} {La : sg_L} {s0 : sg_M} (hst : sg_St La) {x1 : Int} (r1 : sg_R x1) {x2 : Int} (r2 : sg_R x2) {x3 : Int} (r3 : sg_R x3) {x4 : Int} (r4 : sg_R x4) {x5 : Int} (r5 : sg_R x5) {Q : Int → sg_M → Prop} (hf : fX12_voiceBy s0 x1 x2 x3 x4 x5 Q) : sg_C l G yX12_voiceBy cX12_voiceBy 10 (some .int) 4 0 0 La s0 [sg_r 64, sg_i x1, sg_i x2, sg_i x3, sg_i x4, sg_i x5] (sg_HI La Q) := by
  refine sg_body (by decide +kernel) (Nat.le_of_ble_eq_true rfl) ?_
  intro p e s m args below meth c F hnm
  unfold fX12_voiceBy at hf
  show sg_W p l e (sg_rm 4 0 0) s m args below meth c (MQ below (sg_Q (some .int) G La s.heap.size (sg_HI La Q)) args s 0 0 (sg_A La s.heap.size)) 10 G (sg_A La s.heap.size) La s0 0 0 0 [(0, sg_r 64), (1, sg_i x1), (2, sg_i x2), (3, sg_i x3), (4, sg_i x4), (5, sg_i x5)] []
  refine gw_aload_n F 0 rfl rfl (by decide) dX12_voiceBy_0 ?_
  refine gw_iload_n F 1 rfl rfl dX12_voiceBy_1 ?_
  refine gw_iload_n F 2 rfl rfl dX12_voiceBy_2 ?_
  refine gw_iload_n F 3 rfl rfl dX12_voiceBy_3 ?_
  refine gw_iload F 4 rfl dX12_voiceBy_4 ?_
  refine gw_iload F 5 rfl dX12_voiceBy_6 ?_
  refine gk_HV F (gc_V F (S := []) (As := [sg_i x1, sg_i x2, sg_i x3, sg_i x4, sg_i x5]) (T := TX12) (N := 62) (CX12_layBend hst r1 r2 r3 r4 r5 hf) (so_64 hst) (by decide) rfl kw_1120 kw_103 kw_1118 kw_1119 kw_55 hcX12_layBend ⟨by decide, by decide⟩ rfl rfl (Nat.le_of_ble_eq_true rfl) ⟨by decide, by decide⟩ dX12_voiceBy_8) (fun s1 hf => ?_)
  refine gw_aload_n F 0 rfl rfl (by decide) dX12_voiceBy_11 ?_
  refine gw_iconst F dX12_voiceBy_12 ?_
  obtain ⟨s2, e3⟩ : ∃ z : sg_M, z = sg_up s1 64 39 0 := ⟨_, rfl⟩
  have hf := hf s2 e3
  refine gw_put0 F (so_64 hst) (by decide) rfl sg_lay_RX12 (j := 39) (by decide) (by decide) e3 tyX12_ok nmX12 rfl (tyX12_ok 39 (by decide)) rfl (host := "") (.inl kw_995) dX12_voiceBy_13 ?_
  refine gw_aload_n F 0 rfl rfl (by decide) dX12_voiceBy_16 ?_
  refine gw_bipush F rfl dX12_voiceBy_17 ?_
  obtain ⟨s4, e5⟩ : ∃ z : sg_M, z = sg_up s2 64 40 99 := ⟨_, rfl⟩
  have hf := hf s4 e5
  refine gw_put0 F (so_64 hst) (by decide) rfl sg_lay_RX12 (j := 40) (by decide) (by decide) e5 tyX12_ok nmX12 rfl (tyX12_ok 40 (by decide)) rfl (host := "") (.inl kw_996) dX12_voiceBy_19 ?_
  refine gw_aload_n F 0 rfl rfl (by decide) dX12_voiceBy_22 ?_
  refine gw_iconst F dX12_voiceBy_23 ?_
  obtain ⟨s6, e7⟩ : ∃ z : sg_M, z = sg_up s4 64 41 0 := ⟨_, rfl⟩
  have hf := hf s6 e7
  refine gw_put0 F (so_64 hst) (by decide) rfl sg_lay_RX12 (j := 41) (by decide) (by decide) e7 tyX12_ok nmX12 rfl (tyX12_ok 41 (by decide)) rfl (host := "") (.inl kw_997) dX12_voiceBy_24 ?_
  refine gw_aload_n F 0 rfl rfl (by decide) dX12_voiceBy_27 ?_
  refine gw_iconst F dX12_voiceBy_28 ?_
  obtain ⟨s8, e9⟩ : ∃ z : sg_M, z = sg_up s6 64 42 0 := ⟨_, rfl⟩
  have hf := hf s8 e9
  refine gw_put1 F (so_64 hst) (by decide) rfl sg_lay_RX12 (j := 42) (by decide) (by decide) e9 tyX12_ok nmX12 rfl (tyX12_ok 42 (by decide)) rfl (host := "") (.inl kw_998) dX12_voiceBy_29 ?_
  refine gw_iconst F dX12_voiceBy_32 ?_
  refine gw_istore F (by decide) rfl dX12_voiceBy_33 ?_
  refine gw_iconst F dX12_voiceBy_35 ?_
  refine gw_istore F (by decide) rfl dX12_voiceBy_36 ?_
  have L38 : ∀ n_38 : Nat, ∀ (s_38 : sg_M) (x6_38 : Int) (x7_38 : Int), sg_R x6_38 → sg_R x7_38 → fX12_voiceBy_L38  Q n_38 s_38 x6_38 x7_38 → sg_W p l e (sg_rm 4 0 0) s m args below meth c (MQ below (sg_Q (some .int) G La s.heap.size (sg_HI La Q)) args s 0 0 (sg_A La s.heap.size)) 10 G (sg_A La s.heap.size) La s_38 0 0 38 [(0, sg_r 64), (6, sg_i x6_38), (7, sg_i x7_38)] [] := by
    intro n_38
    induction n_38 with
    | zero => intro s_38 x6_38 x7_38 r6_38 r7_38 hf; exact hf.elim
    | succ n_38 ih =>
      intro s_38 x6_38 x7_38 r6_38 r7_38 hf
      unfold fX12_voiceBy_L38 at hf
      refine gw_iload F 2 rfl dX12_voiceBy_38 ?_
      refine gw_aload_n F 0 rfl rfl (by decide) dX12_voiceBy_40 ?_
      refine gw_get0 F (so_64 hst) (by decide) rfl sg_lay_RX12 (j := 29) (by decide) rfl (host := "") (.inl kw_985) dX12_voiceBy_41 (fun h10 => ?_)
      refine gw_icmp_ge F (tgt := 143) dX12_voiceBy_44 (by decide) r7_38 h10 (fun c11 => ?_) (fun c11 => ?_)
      · have hf := hf.1 c11
        refine gw_aload_n F 0 rfl rfl (by decide) dX12_voiceBy_143 ?_
        refine gw_get0 F (so_64 hst) (by decide) rfl sg_lay_RX12 (j := 39) (by decide) rfl (host := "") (.inl kw_995) dX12_voiceBy_144 (fun h12 => ?_)
        exact gr_HI F h12 hf (by decide) (by decide) dX12_voiceBy_147
      · have hf := hf.2 c11
        refine gw_aload_n F 0 rfl rfl (by decide) dX12_voiceBy_47 ?_
        refine gw_aload_n F 0 rfl rfl (by decide) dX12_voiceBy_48 ?_
        refine gw_get7 F (so_64 hst) (by decide) rfl sg_lay_RX12 (j := 25) (by decide) (o1 := 75) (by first | rfl | omega) rfl (host := "") (.inl kw_981) dX12_voiceBy_49 (fun h13 => ?_)
        refine gw_iload F 2 rfl dX12_voiceBy_52 ?_
        obtain ⟨⟨b140, b141⟩, hf⟩ := hf
        refine gw_iald F (sa_75 hst) b140 b141 dX12_voiceBy_54 (fun h15 => ?_)
        refine gw_iconst F dX12_voiceBy_55 ?_
        refine gk_HI F (gc_V F (S := []) (As := [sg_i (s_38 75 x7_38), sg_i 0]) (T := TX12) (N := 62) (CX12_toneOf hst h15 (by decide) hf) (so_64 hst) (by decide) rfl kw_1139 kw_103 kw_1137 kw_1138 kw_57 hcX12_toneOf ⟨by decide, by decide⟩ rfl rfl (Nat.le_of_ble_eq_true rfl) ⟨by decide, by decide⟩ dX12_voiceBy_56) (fun u16 s18 h17 hf => ?_)
        refine gw_istore F (by decide) rfl dX12_voiceBy_59 ?_
        refine gw_iload F 0 rfl dX12_voiceBy_61 ?_
        refine gw_iconst F dX12_voiceBy_63 ?_
        have J137 : ∀ (s_137 : sg_M) (x6_137 : Int), sg_R x6_137 → (fX12_voiceBy_j137 x7_38 (fX12_voiceBy_L38  Q n_38)) s_137 x6_137 → sg_W p l e (sg_rm 4 0 0) s m args below meth c (MQ below (sg_Q (some .int) G La s.heap.size (sg_HI La Q)) args s 0 0 (sg_A La s.heap.size)) 10 G (sg_A La s.heap.size) La s_137 0 0 137 [(0, sg_r 64), (6, sg_i x6_137), (7, sg_i x7_38)] [] := by
          intro s_137 x6_137 r6_137 hf
          unfold fX12_voiceBy_j137 at hf
          refine gw_iinc F (z := (x7_38 + 1)) 2 rfl (by omega) (by decide) rfl dX12_voiceBy_137 ?_
          refine gw_goto F (tgt := 38) dX12_voiceBy_140 (by decide) ?_
          obtain ⟨g19, hf⟩ := hf
          refine gw_sub [1, 2, 0] rfl ?_
          exact ih s_137 x6_137 (x7_38 + 1) r6_137 g19 hf
        refine gw_icmp_eq F (tgt := 137) dX12_voiceBy_64 (by decide) h17 (by decide) (fun c20 => ?_) (fun c20 => ?_)
        · have hf := hf.1 c20
          refine gw_sub [1, 2, 3] rfl ?_
          exact J137 s18 x6_38 r6_38 hf
        · have hf := hf.2 c20
          refine gw_aload_n F 1 rfl rfl (by decide) dX12_voiceBy_67 ?_
          refine gk_PZ F (gc_V F (S := []) (As := []) (T := TX12) (N := 62) (CX12_isShut hst hf) (so_64 hst) (by decide) rfl kw_1148 kw_103 kw_1146 kw_1147 kw_59 hcX12_isShut ⟨by decide, by decide⟩ rfl rfl (Nat.le_of_ble_eq_true rfl) ⟨by decide, by decide⟩ dX12_voiceBy_68) (fun u21 h22 hf => ?_)
          refine gw_if_ne F (tgt := 77) dX12_voiceBy_71 (by decide) (sg_B_R h22) (fun c23 => ?_) (fun c23 => ?_)
          · have hf := hf.1 c23
            refine gw_aload_n F 1 rfl rfl (by decide) dX12_voiceBy_77 ?_
            refine gw_iload F 0 rfl dX12_voiceBy_78 ?_
            refine gk_PI F (gc_V F (S := []) (As := [sg_i u16]) (T := TX12) (N := 62) (CX12_rings hst h17 hf) (so_64 hst) (by decide) rfl kw_1154 kw_103 kw_1152 kw_1153 kw_61 hcX12_rings ⟨by decide, by decide⟩ rfl rfl (Nat.le_of_ble_eq_true rfl) ⟨by decide, by decide⟩ dX12_voiceBy_80) (fun u24 h25 hf => ?_)
            refine gw_istore F (by decide) rfl dX12_voiceBy_83 ?_
            refine gw_iload F 0 rfl dX12_voiceBy_85 ?_
            refine gw_iload F 3 rfl dX12_voiceBy_87 ?_
            refine gw_icmp_gt F (tgt := 95) dX12_voiceBy_89 (by decide) h25 r6_38 (fun c26 => ?_) (fun c26 => ?_)
            · have hf := hf.1 c26
              refine gw_iload F 0 rfl dX12_voiceBy_95 ?_
              refine gw_istore F (by decide) rfl dX12_voiceBy_97 ?_
              refine gw_aload_n F 3 rfl rfl (by decide) dX12_voiceBy_99 ?_
              refine gw_iload F 2 rfl dX12_voiceBy_100 ?_
              obtain ⟨s27, e28⟩ : ∃ z : sg_M, z = sg_up s18 64 39 u16 := ⟨_, rfl⟩
              have hf := hf s27 e28
              refine gw_put0 F (so_64 hst) (by decide) rfl sg_lay_RX12 (j := 39) (by decide) h17 e28 tyX12_ok nmX12 rfl (tyX12_ok 39 (by decide)) rfl (host := "") (.inl kw_995) dX12_voiceBy_102 ?_
              refine gw_aload_n F 3 rfl rfl (by decide) dX12_voiceBy_105 ?_
              refine gw_aload_n F 3 rfl rfl (by decide) dX12_voiceBy_106 ?_
              refine gw_get7 F (so_64 hst) (by decide) rfl sg_lay_RX12 (j := 25) (by decide) (o1 := 75) (by first | rfl | omega) rfl (host := "") (.inl kw_981) dX12_voiceBy_107 (fun h29 => ?_)
              refine gw_iload F 4 rfl dX12_voiceBy_110 ?_
              obtain ⟨⟨b300, b301⟩, hf⟩ := hf
              refine gw_iald F (sa_75 hst) b300 b301 dX12_voiceBy_112 (fun h31 => ?_)
              obtain ⟨s32, e33⟩ : ∃ z : sg_M, z = sg_up s27 64 40 (s27 75 x7_38) := ⟨_, rfl⟩
              have hf := hf s32 e33
              refine gw_put0 F (so_64 hst) (by decide) rfl sg_lay_RX12 (j := 40) (by decide) h31 e33 tyX12_ok nmX12 rfl (tyX12_ok 40 (by decide)) rfl (host := "") (.inl kw_996) dX12_voiceBy_113 ?_
              refine gw_aload_n F 3 rfl rfl (by decide) dX12_voiceBy_116 ?_
              refine gw_iload F 1 rfl dX12_voiceBy_117 ?_
              obtain ⟨s34, e35⟩ : ∃ z : sg_M, z = sg_up s32 64 41 u24 := ⟨_, rfl⟩
              have hf := hf s34 e35
              refine gw_put0 F (so_64 hst) (by decide) rfl sg_lay_RX12 (j := 41) (by decide) h25 e35 tyX12_ok nmX12 rfl (tyX12_ok 41 (by decide)) rfl (host := "") (.inl kw_997) dX12_voiceBy_119 ?_
              refine gw_aload_n F 3 rfl rfl (by decide) dX12_voiceBy_122 ?_
              refine gw_aload_n F 3 rfl rfl (by decide) dX12_voiceBy_123 ?_
              refine gw_aload_n F 3 rfl rfl (by decide) dX12_voiceBy_124 ?_
              refine gw_get7 F (so_64 hst) (by decide) rfl sg_lay_RX12 (j := 25) (by decide) (o1 := 75) (by first | rfl | omega) rfl (host := "") (.inl kw_981) dX12_voiceBy_125 (fun h36 => ?_)
              refine gw_iload F 4 rfl dX12_voiceBy_128 ?_
              obtain ⟨⟨b370, b371⟩, hf⟩ := hf
              refine gw_iald F (sa_75 hst) b370 b371 dX12_voiceBy_130 (fun h38 => ?_)
              refine gk_PZ F (gc_V F (S := [sg_r 64]) (As := [sg_i (s34 75 x7_38)]) (T := TX12) (N := 62) (CX12_isTwice hst h38 hf) (so_64 hst) (by decide) rfl kw_1151 kw_103 kw_1149 kw_1150 kw_60 hcX12_isTwice ⟨by decide, by decide⟩ rfl rfl (Nat.le_of_ble_eq_true rfl) ⟨by decide, by decide⟩ dX12_voiceBy_131) (fun u39 h40 hf => ?_)
              obtain ⟨s41, e42⟩ : ∃ z : sg_M, z = sg_up s34 64 42 u39 := ⟨_, rfl⟩
              have hf := hf s41 e42
              refine gw_put1 F (so_64 hst) (by decide) rfl sg_lay_RX12 (j := 42) (by decide) h40 e42 tyX12_ok nmX12 rfl (tyX12_ok 42 (by decide)) rfl (host := "") (.inl kw_998) dX12_voiceBy_134 ?_
              refine gw_sub [3, 0, 4] rfl ?_
              exact J137 s41 u24 h25 hf
            · have hf := hf.2 c26
              refine gw_goto F (tgt := 137) dX12_voiceBy_92 (by decide) ?_
              refine gw_sub [2, 3, 4] rfl ?_
              exact J137 s18 x6_38 r6_38 hf
          · have hf := hf.2 c23
            refine gw_goto F (tgt := 137) dX12_voiceBy_74 (by decide) ?_
            refine gw_sub [1, 2, 3] rfl ?_
            exact J137 s18 x6_38 r6_38 hf
  obtain ⟨n43, hf⟩ := hf
  refine gw_sub [2, 1, 0] rfl ?_
  refine L38   n43 s8 (-1) 0 (by decide) (by decide) hf

theorem dX12_voiceOf_0 : decode cX12_voiceOf 0 = .ok (.aload_n 0, 1) := by decide +kernel
theorem dX12_voiceOf_1 : decode cX12_voiceOf 1 = .ok (.iconst 0, 1) := by decide +kernel
theorem dX12_voiceOf_2 : decode cX12_voiceOf 2 = .ok (.iload_n 1, 1) := by decide +kernel
theorem dX12_voiceOf_3 : decode cX12_voiceOf 3 = .ok (.iload_n 2, 1) := by decide +kernel
theorem dX12_voiceOf_4 : decode cX12_voiceOf 4 = .ok (.iconst 0, 1) := by decide +kernel
theorem dX12_voiceOf_5 : decode cX12_voiceOf 5 = .ok (.iconst 0, 1) := by decide +kernel
theorem dX12_voiceOf_6 : decode cX12_voiceOf 6 = .ok (.invokevirtual 285, 3) := by decide +kernel
theorem dX12_voiceOf_9 : decode cX12_voiceOf 9 = .ok (.ireturn, 1) := by decide +kernel
theorem hcX12_voiceOf : yX12_voiceOf.cls ≠ "java/lang/invoke/MethodHandle" ∧ yX12_voiceOf.cls ≠ "java/lang/invoke/VarHandle" ∧ (parseMethodDescriptor yX12_voiceOf.desc).map (fun d => d.parameters.length) = some 2 := ⟨by decide +kernel, by decide +kernel, by decide +kernel⟩
def fX12_voiceOf (s0 : sg_M) (x1 : Int) (x2 : Int) (Q : Int → sg_M → Prop) : Prop := fX12_voiceBy s0 0 x1 x2 0 0 (fun u1 s3 => Q u1 s3)
set_option maxHeartbeats 4000000 in
set_option maxRecDepth 100000 in
theorem CX12_voiceOf {l : Launch} {G : sg_G} {La : sg_L} {s0 : sg_M} (hst : sg_St La) {x1 : Int} (r1 : sg_R x1) {x2 : Int} (r2 : sg_R x2) {Q : Int → sg_M → Prop} (hf : fX12_voiceOf s0 x1 x2 Q) : sg_C l G yX12_voiceOf cX12_voiceOf 3 (some .int) 5 0 0 La s0 [sg_r 64, sg_i x1, sg_i x2] (sg_HI La Q) := by
  refine sg_body (by decide +kernel) (Nat.le_of_ble_eq_true rfl) ?_
  intro p e s m args below meth c F hnm
  unfold fX12_voiceOf at hf
  show sg_W p l e (sg_rm 5 0 0) s m args below meth c (MQ below (sg_Q (some .int) G La s.heap.size (sg_HI La Q)) args s 0 0 (sg_A La s.heap.size)) 3 G (sg_A La s.heap.size) La s0 0 0 0 [(0, sg_r 64), (1, sg_i x1), (2, sg_i x2)] []
  refine gw_aload_n F 0 rfl rfl (by decide) dX12_voiceOf_0 ?_
  refine gw_iconst F dX12_voiceOf_1 ?_
  refine gw_iload_n F 1 rfl rfl dX12_voiceOf_2 ?_
  refine gw_iload_n F 2 rfl rfl dX12_voiceOf_3 ?_
  refine gw_iconst F dX12_voiceOf_4 ?_
  refine gw_iconst F dX12_voiceOf_5 ?_
  refine gk_HI F (gc_V F (S := []) (As := [sg_i 0, sg_i x1, sg_i x2, sg_i 0, sg_i 0]) (T := TX12) (N := 62) (CX12_voiceBy hst (by decide) r1 r2 (by decide) (by decide) hf) (so_64 hst) (by decide) rfl kw_1205 kw_103 kw_1203 kw_1204 kw_69 hcX12_voiceBy ⟨by decide, by decide⟩ rfl rfl (Nat.le_of_ble_eq_true rfl) ⟨by decide, by decide⟩ dX12_voiceOf_6) (fun u1 s3 h2 hf => ?_)
  exact gr_HI F h2 hf (by decide) (by decide) dX12_voiceOf_9

theorem dX12_sing_0 : decode cX12_sing 0 = .ok (.iconst 0, 1) := by decide +kernel
theorem dX12_sing_1 : decode cX12_sing 1 = .ok (.istore_n 1, 1) := by decide +kernel
theorem dX12_sing_2 : decode cX12_sing 2 = .ok (.iload_n 1, 1) := by decide +kernel
theorem dX12_sing_3 : decode cX12_sing 3 = .ok (.aload_n 0, 1) := by decide +kernel
theorem dX12_sing_4 : decode cX12_sing 4 = .ok (.invokevirtual 320, 3) := by decide +kernel
theorem dX12_sing_7 : decode cX12_sing 7 = .ok (.if_icmp .ge 29, 3) := by decide +kernel
theorem dX12_sing_10 : decode cX12_sing 10 = .ok (.aload_n 0, 1) := by decide +kernel
theorem dX12_sing_11 : decode cX12_sing 11 = .ok (.getfield 56, 3) := by decide +kernel
theorem dX12_sing_14 : decode cX12_sing 14 = .ok (.iload_n 1, 1) := by decide +kernel
theorem dX12_sing_15 : decode cX12_sing 15 = .ok (.aload_n 0, 1) := by decide +kernel
theorem dX12_sing_16 : decode cX12_sing 16 = .ok (.aload_n 0, 1) := by decide +kernel
theorem dX12_sing_17 : decode cX12_sing 17 = .ok (.iload_n 1, 1) := by decide +kernel
theorem dX12_sing_18 : decode cX12_sing 18 = .ok (.invokevirtual 326, 3) := by decide +kernel
theorem dX12_sing_21 : decode cX12_sing 21 = .ok (.aload_n 0, 1) := by decide +kernel
theorem dX12_sing_22 : decode cX12_sing 22 = .ok (.iload_n 1, 1) := by decide +kernel
theorem dX12_sing_23 : decode cX12_sing 23 = .ok (.invokevirtual 329, 3) := by decide +kernel
theorem dX12_sing_26 : decode cX12_sing 26 = .ok (.invokevirtual 317, 3) := by decide +kernel
theorem dX12_sing_29 : decode cX12_sing 29 = .ok (.iastore, 1) := by decide +kernel
theorem dX12_sing_30 : decode cX12_sing 30 = .ok (.iinc 1 1, 3) := by decide +kernel
theorem dX12_sing_33 : decode cX12_sing 33 = .ok (.goto (-31), 3) := by decide +kernel
theorem dX12_sing_36 : decode cX12_sing 36 = .ok (.return_, 1) := by decide +kernel
theorem hcX12_sing : yX12_sing.cls ≠ "java/lang/invoke/MethodHandle" ∧ yX12_sing.cls ≠ "java/lang/invoke/VarHandle" ∧ (parseMethodDescriptor yX12_sing.desc).map (fun d => d.parameters.length) = some 0 := ⟨by decide +kernel, by decide +kernel, by decide +kernel⟩
def fX12_sing_L2  (Q : sg_M → Prop) : Nat → sg_M → Int → Prop
  | 0, _, _ => False
  | n_2 + 1, s_2, x1_2 => fX12_bends s_2 (fun u1 => ((u1 ≤ x1_2 → Q s_2) ∧ (¬ (u1 ≤ x1_2) → fX12_aOf s_2 x1_2 (fun u5 => fX12_bOf s_2 x1_2 (fun u7 => fX12_voiceOf s_2 u5 u7 (fun u9 s11 => (0 ≤ x1_2 ∧ x1_2 < 40) ∧ ∀ s13 : sg_M, s13 = sg_up s11 80 x1_2 u9 → sg_R (x1_2 + 1) ∧ (fX12_sing_L2  Q n_2) s13 (x1_2 + 1)))))))
def fX12_sing (s0 : sg_M) (Q : sg_M → Prop) : Prop := (∃ n16 : Nat, fX12_sing_L2  Q n16 s0 0)
set_option maxHeartbeats 4000000 in
set_option maxRecDepth 100000 in
theorem CX12_sing {l : Launch} {G : sg_G} {La : sg_L} {s0 : sg_M} (hst : sg_St La) {Q : sg_M → Prop} (hf : fX12_sing s0 Q) : sg_C l G yX12_sing cX12_sing 2 (none) 6 0 0 La s0 [sg_r 64] (sg_HV La Q) := by
  refine sg_body (by decide +kernel) (Nat.le_of_ble_eq_true rfl) ?_
  intro p e s m args below meth c F hnm
  unfold fX12_sing at hf
  show sg_W p l e (sg_rm 6 0 0) s m args below meth c (MQ below (sg_Q (none) G La s.heap.size (sg_HV La Q)) args s 0 0 (sg_A La s.heap.size)) 2 G (sg_A La s.heap.size) La s0 0 0 0 [(0, sg_r 64)] []
  refine gw_iconst F dX12_sing_0 ?_
  refine gw_istore_n F rfl (by decide) rfl dX12_sing_1 ?_
  have L2 : ∀ n_2 : Nat, ∀ (s_2 : sg_M) (x1_2 : Int), sg_R x1_2 → fX12_sing_L2  Q n_2 s_2 x1_2 → sg_W p l e (sg_rm 6 0 0) s m args below meth c (MQ below (sg_Q (none) G La s.heap.size (sg_HV La Q)) args s 0 0 (sg_A La s.heap.size)) 2 G (sg_A La s.heap.size) La s_2 0 0 2 [(0, sg_r 64), (1, sg_i x1_2)] [] := by
    intro n_2
    induction n_2 with
    | zero => intro s_2 x1_2 r1_2 hf; exact hf.elim
    | succ n_2 ih =>
      intro s_2 x1_2 r1_2 hf
      unfold fX12_sing_L2 at hf
      refine gw_iload_n F 1 rfl rfl dX12_sing_2 ?_
      refine gw_aload_n F 0 rfl rfl (by decide) dX12_sing_3 ?_
      refine gk_PI F (gc_V F (S := [sg_i x1_2]) (As := []) (T := TX12) (N := 62) (CX12_bends hst hf) (so_64 hst) (by decide) rfl kw_1212 kw_103 kw_1210 kw_1211 kw_70 hcX12_bends ⟨by decide, by decide⟩ rfl rfl (Nat.le_of_ble_eq_true rfl) ⟨by decide, by decide⟩ dX12_sing_4) (fun u1 h2 hf => ?_)
      refine gw_icmp_ge F (tgt := 36) dX12_sing_7 (by decide) r1_2 h2 (fun c3 => ?_) (fun c3 => ?_)
      · have hf := hf.1 c3
        exact gr_HV F hf (by decide) (by decide) dX12_sing_36
      · have hf := hf.2 c3
        refine gw_aload_n F 0 rfl rfl (by decide) dX12_sing_10 ?_
        refine gw_get7 F (so_64 hst) (by decide) rfl sg_lay_RX12 (j := 46) (by decide) (o1 := 80) (by first | rfl | omega) rfl (host := "") (.inl kw_1002) dX12_sing_11 (fun h4 => ?_)
        refine gw_iload_n F 1 rfl rfl dX12_sing_14 ?_
        refine gw_aload_n F 0 rfl rfl (by decide) dX12_sing_15 ?_
        refine gw_aload_n F 0 rfl rfl (by decide) dX12_sing_16 ?_
        refine gw_iload_n F 1 rfl rfl dX12_sing_17 ?_
        refine gk_PI F (gc_V F (S := [sg_r 64, sg_i x1_2, sg_r 80]) (As := [sg_i x1_2]) (T := TX12) (N := 62) (CX12_aOf hst r1_2 hf) (so_64 hst) (by decide) rfl kw_1222 kw_103 kw_1220 kw_1221 kw_72 hcX12_aOf ⟨by decide, by decide⟩ rfl rfl (Nat.le_of_ble_eq_true rfl) ⟨by decide, by decide⟩ dX12_sing_18) (fun u5 h6 hf => ?_)
        refine gw_aload_n F 0 rfl rfl (by decide) dX12_sing_21 ?_
        refine gw_iload_n F 1 rfl rfl dX12_sing_22 ?_
        refine gk_PI F (gc_V F (S := [sg_i u5, sg_r 64, sg_i x1_2, sg_r 80]) (As := [sg_i x1_2]) (T := TX12) (N := 62) (CX12_bOf hst r1_2 hf) (so_64 hst) (by decide) rfl kw_1225 kw_103 kw_1223 kw_1224 kw_73 hcX12_bOf ⟨by decide, by decide⟩ rfl rfl (Nat.le_of_ble_eq_true rfl) ⟨by decide, by decide⟩ dX12_sing_23) (fun u7 h8 hf => ?_)
        refine gk_HI F (gc_V F (S := [sg_i x1_2, sg_r 80]) (As := [sg_i u5, sg_i u7]) (T := TX12) (N := 62) (CX12_voiceOf hst h6 h8 hf) (so_64 hst) (by decide) rfl kw_1202 kw_103 kw_1200 kw_1201 kw_68 hcX12_voiceOf ⟨by decide, by decide⟩ rfl rfl (Nat.le_of_ble_eq_true rfl) ⟨by decide, by decide⟩ dX12_sing_26) (fun u9 s11 h10 hf => ?_)
        obtain ⟨⟨b120, b121⟩, hf⟩ := hf
        obtain ⟨s13, e14⟩ : ∃ z : sg_M, z = sg_up s11 80 x1_2 u9 := ⟨_, rfl⟩
        have hf := hf s13 e14
        refine gw_iast F (sa_80 hst) b120 b121 h10 e14 dX12_sing_29 ?_
        refine gw_iinc F (z := (x1_2 + 1)) 1 rfl (by omega) (by decide) rfl dX12_sing_30 ?_
        refine gw_goto F (tgt := 2) dX12_sing_33 (by decide) ?_
        obtain ⟨g15, hf⟩ := hf
        refine gw_sub [1, 0] rfl ?_
        exact ih s13 (x1_2 + 1) g15 hf
  obtain ⟨n16, hf⟩ := hf
  refine gw_sub [1, 0] rfl ?_
  refine L2   n16 s0 0 (by decide) hf

theorem dX12_read_0 : decode cX12_read 0 = .ok (.aload_n 0, 1) := by decide +kernel
theorem dX12_read_1 : decode cX12_read 1 = .ok (.iconst 0, 1) := by decide +kernel
theorem dX12_read_2 : decode cX12_read 2 = .ok (.putfield 84, 3) := by decide +kernel
theorem dX12_read_5 : decode cX12_read 5 = .ok (.aload_n 0, 1) := by decide +kernel
theorem dX12_read_6 : decode cX12_read 6 = .ok (.invokevirtual 175, 3) := by decide +kernel
theorem dX12_read_9 : decode cX12_read 9 = .ok (.iload_n 1, 1) := by decide +kernel
theorem dX12_read_10 : decode cX12_read 10 = .ok (.iconst 1, 1) := by decide +kernel
theorem dX12_read_11 : decode cX12_read 11 = .ok (.sipush 2000, 3) := by decide +kernel
theorem dX12_read_14 : decode cX12_read 14 = .ok (.invokestatic 155, 3) := by decide +kernel
theorem dX12_read_17 : decode cX12_read 17 = .ok (.ifCond .eq 14, 3) := by decide +kernel
theorem dX12_read_20 : decode cX12_read 20 = .ok (.iload_n 2, 1) := by decide +kernel
theorem dX12_read_21 : decode cX12_read 21 = .ok (.iconst 0, 1) := by decide +kernel
theorem dX12_read_22 : decode cX12_read 22 = .ok (.sipush 200, 3) := by decide +kernel
theorem dX12_read_25 : decode cX12_read 25 = .ok (.invokestatic 155, 3) := by decide +kernel
theorem dX12_read_28 : decode cX12_read 28 = .ok (.ifCond .ne 5, 3) := by decide +kernel
theorem dX12_read_31 : decode cX12_read 31 = .ok (.iconst (-1), 1) := by decide +kernel
theorem dX12_read_32 : decode cX12_read 32 = .ok (.ireturn, 1) := by decide +kernel
theorem dX12_read_33 : decode cX12_read 33 = .ok (.aload_n 0, 1) := by decide +kernel
theorem dX12_read_34 : decode cX12_read 34 = .ok (.invokevirtual 332, 3) := by decide +kernel
theorem dX12_read_37 : decode cX12_read 37 = .ok (.aload_n 0, 1) := by decide +kernel
theorem dX12_read_38 : decode cX12_read 38 = .ok (.iconst 0, 1) := by decide +kernel
theorem dX12_read_39 : decode cX12_read 39 = .ok (.putfield 347, 3) := by decide +kernel
theorem dX12_read_42 : decode cX12_read 42 = .ok (.iconst 0, 1) := by decide +kernel
theorem dX12_read_43 : decode cX12_read 43 = .ok (.istore_n 3, 1) := by decide +kernel
theorem dX12_read_44 : decode cX12_read 44 = .ok (.iload_n 3, 1) := by decide +kernel
theorem dX12_read_45 : decode cX12_read 45 = .ok (.aload_n 0, 1) := by decide +kernel
theorem dX12_read_46 : decode cX12_read 46 = .ok (.invokevirtual 320, 3) := by decide +kernel
theorem dX12_read_49 : decode cX12_read 49 = .ok (.if_icmp .ge 47, 3) := by decide +kernel
theorem dX12_read_52 : decode cX12_read 52 = .ok (.aload_n 0, 1) := by decide +kernel
theorem dX12_read_53 : decode cX12_read 53 = .ok (.aload_n 0, 1) := by decide +kernel
theorem dX12_read_54 : decode cX12_read 54 = .ok (.getfield 56, 3) := by decide +kernel
theorem dX12_read_57 : decode cX12_read 57 = .ok (.iload_n 3, 1) := by decide +kernel
theorem dX12_read_58 : decode cX12_read 58 = .ok (.iaload, 1) := by decide +kernel
theorem dX12_read_59 : decode cX12_read 59 = .ok (.iload_n 1, 1) := by decide +kernel
theorem dX12_read_60 : decode cX12_read 60 = .ok (.iload_n 2, 1) := by decide +kernel
theorem dX12_read_61 : decode cX12_read 61 = .ok (.invokevirtual 341, 3) := by decide +kernel
theorem dX12_read_64 : decode cX12_read 64 = .ok (.ifCond .ne 6, 3) := by decide +kernel
theorem dX12_read_67 : decode cX12_read 67 = .ok (.goto 23, 3) := by decide +kernel
theorem dX12_read_70 : decode cX12_read 70 = .ok (.aload_n 0, 1) := by decide +kernel
theorem dX12_read_71 : decode cX12_read 71 = .ok (.getfield 68, 3) := by decide +kernel
theorem dX12_read_74 : decode cX12_read 74 = .ok (.aload_n 0, 1) := by decide +kernel
theorem dX12_read_75 : decode cX12_read 75 = .ok (.getfield 347, 3) := by decide +kernel
theorem dX12_read_78 : decode cX12_read 78 = .ok (.iload_n 3, 1) := by decide +kernel
theorem dX12_read_79 : decode cX12_read 79 = .ok (.iastore, 1) := by decide +kernel
theorem dX12_read_80 : decode cX12_read 80 = .ok (.aload_n 0, 1) := by decide +kernel
theorem dX12_read_81 : decode cX12_read 81 = .ok (.dup, 1) := by decide +kernel
theorem dX12_read_82 : decode cX12_read 82 = .ok (.getfield 347, 3) := by decide +kernel
theorem dX12_read_85 : decode cX12_read 85 = .ok (.iconst 1, 1) := by decide +kernel
theorem dX12_read_86 : decode cX12_read 86 = .ok (.iadd, 1) := by decide +kernel
theorem dX12_read_87 : decode cX12_read 87 = .ok (.putfield 347, 3) := by decide +kernel
theorem dX12_read_90 : decode cX12_read 90 = .ok (.iinc 3 1, 3) := by decide +kernel
theorem dX12_read_93 : decode cX12_read 93 = .ok (.goto (-49), 3) := by decide +kernel
theorem dX12_read_96 : decode cX12_read 96 = .ok (.aload_n 0, 1) := by decide +kernel
theorem dX12_read_97 : decode cX12_read 97 = .ok (.getfield 347, 3) := by decide +kernel
theorem dX12_read_100 : decode cX12_read 100 = .ok (.ireturn, 1) := by decide +kernel
theorem hcX12_read : yX12_read.cls ≠ "java/lang/invoke/MethodHandle" ∧ yX12_read.cls ≠ "java/lang/invoke/VarHandle" ∧ (parseMethodDescriptor yX12_read.desc).map (fun d => d.parameters.length) = some 2 := ⟨by decide +kernel, by decide +kernel, by decide +kernel⟩
def fX12_read_j90 (x3_44 : Int) (k44 : sg_M → Int → Prop) (s_90 : sg_M) : Prop := sg_R (x3_44 + 1) ∧ k44 s_90 (x3_44 + 1)
def fX12_read_L44 (x1 : Int) (x2 : Int) (Q : Int → sg_M → Prop) : Nat → sg_M → Int → Prop
  | 0, _, _ => False
  | n_44 + 1, s_44, x3_44 => fX12_bends s_44 (fun u13 => ((u13 ≤ x3_44 → Q (s_44 64 52) s_44) ∧ (¬ (u13 ≤ x3_44) → (0 ≤ x3_44 ∧ x3_44 < 40) ∧ fX12_isNear (s_44 80 x3_44) x1 x2 (fun u20 => ((u20 ≠ 0 → (0 ≤ (s_44 64 52) ∧ (s_44 64 52) < 40) ∧ ∀ s27 : sg_M, s27 = sg_up s_44 84 (s_44 64 52) x3_44 → sg_R ((s27 64 52) + 1) ∧ ∀ s31 : sg_M, s31 = sg_up s27 64 52 ((s27 64 52) + 1) → (fX12_read_j90 x3_44 (fX12_read_L44 x1 x2 Q n_44)) s31) ∧ (u20 = 0 → (fX12_read_j90 x3_44 (fX12_read_L44 x1 x2 Q n_44)) s_44))))))
def fX12_read (s0 : sg_M) (x1 : Int) (x2 : Int) (Q : Int → sg_M → Prop) : Prop := ∀ s1 : sg_M, s1 = sg_up s0 64 0 0 → fX12_lay s1 (fun s3 => fX12_isIn x1 1 2000 (fun u4 => ((u4 = 0 → Q (-1) s3) ∧ (¬ (u4 = 0) → fX12_isIn x2 0 200 (fun u7 => ((u7 ≠ 0 → fX12_sing s3 (fun s10 => ∀ s11 : sg_M, s11 = sg_up s10 64 52 0 → (∃ n33 : Nat, fX12_read_L44 x1 x2 Q n33 s11 0))) ∧ (u7 = 0 → Q (-1) s3)))))))
set_option maxHeartbeats 4000000 in
set_option maxRecDepth 100000 in
theorem CX12_read {l : Launch} {G : sg_G} {La : sg_L} {s0 : sg_M} (hst : sg_St La) {x1 : Int} (r1 : sg_R x1) {x2 : Int} (r2 : sg_R x2) {Q : Int → sg_M → Prop} (hf : fX12_read s0 x1 x2 Q) : sg_C l G yX12_read cX12_read 4 (some .int) 7 0 0 La s0 [sg_r 64, sg_i x1, sg_i x2] (sg_HI La Q) := by
  refine sg_body (by decide +kernel) (Nat.le_of_ble_eq_true rfl) ?_
  intro p e s m args below meth c F hnm
  unfold fX12_read at hf
  show sg_W p l e (sg_rm 7 0 0) s m args below meth c (MQ below (sg_Q (some .int) G La s.heap.size (sg_HI La Q)) args s 0 0 (sg_A La s.heap.size)) 4 G (sg_A La s.heap.size) La s0 0 0 0 [(0, sg_r 64), (1, sg_i x1), (2, sg_i x2)] []
  refine gw_aload_n F 0 rfl rfl (by decide) dX12_read_0 ?_
  refine gw_iconst F dX12_read_1 ?_
  obtain ⟨s1, e2⟩ : ∃ z : sg_M, z = sg_up s0 64 0 0 := ⟨_, rfl⟩
  have hf := hf s1 e2
  refine gw_put0 F (so_64 hst) (by decide) rfl sg_lay_RX12 (j := 0) (by decide) (by decide) e2 tyX12_ok nmX12 rfl (tyX12_ok 0 (by decide)) rfl (host := "") (.inl kw_956) dX12_read_2 ?_
  refine gw_aload_n F 0 rfl rfl (by decide) dX12_read_5 ?_
  refine gk_HV F (gc_V F (S := []) (As := []) (T := TX12) (N := 62) (CX12_lay hst hf) (so_64 hst) (by decide) rfl kw_1043 kw_103 kw_1041 kw_1042 kw_41 hcX12_lay ⟨by decide, by decide⟩ rfl rfl (Nat.le_of_ble_eq_true rfl) ⟨by decide, by decide⟩ dX12_read_6) (fun s3 hf => ?_)
  refine gw_iload_n F 1 rfl rfl dX12_read_9 ?_
  refine gw_iconst F dX12_read_10 ?_
  refine gw_sipush F rfl dX12_read_11 ?_
  refine gk_PZ F (gc_S F (S := []) (As := [sg_i x1, sg_i 1, sg_i 2000]) (CX12_isIn r1 (by decide) (by decide) hf) kw_1084 kw_103 kw_1082 kw_1083 hcX12_isIn ⟨by decide, by decide⟩ rfl rfl (Nat.le_of_ble_eq_true rfl) ⟨by decide, by decide⟩ dX12_read_14) (fun u4 h5 hf => ?_)
  refine gw_if_eq F (tgt := 31) dX12_read_17 (by decide) (sg_B_R h5) (fun c6 => ?_) (fun c6 => ?_)
  · have hf := hf.1 c6
    refine gw_iconst F dX12_read_31 ?_
    exact gr_HI F (by decide) hf (by decide) (by decide) dX12_read_32
  · have hf := hf.2 c6
    refine gw_iload_n F 2 rfl rfl dX12_read_20 ?_
    refine gw_iconst F dX12_read_21 ?_
    refine gw_sipush F rfl dX12_read_22 ?_
    refine gk_PZ F (gc_S F (S := []) (As := [sg_i x2, sg_i 0, sg_i 200]) (CX12_isIn r2 (by decide) (by decide) hf) kw_1084 kw_103 kw_1082 kw_1083 hcX12_isIn ⟨by decide, by decide⟩ rfl rfl (Nat.le_of_ble_eq_true rfl) ⟨by decide, by decide⟩ dX12_read_25) (fun u7 h8 hf => ?_)
    refine gw_if_ne F (tgt := 33) dX12_read_28 (by decide) (sg_B_R h8) (fun c9 => ?_) (fun c9 => ?_)
    · have hf := hf.1 c9
      refine gw_aload_n F 0 rfl rfl (by decide) dX12_read_33 ?_
      refine gk_HV F (gc_V F (S := []) (As := []) (T := TX12) (N := 62) (CX12_sing hst hf) (so_64 hst) (by decide) rfl kw_1232 kw_103 kw_1230 kw_1231 kw_74 hcX12_sing ⟨by decide, by decide⟩ rfl rfl (Nat.le_of_ble_eq_true rfl) ⟨by decide, by decide⟩ dX12_read_34) (fun s10 hf => ?_)
      refine gw_aload_n F 0 rfl rfl (by decide) dX12_read_37 ?_
      refine gw_iconst F dX12_read_38 ?_
      obtain ⟨s11, e12⟩ : ∃ z : sg_M, z = sg_up s10 64 52 0 := ⟨_, rfl⟩
      have hf := hf s11 e12
      refine gw_put0 F (so_64 hst) (by decide) rfl sg_lay_RX12 (j := 52) (by decide) (by decide) e12 tyX12_ok nmX12 rfl (tyX12_ok 52 (by decide)) rfl (host := "") (.inl kw_1008) dX12_read_39 ?_
      refine gw_iconst F dX12_read_42 ?_
      refine gw_istore_n F rfl (by decide) rfl dX12_read_43 ?_
      have L44 : ∀ n_44 : Nat, ∀ (s_44 : sg_M) (x3_44 : Int), sg_R x3_44 → fX12_read_L44 x1 x2 Q n_44 s_44 x3_44 → sg_W p l e (sg_rm 7 0 0) s m args below meth c (MQ below (sg_Q (some .int) G La s.heap.size (sg_HI La Q)) args s 0 0 (sg_A La s.heap.size)) 4 G (sg_A La s.heap.size) La s_44 0 0 44 [(0, sg_r 64), (1, sg_i x1), (2, sg_i x2), (3, sg_i x3_44)] [] := by
        intro n_44
        induction n_44 with
        | zero => intro s_44 x3_44 r3_44 hf; exact hf.elim
        | succ n_44 ih =>
          intro s_44 x3_44 r3_44 hf
          unfold fX12_read_L44 at hf
          refine gw_iload_n F 3 rfl rfl dX12_read_44 ?_
          refine gw_aload_n F 0 rfl rfl (by decide) dX12_read_45 ?_
          refine gk_PI F (gc_V F (S := [sg_i x3_44]) (As := []) (T := TX12) (N := 62) (CX12_bends hst hf) (so_64 hst) (by decide) rfl kw_1212 kw_103 kw_1210 kw_1211 kw_70 hcX12_bends ⟨by decide, by decide⟩ rfl rfl (Nat.le_of_ble_eq_true rfl) ⟨by decide, by decide⟩ dX12_read_46) (fun u13 h14 hf => ?_)
          refine gw_icmp_ge F (tgt := 96) dX12_read_49 (by decide) r3_44 h14 (fun c15 => ?_) (fun c15 => ?_)
          · have hf := hf.1 c15
            refine gw_aload_n F 0 rfl rfl (by decide) dX12_read_96 ?_
            refine gw_get0 F (so_64 hst) (by decide) rfl sg_lay_RX12 (j := 52) (by decide) rfl (host := "") (.inl kw_1008) dX12_read_97 (fun h16 => ?_)
            exact gr_HI F h16 hf (by decide) (by decide) dX12_read_100
          · have hf := hf.2 c15
            refine gw_aload_n F 0 rfl rfl (by decide) dX12_read_52 ?_
            refine gw_aload_n F 0 rfl rfl (by decide) dX12_read_53 ?_
            refine gw_get7 F (so_64 hst) (by decide) rfl sg_lay_RX12 (j := 46) (by decide) (o1 := 80) (by first | rfl | omega) rfl (host := "") (.inl kw_1002) dX12_read_54 (fun h17 => ?_)
            refine gw_iload_n F 3 rfl rfl dX12_read_57 ?_
            obtain ⟨⟨b180, b181⟩, hf⟩ := hf
            refine gw_iald F (sa_80 hst) b180 b181 dX12_read_58 (fun h19 => ?_)
            refine gw_iload_n F 1 rfl rfl dX12_read_59 ?_
            refine gw_iload_n F 2 rfl rfl dX12_read_60 ?_
            refine gk_PZ F (gc_V F (S := []) (As := [sg_i (s_44 80 x3_44), sg_i x1, sg_i x2]) (T := TX12) (N := 62) (CX12_isNear hst h19 r1 r2 hf) (so_64 hst) (by decide) rfl kw_1246 kw_103 kw_1244 kw_1245 kw_76 hcX12_isNear ⟨by decide, by decide⟩ rfl rfl (Nat.le_of_ble_eq_true rfl) ⟨by decide, by decide⟩ dX12_read_61) (fun u20 h21 hf => ?_)
            have J90 : ∀ (s_90 : sg_M), (fX12_read_j90 x3_44 (fX12_read_L44 x1 x2 Q n_44)) s_90 → sg_W p l e (sg_rm 7 0 0) s m args below meth c (MQ below (sg_Q (some .int) G La s.heap.size (sg_HI La Q)) args s 0 0 (sg_A La s.heap.size)) 4 G (sg_A La s.heap.size) La s_90 0 0 90 [(0, sg_r 64), (1, sg_i x1), (2, sg_i x2), (3, sg_i x3_44)] [] := by
              intro s_90 hf
              unfold fX12_read_j90 at hf
              refine gw_iinc F (z := (x3_44 + 1)) 3 rfl (by omega) (by decide) rfl dX12_read_90 ?_
              refine gw_goto F (tgt := 44) dX12_read_93 (by decide) ?_
              obtain ⟨g22, hf⟩ := hf
              refine gw_sub [1, 2, 3, 0] rfl ?_
              exact ih s_90 (x3_44 + 1) g22 hf
            refine gw_if_ne F (tgt := 70) dX12_read_64 (by decide) (sg_B_R h21) (fun c23 => ?_) (fun c23 => ?_)
            · have hf := hf.1 c23
              refine gw_aload_n F 0 rfl rfl (by decide) dX12_read_70 ?_
              refine gw_get7 F (so_64 hst) (by decide) rfl sg_lay_RX12 (j := 51) (by decide) (o1 := 84) (by first | rfl | omega) rfl (host := "") (.inl kw_1007) dX12_read_71 (fun h24 => ?_)
              refine gw_aload_n F 0 rfl rfl (by decide) dX12_read_74 ?_
              refine gw_get0 F (so_64 hst) (by decide) rfl sg_lay_RX12 (j := 52) (by decide) rfl (host := "") (.inl kw_1008) dX12_read_75 (fun h25 => ?_)
              refine gw_iload_n F 3 rfl rfl dX12_read_78 ?_
              obtain ⟨⟨b260, b261⟩, hf⟩ := hf
              obtain ⟨s27, e28⟩ : ∃ z : sg_M, z = sg_up s_44 84 (s_44 64 52) x3_44 := ⟨_, rfl⟩
              have hf := hf s27 e28
              refine gw_iast F (sa_84 hst) b260 b261 r3_44 e28 dX12_read_79 ?_
              refine gw_aload_n F 0 rfl rfl (by decide) dX12_read_80 ?_
              refine gw_dup F rfl dX12_read_81 ?_
              refine gw_get0 F (so_64 hst) (by decide) rfl sg_lay_RX12 (j := 52) (by decide) rfl (host := "") (.inl kw_1008) dX12_read_82 (fun h29 => ?_)
              refine gw_iconst F dX12_read_85 ?_
              refine gw_iadd F rfl dX12_read_86 ?_
              obtain ⟨g30, hf⟩ := hf
              obtain ⟨s31, e32⟩ : ∃ z : sg_M, z = sg_up s27 64 52 ((s27 64 52) + 1) := ⟨_, rfl⟩
              have hf := hf s31 e32
              refine gw_put0 F (so_64 hst) (by decide) rfl sg_lay_RX12 (j := 52) (by decide) g30 e32 tyX12_ok nmX12 rfl (tyX12_ok 52 (by decide)) rfl (host := "") (.inl kw_1008) dX12_read_87 ?_
              refine gw_sub [0, 1, 2, 3] rfl ?_
              exact J90 s31 hf
            · have hf := hf.2 c23
              refine gw_goto F (tgt := 90) dX12_read_67 (by decide) ?_
              refine gw_sub [0, 1, 2, 3] rfl ?_
              exact J90 s_44 hf
      obtain ⟨n33, hf⟩ := hf
      refine gw_sub [1, 2, 3, 0] rfl ?_
      refine L44   n33 s11 0 (by decide) hf
    · have hf := hf.2 c9
      refine gw_iconst F dX12_read_31 ?_
      exact gr_HI F (by decide) hf (by decide) (by decide) dX12_read_32

theorem dX12_takeTape_0 : decode cX12_takeTape 0 = .ok (.aload_n 0, 1) := by decide +kernel
theorem dX12_takeTape_1 : decode cX12_takeTape 1 = .ok (.getfield 87, 3) := by decide +kernel
theorem dX12_takeTape_4 : decode cX12_takeTape 4 = .ok (.istore_n 1, 1) := by decide +kernel
theorem dX12_takeTape_5 : decode cX12_takeTape 5 = .ok (.aload_n 0, 1) := by decide +kernel
theorem dX12_takeTape_6 : decode cX12_takeTape 6 = .ok (.iconst 0, 1) := by decide +kernel
theorem dX12_takeTape_7 : decode cX12_takeTape 7 = .ok (.putfield 87, 3) := by decide +kernel
theorem dX12_takeTape_10 : decode cX12_takeTape 10 = .ok (.iload_n 1, 1) := by decide +kernel
theorem dX12_takeTape_11 : decode cX12_takeTape 11 = .ok (.ireturn, 1) := by decide +kernel
theorem hcX12_takeTape : yX12_takeTape.cls ≠ "java/lang/invoke/MethodHandle" ∧ yX12_takeTape.cls ≠ "java/lang/invoke/VarHandle" ∧ (parseMethodDescriptor yX12_takeTape.desc).map (fun d => d.parameters.length) = some 0 := ⟨by decide +kernel, by decide +kernel, by decide +kernel⟩
def fX12_takeTape (s0 : sg_M) (Q : Int → sg_M → Prop) : Prop := ∀ s2 : sg_M, s2 = sg_up s0 64 2 0 → Q (s0 64 2) s2
set_option maxHeartbeats 4000000 in
set_option maxRecDepth 100000 in
theorem CX12_takeTape {l : Launch} {G : sg_G} {La : sg_L} {s0 : sg_M} (hst : sg_St La) {Q : Int → sg_M → Prop} (hf : fX12_takeTape s0 Q) : sg_C l G yX12_takeTape cX12_takeTape 2 (some .int) 1 0 0 La s0 [sg_r 64] (sg_HI La Q) := by
  refine sg_body (by decide +kernel) (Nat.le_of_ble_eq_true rfl) ?_
  intro p e s m args below meth c F hnm
  unfold fX12_takeTape at hf
  show sg_W p l e (sg_rm 1 0 0) s m args below meth c (MQ below (sg_Q (some .int) G La s.heap.size (sg_HI La Q)) args s 0 0 (sg_A La s.heap.size)) 2 G (sg_A La s.heap.size) La s0 0 0 0 [(0, sg_r 64)] []
  refine gw_aload_n F 0 rfl rfl (by decide) dX12_takeTape_0 ?_
  refine gw_get0 F (so_64 hst) (by decide) rfl sg_lay_RX12 (j := 2) (by decide) rfl (host := "") (.inl kw_958) dX12_takeTape_1 (fun h1 => ?_)
  refine gw_istore_n F rfl (by decide) rfl dX12_takeTape_4 ?_
  refine gw_aload_n F 1 rfl rfl (by decide) dX12_takeTape_5 ?_
  refine gw_iconst F dX12_takeTape_6 ?_
  obtain ⟨s2, e3⟩ : ∃ z : sg_M, z = sg_up s0 64 2 0 := ⟨_, rfl⟩
  have hf := hf s2 e3
  refine gw_put0 F (so_64 hst) (by decide) rfl sg_lay_RX12 (j := 2) (by decide) (by decide) e3 tyX12_ok nmX12 rfl (tyX12_ok 2 (by decide)) rfl (host := "") (.inl kw_958) dX12_takeTape_7 ?_
  refine gw_iload_n F 0 rfl rfl dX12_takeTape_10 ?_
  exact gr_HI F h1 hf (by decide) (by decide) dX12_takeTape_11

theorem dX12_image_0 : decode cX12_image 0 = .ok (.aload_n 0, 1) := by decide +kernel
theorem dX12_image_1 : decode cX12_image 1 = .ok (.iconst 0, 1) := by decide +kernel
theorem dX12_image_2 : decode cX12_image 2 = .ok (.putfield 84, 3) := by decide +kernel
theorem dX12_image_5 : decode cX12_image 5 = .ok (.aload_n 0, 1) := by decide +kernel
theorem dX12_image_6 : decode cX12_image 6 = .ok (.invokevirtual 175, 3) := by decide +kernel
theorem dX12_image_9 : decode cX12_image 9 = .ok (.iload_n 1, 1) := by decide +kernel
theorem dX12_image_10 : decode cX12_image 10 = .ok (.iconst 0, 1) := by decide +kernel
theorem dX12_image_11 : decode cX12_image 11 = .ok (.iconst 1, 1) := by decide +kernel
theorem dX12_image_12 : decode cX12_image 12 = .ok (.invokestatic 155, 3) := by decide +kernel
theorem dX12_image_15 : decode cX12_image 15 = .ok (.ifCond .ne 5, 3) := by decide +kernel
theorem dX12_image_18 : decode cX12_image 18 = .ok (.iconst 0, 1) := by decide +kernel
theorem dX12_image_19 : decode cX12_image 19 = .ok (.ireturn, 1) := by decide +kernel
theorem dX12_image_20 : decode cX12_image 20 = .ok (.iconst 0, 1) := by decide +kernel
theorem dX12_image_21 : decode cX12_image 21 = .ok (.istore_n 2, 1) := by decide +kernel
theorem dX12_image_22 : decode cX12_image 22 = .ok (.iload_n 2, 1) := by decide +kernel
theorem dX12_image_23 : decode cX12_image 23 = .ok (.sipush 2040, 3) := by decide +kernel
theorem dX12_image_26 : decode cX12_image 26 = .ok (.if_icmp .ge 27, 3) := by decide +kernel
theorem dX12_image_29 : decode cX12_image 29 = .ok (.aload_n 0, 1) := by decide +kernel
theorem dX12_image_30 : decode cX12_image 30 = .ok (.getfield 19, 3) := by decide +kernel
theorem dX12_image_33 : decode cX12_image 33 = .ok (.sipush 2040, 3) := by decide +kernel
theorem dX12_image_36 : decode cX12_image 36 = .ok (.iload_n 1, 1) := by decide +kernel
theorem dX12_image_37 : decode cX12_image 37 = .ok (.imul, 1) := by decide +kernel
theorem dX12_image_38 : decode cX12_image 38 = .ok (.iload_n 2, 1) := by decide +kernel
theorem dX12_image_39 : decode cX12_image 39 = .ok (.iadd, 1) := by decide +kernel
theorem dX12_image_40 : decode cX12_image 40 = .ok (.aload_n 0, 1) := by decide +kernel
theorem dX12_image_41 : decode cX12_image 41 = .ok (.getfield 13, 3) := by decide +kernel
theorem dX12_image_44 : decode cX12_image 44 = .ok (.iload_n 2, 1) := by decide +kernel
theorem dX12_image_45 : decode cX12_image 45 = .ok (.iaload, 1) := by decide +kernel
theorem dX12_image_46 : decode cX12_image 46 = .ok (.iastore, 1) := by decide +kernel
theorem dX12_image_47 : decode cX12_image 47 = .ok (.iinc 2 1, 3) := by decide +kernel
theorem dX12_image_50 : decode cX12_image 50 = .ok (.goto (-28), 3) := by decide +kernel
theorem dX12_image_53 : decode cX12_image 53 = .ok (.aload_n 0, 1) := by decide +kernel
theorem dX12_image_54 : decode cX12_image 54 = .ok (.getfield 28, 3) := by decide +kernel
theorem dX12_image_57 : decode cX12_image 57 = .ok (.iload_n 1, 1) := by decide +kernel
theorem dX12_image_58 : decode cX12_image 58 = .ok (.iconst 1, 1) := by decide +kernel
theorem dX12_image_59 : decode cX12_image 59 = .ok (.bastore, 1) := by decide +kernel
theorem dX12_image_60 : decode cX12_image 60 = .ok (.iconst 1, 1) := by decide +kernel
theorem dX12_image_61 : decode cX12_image 61 = .ok (.ireturn, 1) := by decide +kernel
theorem hcX12_image : yX12_image.cls ≠ "java/lang/invoke/MethodHandle" ∧ yX12_image.cls ≠ "java/lang/invoke/VarHandle" ∧ (parseMethodDescriptor yX12_image.desc).map (fun d => d.parameters.length) = some 1 := ⟨by decide +kernel, by decide +kernel, by decide +kernel⟩
def fX12_image_L22 (x1 : Int) (Q : Int → sg_M → Prop) : Nat → sg_M → Int → Prop
  | 0, _, _ => False
  | n_22 + 1, s_22, x2_22 => ((2040 ≤ x2_22 → (0 ≤ x1 ∧ x1 < 2) ∧ ∀ s10 : sg_M, s10 = sg_up s_22 71 x1 1 → Q 1 s10) ∧ (¬ (2040 ≤ x2_22) → (0 ≤ x2_22 ∧ x2_22 < 2040) ∧ (0 ≤ ((2040 * x1) + x2_22) ∧ ((2040 * x1) + x2_22) < 4080) ∧ ∀ s17 : sg_M, s17 = sg_up s_22 68 ((2040 * x1) + x2_22) (s_22 66 x2_22) → sg_R (x2_22 + 1) ∧ (fX12_image_L22 x1 Q n_22) s17 (x2_22 + 1)))
def fX12_image (s0 : sg_M) (x1 : Int) (Q : Int → sg_M → Prop) : Prop := ∀ s1 : sg_M, s1 = sg_up s0 64 0 0 → fX12_lay s1 (fun s3 => fX12_isIn x1 0 1 (fun u4 => ((u4 ≠ 0 → (∃ n20 : Nat, fX12_image_L22 x1 Q n20 s3 0)) ∧ (u4 = 0 → Q 0 s3))))
set_option maxHeartbeats 4000000 in
set_option maxRecDepth 100000 in
theorem CX12_image {l : Launch} {G : sg_G} {La : sg_L} {s0 : sg_M} (hst : sg_St La) {x1 : Int} (r1 : sg_R x1) {Q : Int → sg_M → Prop} (hf : fX12_image s0 x1 Q) : sg_C l G yX12_image cX12_image 3 (some .boolean) 2 0 0 La s0 [sg_r 64, sg_i x1] (sg_HZ La Q) := by
  refine sg_body (by decide +kernel) (Nat.le_of_ble_eq_true rfl) ?_
  intro p e s m args below meth c F hnm
  unfold fX12_image at hf
  show sg_W p l e (sg_rm 2 0 0) s m args below meth c (MQ below (sg_Q (some .boolean) G La s.heap.size (sg_HZ La Q)) args s 0 0 (sg_A La s.heap.size)) 3 G (sg_A La s.heap.size) La s0 0 0 0 [(0, sg_r 64), (1, sg_i x1)] []
  refine gw_aload_n F 0 rfl rfl (by decide) dX12_image_0 ?_
  refine gw_iconst F dX12_image_1 ?_
  obtain ⟨s1, e2⟩ : ∃ z : sg_M, z = sg_up s0 64 0 0 := ⟨_, rfl⟩
  have hf := hf s1 e2
  refine gw_put0 F (so_64 hst) (by decide) rfl sg_lay_RX12 (j := 0) (by decide) (by decide) e2 tyX12_ok nmX12 rfl (tyX12_ok 0 (by decide)) rfl (host := "") (.inl kw_956) dX12_image_2 ?_
  refine gw_aload_n F 0 rfl rfl (by decide) dX12_image_5 ?_
  refine gk_HV F (gc_V F (S := []) (As := []) (T := TX12) (N := 62) (CX12_lay hst hf) (so_64 hst) (by decide) rfl kw_1043 kw_103 kw_1041 kw_1042 kw_41 hcX12_lay ⟨by decide, by decide⟩ rfl rfl (Nat.le_of_ble_eq_true rfl) ⟨by decide, by decide⟩ dX12_image_6) (fun s3 hf => ?_)
  refine gw_iload_n F 1 rfl rfl dX12_image_9 ?_
  refine gw_iconst F dX12_image_10 ?_
  refine gw_iconst F dX12_image_11 ?_
  refine gk_PZ F (gc_S F (S := []) (As := [sg_i x1, sg_i 0, sg_i 1]) (CX12_isIn r1 (by decide) (by decide) hf) kw_1084 kw_103 kw_1082 kw_1083 hcX12_isIn ⟨by decide, by decide⟩ rfl rfl (Nat.le_of_ble_eq_true rfl) ⟨by decide, by decide⟩ dX12_image_12) (fun u4 h5 hf => ?_)
  refine gw_if_ne F (tgt := 20) dX12_image_15 (by decide) (sg_B_R h5) (fun c6 => ?_) (fun c6 => ?_)
  · have hf := hf.1 c6
    refine gw_iconst F dX12_image_20 ?_
    refine gw_istore_n F rfl (by decide) rfl dX12_image_21 ?_
    have L22 : ∀ n_22 : Nat, ∀ (s_22 : sg_M) (x2_22 : Int), sg_R x2_22 → fX12_image_L22 x1 Q n_22 s_22 x2_22 → sg_W p l e (sg_rm 2 0 0) s m args below meth c (MQ below (sg_Q (some .boolean) G La s.heap.size (sg_HZ La Q)) args s 0 0 (sg_A La s.heap.size)) 3 G (sg_A La s.heap.size) La s_22 0 0 22 [(0, sg_r 64), (1, sg_i x1), (2, sg_i x2_22)] [] := by
      intro n_22
      induction n_22 with
      | zero => intro s_22 x2_22 r2_22 hf; exact hf.elim
      | succ n_22 ih =>
        intro s_22 x2_22 r2_22 hf
        unfold fX12_image_L22 at hf
        refine gw_iload_n F 2 rfl rfl dX12_image_22 ?_
        refine gw_sipush F rfl dX12_image_23 ?_
        refine gw_icmp_ge F (tgt := 53) dX12_image_26 (by decide) r2_22 (by decide) (fun c7 => ?_) (fun c7 => ?_)
        · have hf := hf.1 c7
          refine gw_aload_n F 0 rfl rfl (by decide) dX12_image_53 ?_
          refine gw_get7 F (so_64 hst) (by decide) rfl sg_lay_RX12 (j := 19) (by decide) (o1 := 71) (by first | rfl | omega) rfl (host := "") (.inl kw_975) dX12_image_54 (fun h8 => ?_)
          refine gw_iload_n F 1 rfl rfl dX12_image_57 ?_
          refine gw_iconst F dX12_image_58 ?_
          obtain ⟨⟨b90, b91⟩, hf⟩ := hf
          obtain ⟨s10, e11⟩ : ∃ z : sg_M, z = sg_up s_22 71 x1 1 := ⟨_, rfl⟩
          have hf := hf s10 e11
          refine gw_zast F (n := 2) (so_71 hst) (by decide) (by decide) (by decide) b90 b91 (by decide) e11 dX12_image_59 ?_
          refine gw_iconst F dX12_image_60 ?_
          exact gr_HZ F (by decide) hf (by decide) (by decide) dX12_image_61
        · have hf := hf.2 c7
          refine gw_aload_n F 0 rfl rfl (by decide) dX12_image_29 ?_
          refine gw_get7 F (so_64 hst) (by decide) rfl sg_lay_RX12 (j := 16) (by decide) (o1 := 68) (by first | rfl | omega) rfl (host := "") (.inl kw_972) dX12_image_30 (fun h12 => ?_)
          refine gw_sipush F rfl dX12_image_33 ?_
          refine gw_iload_n F 1 rfl rfl dX12_image_36 ?_
          refine gw_imul F rfl dX12_image_37 ?_
          refine gw_iload_n F 2 rfl rfl dX12_image_38 ?_
          refine gw_iadd F rfl dX12_image_39 ?_
          refine gw_aload_n F 0 rfl rfl (by decide) dX12_image_40 ?_
          refine gw_get7 F (so_64 hst) (by decide) rfl sg_lay_RX12 (j := 14) (by decide) (o1 := 66) (by first | rfl | omega) rfl (host := "") (.inl kw_970) dX12_image_41 (fun h13 => ?_)
          refine gw_iload_n F 2 rfl rfl dX12_image_44 ?_
          obtain ⟨⟨b140, b141⟩, hf⟩ := hf
          refine gw_iald F (sa_66 hst) b140 b141 dX12_image_45 (fun h15 => ?_)
          obtain ⟨⟨b160, b161⟩, hf⟩ := hf
          obtain ⟨s17, e18⟩ : ∃ z : sg_M, z = sg_up s_22 68 ((2040 * x1) + x2_22) (s_22 66 x2_22) := ⟨_, rfl⟩
          have hf := hf s17 e18
          refine gw_iast F (sa_68 hst) b160 b161 h15 e18 dX12_image_46 ?_
          refine gw_iinc F (z := (x2_22 + 1)) 2 rfl (by omega) (by decide) rfl dX12_image_47 ?_
          refine gw_goto F (tgt := 22) dX12_image_50 (by decide) ?_
          obtain ⟨g19, hf⟩ := hf
          refine gw_sub [1, 2, 0] rfl ?_
          exact ih s17 (x2_22 + 1) g19 hf
    obtain ⟨n20, hf⟩ := hf
    refine gw_sub [1, 2, 0] rfl ?_
    refine L22   n20 s3 0 (by decide) hf
  · have hf := hf.2 c6
    refine gw_iconst F dX12_image_18 ?_
    exact gr_HZ F (by decide) hf (by decide) (by decide) dX12_image_19

theorem dX12_bad_0 : decode cX12_bad 0 = .ok (.aload_n 0, 1) := by decide +kernel
theorem dX12_bad_1 : decode cX12_bad 1 = .ok (.aload_n 0, 1) := by decide +kernel
theorem dX12_bad_2 : decode cX12_bad 2 = .ok (.getfield 106, 3) := by decide +kernel
theorem dX12_bad_5 : decode cX12_bad 5 = .ok (.iconst 1, 1) := by decide +kernel
theorem dX12_bad_6 : decode cX12_bad 6 = .ok (.if_icmp .ne 7, 3) := by decide +kernel
theorem dX12_bad_9 : decode cX12_bad 9 = .ok (.iconst 1, 1) := by decide +kernel
theorem dX12_bad_10 : decode cX12_bad 10 = .ok (.goto 4, 3) := by decide +kernel
theorem dX12_bad_13 : decode cX12_bad 13 = .ok (.iload_n 1, 1) := by decide +kernel
theorem dX12_bad_14 : decode cX12_bad 14 = .ok (.putfield 146, 3) := by decide +kernel
theorem dX12_bad_17 : decode cX12_bad 17 = .ok (.aload_n 0, 1) := by decide +kernel
theorem dX12_bad_18 : decode cX12_bad 18 = .ok (.aload_n 0, 1) := by decide +kernel
theorem dX12_bad_19 : decode cX12_bad 19 = .ok (.getfield 100, 3) := by decide +kernel
theorem dX12_bad_22 : decode cX12_bad 22 = .ok (.putfield 149, 3) := by decide +kernel
theorem dX12_bad_25 : decode cX12_bad 25 = .ok (.iconst 0, 1) := by decide +kernel
theorem dX12_bad_26 : decode cX12_bad 26 = .ok (.ireturn, 1) := by decide +kernel
theorem hcX12_bad : yX12_bad.cls ≠ "java/lang/invoke/MethodHandle" ∧ yX12_bad.cls ≠ "java/lang/invoke/VarHandle" ∧ (parseMethodDescriptor yX12_bad.desc).map (fun d => d.parameters.length) = some 1 := ⟨by decide +kernel, by decide +kernel, by decide +kernel⟩
def fX12_bad (s0 : sg_M) (x1 : Int) (Q : Int → sg_M → Prop) : Prop := (((s0 64 7) ≠ 1 → ∀ s3 : sg_M, s3 = sg_up s0 64 10 x1 → ∀ s6 : sg_M, s6 = sg_up s3 64 11 (s3 64 6) → Q 0 s6) ∧ ((s0 64 7) = 1 → ∀ s8 : sg_M, s8 = sg_up s0 64 10 1 → ∀ s11 : sg_M, s11 = sg_up s8 64 11 (s8 64 6) → Q 0 s11))
set_option maxHeartbeats 4000000 in
set_option maxRecDepth 100000 in
theorem CX12_bad {l : Launch} {G : sg_G} {La : sg_L} {s0 : sg_M} (hst : sg_St La) {x1 : Int} (r1 : sg_R x1) {Q : Int → sg_M → Prop} (hf : fX12_bad s0 x1 Q) : sg_C l G yX12_bad cX12_bad 2 (some .boolean) 1 0 0 La s0 [sg_r 64, sg_i x1] (sg_HZ La Q) := by
  refine sg_body (by decide +kernel) (Nat.le_of_ble_eq_true rfl) ?_
  intro p e s m args below meth c F hnm
  unfold fX12_bad at hf
  show sg_W p l e (sg_rm 1 0 0) s m args below meth c (MQ below (sg_Q (some .boolean) G La s.heap.size (sg_HZ La Q)) args s 0 0 (sg_A La s.heap.size)) 2 G (sg_A La s.heap.size) La s0 0 0 0 [(0, sg_r 64), (1, sg_i x1)] []
  refine gw_aload_n F 0 rfl rfl (by decide) dX12_bad_0 ?_
  refine gw_aload_n F 0 rfl rfl (by decide) dX12_bad_1 ?_
  refine gw_get0 F (so_64 hst) (by decide) rfl sg_lay_RX12 (j := 7) (by decide) rfl (host := "") (.inl kw_963) dX12_bad_2 (fun h1 => ?_)
  refine gw_iconst F dX12_bad_5 ?_
  refine gw_icmp_ne F (tgt := 13) dX12_bad_6 (by decide) h1 (by decide) (fun c2 => ?_) (fun c2 => ?_)
  · have hf := hf.1 c2
    refine gw_iload_n F 1 rfl rfl dX12_bad_13 ?_
    obtain ⟨s3, e4⟩ : ∃ z : sg_M, z = sg_up s0 64 10 x1 := ⟨_, rfl⟩
    have hf := hf s3 e4
    refine gw_put0 F (so_64 hst) (by decide) rfl sg_lay_RX12 (j := 10) (by decide) r1 e4 tyX12_ok nmX12 rfl (tyX12_ok 10 (by decide)) rfl (host := "") (.inl kw_966) dX12_bad_14 ?_
    refine gw_aload_n F 0 rfl rfl (by decide) dX12_bad_17 ?_
    refine gw_aload_n F 0 rfl rfl (by decide) dX12_bad_18 ?_
    refine gw_get0 F (so_64 hst) (by decide) rfl sg_lay_RX12 (j := 6) (by decide) rfl (host := "") (.inl kw_962) dX12_bad_19 (fun h5 => ?_)
    obtain ⟨s6, e7⟩ : ∃ z : sg_M, z = sg_up s3 64 11 (s3 64 6) := ⟨_, rfl⟩
    have hf := hf s6 e7
    refine gw_put0 F (so_64 hst) (by decide) rfl sg_lay_RX12 (j := 11) (by decide) h5 e7 tyX12_ok nmX12 rfl (tyX12_ok 11 (by decide)) rfl (host := "") (.inl kw_967) dX12_bad_22 ?_
    refine gw_iconst F dX12_bad_25 ?_
    exact gr_HZ F (by decide) hf (by decide) (by decide) dX12_bad_26
  · have hf := hf.2 c2
    refine gw_iconst F dX12_bad_9 ?_
    refine gw_goto F (tgt := 14) dX12_bad_10 (by decide) ?_
    obtain ⟨s8, e9⟩ : ∃ z : sg_M, z = sg_up s0 64 10 1 := ⟨_, rfl⟩
    have hf := hf s8 e9
    refine gw_put0 F (so_64 hst) (by decide) rfl sg_lay_RX12 (j := 10) (by decide) (by decide) e9 tyX12_ok nmX12 rfl (tyX12_ok 10 (by decide)) rfl (host := "") (.inl kw_966) dX12_bad_14 ?_
    refine gw_aload_n F 0 rfl rfl (by decide) dX12_bad_17 ?_
    refine gw_aload_n F 0 rfl rfl (by decide) dX12_bad_18 ?_
    refine gw_get0 F (so_64 hst) (by decide) rfl sg_lay_RX12 (j := 6) (by decide) rfl (host := "") (.inl kw_962) dX12_bad_19 (fun h10 => ?_)
    obtain ⟨s11, e12⟩ : ∃ z : sg_M, z = sg_up s8 64 11 (s8 64 6) := ⟨_, rfl⟩
    have hf := hf s11 e12
    refine gw_put0 F (so_64 hst) (by decide) rfl sg_lay_RX12 (j := 11) (by decide) h10 e12 tyX12_ok nmX12 rfl (tyX12_ok 11 (by decide)) rfl (host := "") (.inl kw_967) dX12_bad_22 ?_
    refine gw_iconst F dX12_bad_25 ?_
    exact gr_HZ F (by decide) hf (by decide) (by decide) dX12_bad_26

theorem dX12_byteAt_0 : decode cX12_byteAt 0 = .ok (.iload_n 1, 1) := by decide +kernel
theorem dX12_byteAt_1 : decode cX12_byteAt 1 = .ok (.aload_n 0, 1) := by decide +kernel
theorem dX12_byteAt_2 : decode cX12_byteAt 2 = .ok (.getfield 94, 3) := by decide +kernel
theorem dX12_byteAt_5 : decode cX12_byteAt 5 = .ok (.if_icmp .ge 12, 3) := by decide +kernel
theorem dX12_byteAt_8 : decode cX12_byteAt 8 = .ok (.aload_n 0, 1) := by decide +kernel
theorem dX12_byteAt_9 : decode cX12_byteAt 9 = .ok (.getfield 7, 3) := by decide +kernel
theorem dX12_byteAt_12 : decode cX12_byteAt 12 = .ok (.iload_n 1, 1) := by decide +kernel
theorem dX12_byteAt_13 : decode cX12_byteAt 13 = .ok (.iaload, 1) := by decide +kernel
theorem dX12_byteAt_14 : decode cX12_byteAt 14 = .ok (.goto 4, 3) := by decide +kernel
theorem dX12_byteAt_17 : decode cX12_byteAt 17 = .ok (.iconst 0, 1) := by decide +kernel
theorem dX12_byteAt_18 : decode cX12_byteAt 18 = .ok (.ireturn, 1) := by decide +kernel
theorem hcX12_byteAt : yX12_byteAt.cls ≠ "java/lang/invoke/MethodHandle" ∧ yX12_byteAt.cls ≠ "java/lang/invoke/VarHandle" ∧ (parseMethodDescriptor yX12_byteAt.desc).map (fun d => d.parameters.length) = some 1 := ⟨by decide +kernel, by decide +kernel, by decide +kernel⟩
def fX12_byteAt (s0 : sg_M) (x1 : Int) (Q : Int → Prop) : Prop := (((s0 64 3) ≤ x1 → Q 0) ∧ (¬ ((s0 64 3) ≤ x1) → (0 ≤ x1 ∧ x1 < 540) ∧ Q (s0 65 x1)))
set_option maxHeartbeats 4000000 in
set_option maxRecDepth 100000 in
theorem CX12_byteAt {l : Launch} {G : sg_G} {La : sg_L} {s0 : sg_M} (hst : sg_St La) {x1 : Int} (r1 : sg_R x1) {Q : Int → Prop} (hf : fX12_byteAt s0 x1 Q) : sg_C l G yX12_byteAt cX12_byteAt 2 (some .int) 1 0 0 La s0 [sg_r 64, sg_i x1] (sg_PI La s0 Q) := by
  refine sg_body (by decide +kernel) (Nat.le_of_ble_eq_true rfl) ?_
  intro p e s m args below meth c F hnm
  unfold fX12_byteAt at hf
  show sg_W p l e (sg_rm 1 0 0) s m args below meth c (MQ below (sg_Q (some .int) G La s.heap.size (sg_PI La s0 Q)) args s 0 0 (sg_A La s.heap.size)) 2 G (sg_A La s.heap.size) La s0 0 0 0 [(0, sg_r 64), (1, sg_i x1)] []
  refine gw_iload_n F 1 rfl rfl dX12_byteAt_0 ?_
  refine gw_aload_n F 0 rfl rfl (by decide) dX12_byteAt_1 ?_
  refine gw_get0 F (so_64 hst) (by decide) rfl sg_lay_RX12 (j := 3) (by decide) rfl (host := "") (.inl kw_959) dX12_byteAt_2 (fun h1 => ?_)
  refine gw_icmp_ge F (tgt := 17) dX12_byteAt_5 (by decide) r1 h1 (fun c2 => ?_) (fun c2 => ?_)
  · have hf := hf.1 c2
    refine gw_iconst F dX12_byteAt_17 ?_
    exact gr_PI F (by decide) hf (by decide) (by decide) dX12_byteAt_18
  · have hf := hf.2 c2
    refine gw_aload_n F 0 rfl rfl (by decide) dX12_byteAt_8 ?_
    refine gw_get7 F (so_64 hst) (by decide) rfl sg_lay_RX12 (j := 1) (by decide) (o1 := 65) (by first | rfl | omega) rfl (host := "") (.inl kw_957) dX12_byteAt_9 (fun h3 => ?_)
    refine gw_iload_n F 1 rfl rfl dX12_byteAt_12 ?_
    obtain ⟨⟨b40, b41⟩, hf⟩ := hf
    refine gw_iald F (sa_65 hst) b40 b41 dX12_byteAt_13 (fun h5 => ?_)
    refine gw_goto F (tgt := 18) dX12_byteAt_14 (by decide) ?_
    exact gr_PI F h5 hf (by decide) (by decide) dX12_byteAt_18

theorem dX12_isDigit_0 : decode cX12_isDigit 0 = .ok (.iload_n 0, 1) := by decide +kernel
theorem dX12_isDigit_1 : decode cX12_isDigit 1 = .ok (.bipush 48, 2) := by decide +kernel
theorem dX12_isDigit_3 : decode cX12_isDigit 3 = .ok (.if_icmp .lt 13, 3) := by decide +kernel
theorem dX12_isDigit_6 : decode cX12_isDigit 6 = .ok (.iload_n 0, 1) := by decide +kernel
theorem dX12_isDigit_7 : decode cX12_isDigit 7 = .ok (.bipush 57, 2) := by decide +kernel
theorem dX12_isDigit_9 : decode cX12_isDigit 9 = .ok (.if_icmp .gt 7, 3) := by decide +kernel
theorem dX12_isDigit_12 : decode cX12_isDigit 12 = .ok (.iconst 1, 1) := by decide +kernel
theorem dX12_isDigit_13 : decode cX12_isDigit 13 = .ok (.goto 4, 3) := by decide +kernel
theorem dX12_isDigit_16 : decode cX12_isDigit 16 = .ok (.iconst 0, 1) := by decide +kernel
theorem dX12_isDigit_17 : decode cX12_isDigit 17 = .ok (.ireturn, 1) := by decide +kernel
theorem hcX12_isDigit : yX12_isDigit.cls ≠ "java/lang/invoke/MethodHandle" ∧ yX12_isDigit.cls ≠ "java/lang/invoke/VarHandle" ∧ (parseMethodDescriptor yX12_isDigit.desc).map (fun d => d.parameters.length) = some 1 := ⟨by decide +kernel, by decide +kernel, by decide +kernel⟩
def fX12_isDigit (x0 : Int) (Q : Int → Prop) : Prop := ((x0 < 48 → Q 0) ∧ (¬ (x0 < 48) → ((57 < x0 → Q 0) ∧ (¬ (57 < x0) → Q 1))))
set_option maxHeartbeats 4000000 in
set_option maxRecDepth 100000 in
theorem CX12_isDigit {l : Launch} {G : sg_G} {La : sg_L} {s0 : sg_M} {x0 : Int} (r0 : sg_R x0) {Q : Int → Prop} (hf : fX12_isDigit x0 Q) : sg_C l G yX12_isDigit cX12_isDigit 1 (some .boolean) 1 0 0 La s0 [sg_i x0] (sg_PZ La s0 Q) := by
  refine sg_body (by decide +kernel) (Nat.le_of_ble_eq_true rfl) ?_
  intro p e s m args below meth c F hnm
  unfold fX12_isDigit at hf
  show sg_W p l e (sg_rm 1 0 0) s m args below meth c (MQ below (sg_Q (some .boolean) G La s.heap.size (sg_PZ La s0 Q)) args s 0 0 (sg_A La s.heap.size)) 1 G (sg_A La s.heap.size) La s0 0 0 0 [(0, sg_i x0)] []
  refine gw_iload_n F 0 rfl rfl dX12_isDigit_0 ?_
  refine gw_bipush F rfl dX12_isDigit_1 ?_
  refine gw_icmp_lt F (tgt := 16) dX12_isDigit_3 (by decide) r0 (by decide) (fun c1 => ?_) (fun c1 => ?_)
  · have hf := hf.1 c1
    refine gw_iconst F dX12_isDigit_16 ?_
    exact gr_PZ F (by decide) hf (by decide) (by decide) dX12_isDigit_17
  · have hf := hf.2 c1
    refine gw_iload_n F 0 rfl rfl dX12_isDigit_6 ?_
    refine gw_bipush F rfl dX12_isDigit_7 ?_
    refine gw_icmp_gt F (tgt := 16) dX12_isDigit_9 (by decide) r0 (by decide) (fun c2 => ?_) (fun c2 => ?_)
    · have hf := hf.1 c2
      refine gw_iconst F dX12_isDigit_16 ?_
      exact gr_PZ F (by decide) hf (by decide) (by decide) dX12_isDigit_17
    · have hf := hf.2 c2
      refine gw_iconst F dX12_isDigit_12 ?_
      refine gw_goto F (tgt := 17) dX12_isDigit_13 (by decide) ?_
      exact gr_PZ F (by decide) hf (by decide) (by decide) dX12_isDigit_17

theorem dX12_isLetter_0 : decode cX12_isLetter 0 = .ok (.iload_n 0, 1) := by decide +kernel
theorem dX12_isLetter_1 : decode cX12_isLetter 1 = .ok (.bipush 97, 2) := by decide +kernel
theorem dX12_isLetter_3 : decode cX12_isLetter 3 = .ok (.if_icmp .lt 13, 3) := by decide +kernel
theorem dX12_isLetter_6 : decode cX12_isLetter 6 = .ok (.iload_n 0, 1) := by decide +kernel
theorem dX12_isLetter_7 : decode cX12_isLetter 7 = .ok (.bipush 122, 2) := by decide +kernel
theorem dX12_isLetter_9 : decode cX12_isLetter 9 = .ok (.if_icmp .gt 7, 3) := by decide +kernel
theorem dX12_isLetter_12 : decode cX12_isLetter 12 = .ok (.iconst 1, 1) := by decide +kernel
theorem dX12_isLetter_13 : decode cX12_isLetter 13 = .ok (.goto 4, 3) := by decide +kernel
theorem dX12_isLetter_16 : decode cX12_isLetter 16 = .ok (.iconst 0, 1) := by decide +kernel
theorem dX12_isLetter_17 : decode cX12_isLetter 17 = .ok (.ireturn, 1) := by decide +kernel
theorem hcX12_isLetter : yX12_isLetter.cls ≠ "java/lang/invoke/MethodHandle" ∧ yX12_isLetter.cls ≠ "java/lang/invoke/VarHandle" ∧ (parseMethodDescriptor yX12_isLetter.desc).map (fun d => d.parameters.length) = some 1 := ⟨by decide +kernel, by decide +kernel, by decide +kernel⟩
def fX12_isLetter (x0 : Int) (Q : Int → Prop) : Prop := ((x0 < 97 → Q 0) ∧ (¬ (x0 < 97) → ((122 < x0 → Q 0) ∧ (¬ (122 < x0) → Q 1))))
set_option maxHeartbeats 4000000 in
set_option maxRecDepth 100000 in
theorem CX12_isLetter {l : Launch} {G : sg_G} {La : sg_L} {s0 : sg_M} {x0 : Int} (r0 : sg_R x0) {Q : Int → Prop} (hf : fX12_isLetter x0 Q) : sg_C l G yX12_isLetter cX12_isLetter 1 (some .boolean) 1 0 0 La s0 [sg_i x0] (sg_PZ La s0 Q) := by
  refine sg_body (by decide +kernel) (Nat.le_of_ble_eq_true rfl) ?_
  intro p e s m args below meth c F hnm
  unfold fX12_isLetter at hf
  show sg_W p l e (sg_rm 1 0 0) s m args below meth c (MQ below (sg_Q (some .boolean) G La s.heap.size (sg_PZ La s0 Q)) args s 0 0 (sg_A La s.heap.size)) 1 G (sg_A La s.heap.size) La s0 0 0 0 [(0, sg_i x0)] []
  refine gw_iload_n F 0 rfl rfl dX12_isLetter_0 ?_
  refine gw_bipush F rfl dX12_isLetter_1 ?_
  refine gw_icmp_lt F (tgt := 16) dX12_isLetter_3 (by decide) r0 (by decide) (fun c1 => ?_) (fun c1 => ?_)
  · have hf := hf.1 c1
    refine gw_iconst F dX12_isLetter_16 ?_
    exact gr_PZ F (by decide) hf (by decide) (by decide) dX12_isLetter_17
  · have hf := hf.2 c1
    refine gw_iload_n F 0 rfl rfl dX12_isLetter_6 ?_
    refine gw_bipush F rfl dX12_isLetter_7 ?_
    refine gw_icmp_gt F (tgt := 16) dX12_isLetter_9 (by decide) r0 (by decide) (fun c2 => ?_) (fun c2 => ?_)
    · have hf := hf.1 c2
      refine gw_iconst F dX12_isLetter_16 ?_
      exact gr_PZ F (by decide) hf (by decide) (by decide) dX12_isLetter_17
    · have hf := hf.2 c2
      refine gw_iconst F dX12_isLetter_12 ?_
      refine gw_goto F (tgt := 17) dX12_isLetter_13 (by decide) ?_
      exact gr_PZ F (by decide) hf (by decide) (by decide) dX12_isLetter_17

theorem dX12_go_0 : decode cX12_go 0 = .ok (.aload_n 0, 1) := by decide +kernel
theorem dX12_go_1 : decode cX12_go 1 = .ok (.getfield 97, 3) := by decide +kernel
theorem dX12_go_4 : decode cX12_go 4 = .ok (.aload_n 0, 1) := by decide +kernel
theorem dX12_go_5 : decode cX12_go 5 = .ok (.getfield 94, 3) := by decide +kernel
theorem dX12_go_8 : decode cX12_go 8 = .ok (.if_icmp .ge 44, 3) := by decide +kernel
theorem dX12_go_11 : decode cX12_go 11 = .ok (.aload_n 0, 1) := by decide +kernel
theorem dX12_go_12 : decode cX12_go 12 = .ok (.getfield 7, 3) := by decide +kernel
theorem dX12_go_15 : decode cX12_go 15 = .ok (.aload_n 0, 1) := by decide +kernel
theorem dX12_go_16 : decode cX12_go 16 = .ok (.getfield 97, 3) := by decide +kernel
theorem dX12_go_19 : decode cX12_go 19 = .ok (.iaload, 1) := by decide +kernel
theorem dX12_go_20 : decode cX12_go 20 = .ok (.bipush 32, 2) := by decide +kernel
theorem dX12_go_22 : decode cX12_go 22 = .ok (.if_icmp .eq 17, 3) := by decide +kernel
theorem dX12_go_25 : decode cX12_go 25 = .ok (.aload_n 0, 1) := by decide +kernel
theorem dX12_go_26 : decode cX12_go 26 = .ok (.getfield 7, 3) := by decide +kernel
theorem dX12_go_29 : decode cX12_go 29 = .ok (.aload_n 0, 1) := by decide +kernel
theorem dX12_go_30 : decode cX12_go 30 = .ok (.getfield 97, 3) := by decide +kernel
theorem dX12_go_33 : decode cX12_go 33 = .ok (.iaload, 1) := by decide +kernel
theorem dX12_go_34 : decode cX12_go 34 = .ok (.bipush 10, 2) := by decide +kernel
theorem dX12_go_36 : decode cX12_go 36 = .ok (.if_icmp .ne 16, 3) := by decide +kernel
theorem dX12_go_39 : decode cX12_go 39 = .ok (.aload_n 0, 1) := by decide +kernel
theorem dX12_go_40 : decode cX12_go 40 = .ok (.dup, 1) := by decide +kernel
theorem dX12_go_41 : decode cX12_go 41 = .ok (.getfield 97, 3) := by decide +kernel
theorem dX12_go_44 : decode cX12_go 44 = .ok (.iconst 1, 1) := by decide +kernel
theorem dX12_go_45 : decode cX12_go 45 = .ok (.iadd, 1) := by decide +kernel
theorem dX12_go_46 : decode cX12_go 46 = .ok (.putfield 97, 3) := by decide +kernel
theorem dX12_go_49 : decode cX12_go 49 = .ok (.goto (-49), 3) := by decide +kernel
theorem dX12_go_52 : decode cX12_go 52 = .ok (.aload_n 0, 1) := by decide +kernel
theorem dX12_go_53 : decode cX12_go 53 = .ok (.aload_n 0, 1) := by decide +kernel
theorem dX12_go_54 : decode cX12_go 54 = .ok (.getfield 97, 3) := by decide +kernel
theorem dX12_go_57 : decode cX12_go 57 = .ok (.putfield 100, 3) := by decide +kernel
theorem dX12_go_60 : decode cX12_go 60 = .ok (.aload_n 0, 1) := by decide +kernel
theorem dX12_go_61 : decode cX12_go 61 = .ok (.getfield 94, 3) := by decide +kernel
theorem dX12_go_64 : decode cX12_go 64 = .ok (.aload_n 0, 1) := by decide +kernel
theorem dX12_go_65 : decode cX12_go 65 = .ok (.getfield 103, 3) := by decide +kernel
theorem dX12_go_68 : decode cX12_go 68 = .ok (.if_icmp .le 28, 3) := by decide +kernel
theorem dX12_go_71 : decode cX12_go 71 = .ok (.aload_n 0, 1) := by decide +kernel
theorem dX12_go_72 : decode cX12_go 72 = .ok (.getfield 100, 3) := by decide +kernel
theorem dX12_go_75 : decode cX12_go 75 = .ok (.aload_n 0, 1) := by decide +kernel
theorem dX12_go_76 : decode cX12_go 76 = .ok (.getfield 103, 3) := by decide +kernel
theorem dX12_go_79 : decode cX12_go 79 = .ok (.if_icmp .lt 17, 3) := by decide +kernel
theorem dX12_go_82 : decode cX12_go 82 = .ok (.aload_n 0, 1) := by decide +kernel
theorem dX12_go_83 : decode cX12_go 83 = .ok (.aload_n 0, 1) := by decide +kernel
theorem dX12_go_84 : decode cX12_go 84 = .ok (.getfield 103, 3) := by decide +kernel
theorem dX12_go_87 : decode cX12_go 87 = .ok (.putfield 100, 3) := by decide +kernel
theorem dX12_go_90 : decode cX12_go 90 = .ok (.aload_n 0, 1) := by decide +kernel
theorem dX12_go_91 : decode cX12_go 91 = .ok (.iconst 1, 1) := by decide +kernel
theorem dX12_go_92 : decode cX12_go 92 = .ok (.putfield 106, 3) := by decide +kernel
theorem dX12_go_95 : decode cX12_go 95 = .ok (.return_, 1) := by decide +kernel
theorem dX12_go_96 : decode cX12_go 96 = .ok (.aload_n 0, 1) := by decide +kernel
theorem dX12_go_97 : decode cX12_go 97 = .ok (.getfield 97, 3) := by decide +kernel
theorem dX12_go_100 : decode cX12_go 100 = .ok (.aload_n 0, 1) := by decide +kernel
theorem dX12_go_101 : decode cX12_go 101 = .ok (.getfield 94, 3) := by decide +kernel
theorem dX12_go_104 : decode cX12_go 104 = .ok (.if_icmp .lt 9, 3) := by decide +kernel
theorem dX12_go_107 : decode cX12_go 107 = .ok (.aload_n 0, 1) := by decide +kernel
theorem dX12_go_108 : decode cX12_go 108 = .ok (.iconst 0, 1) := by decide +kernel
theorem dX12_go_109 : decode cX12_go 109 = .ok (.putfield 106, 3) := by decide +kernel
theorem dX12_go_112 : decode cX12_go 112 = .ok (.return_, 1) := by decide +kernel
theorem dX12_go_113 : decode cX12_go 113 = .ok (.aload_n 0, 1) := by decide +kernel
theorem dX12_go_114 : decode cX12_go 114 = .ok (.getfield 7, 3) := by decide +kernel
theorem dX12_go_117 : decode cX12_go 117 = .ok (.aload_n 0, 1) := by decide +kernel
theorem dX12_go_118 : decode cX12_go 118 = .ok (.getfield 97, 3) := by decide +kernel
theorem dX12_go_121 : decode cX12_go 121 = .ok (.iaload, 1) := by decide +kernel
theorem dX12_go_122 : decode cX12_go 122 = .ok (.istore_n 1, 1) := by decide +kernel
theorem dX12_go_123 : decode cX12_go 123 = .ok (.iload_n 1, 1) := by decide +kernel
theorem dX12_go_124 : decode cX12_go 124 = .ok (.invokestatic 109, 3) := by decide +kernel
theorem dX12_go_127 : decode cX12_go 127 = .ok (.ifCond .ne 77, 3) := by decide +kernel
theorem dX12_go_130 : decode cX12_go 130 = .ok (.iload_n 1, 1) := by decide +kernel
theorem dX12_go_131 : decode cX12_go 131 = .ok (.invokestatic 113, 3) := by decide +kernel
theorem dX12_go_134 : decode cX12_go 134 = .ok (.ifCond .ne 70, 3) := by decide +kernel
theorem dX12_go_137 : decode cX12_go 137 = .ok (.aload_n 0, 1) := by decide +kernel
theorem dX12_go_138 : decode cX12_go 138 = .ok (.iload_n 1, 1) := by decide +kernel
theorem dX12_go_139 : decode cX12_go 139 = .ok (.bipush 59, 2) := by decide +kernel
theorem dX12_go_141 : decode cX12_go 141 = .ok (.if_icmp .eq 39, 3) := by decide +kernel
theorem dX12_go_144 : decode cX12_go 144 = .ok (.iload_n 1, 1) := by decide +kernel
theorem dX12_go_145 : decode cX12_go 145 = .ok (.bipush 45, 2) := by decide +kernel
theorem dX12_go_147 : decode cX12_go 147 = .ok (.if_icmp .eq 33, 3) := by decide +kernel
theorem dX12_go_150 : decode cX12_go 150 = .ok (.iload_n 1, 1) := by decide +kernel
theorem dX12_go_151 : decode cX12_go 151 = .ok (.bipush 60, 2) := by decide +kernel
theorem dX12_go_153 : decode cX12_go 153 = .ok (.if_icmp .eq 27, 3) := by decide +kernel
theorem dX12_go_156 : decode cX12_go 156 = .ok (.iload_n 1, 1) := by decide +kernel
theorem dX12_go_157 : decode cX12_go 157 = .ok (.bipush 61, 2) := by decide +kernel
theorem dX12_go_159 : decode cX12_go 159 = .ok (.if_icmp .eq 21, 3) := by decide +kernel
theorem dX12_go_162 : decode cX12_go 162 = .ok (.iload_n 1, 1) := by decide +kernel
theorem dX12_go_163 : decode cX12_go 163 = .ok (.bipush 62, 2) := by decide +kernel
theorem dX12_go_165 : decode cX12_go 165 = .ok (.if_icmp .eq 15, 3) := by decide +kernel
theorem dX12_go_168 : decode cX12_go 168 = .ok (.iload_n 1, 1) := by decide +kernel
theorem dX12_go_169 : decode cX12_go 169 = .ok (.bipush 40, 2) := by decide +kernel
theorem dX12_go_171 : decode cX12_go 171 = .ok (.if_icmp .eq 9, 3) := by decide +kernel
theorem dX12_go_174 : decode cX12_go 174 = .ok (.iload_n 1, 1) := by decide +kernel
theorem dX12_go_175 : decode cX12_go 175 = .ok (.bipush 41, 2) := by decide +kernel
theorem dX12_go_177 : decode cX12_go 177 = .ok (.if_icmp .ne 7, 3) := by decide +kernel
theorem dX12_go_180 : decode cX12_go 180 = .ok (.iconst 4, 1) := by decide +kernel
theorem dX12_go_181 : decode cX12_go 181 = .ok (.goto 4, 3) := by decide +kernel
theorem dX12_go_184 : decode cX12_go 184 = .ok (.iconst 1, 1) := by decide +kernel
theorem dX12_go_185 : decode cX12_go 185 = .ok (.putfield 106, 3) := by decide +kernel
theorem dX12_go_188 : decode cX12_go 188 = .ok (.aload_n 0, 1) := by decide +kernel
theorem dX12_go_189 : decode cX12_go 189 = .ok (.iload_n 1, 1) := by decide +kernel
theorem dX12_go_190 : decode cX12_go 190 = .ok (.putfield 116, 3) := by decide +kernel
theorem dX12_go_193 : decode cX12_go 193 = .ok (.aload_n 0, 1) := by decide +kernel
theorem dX12_go_194 : decode cX12_go 194 = .ok (.dup, 1) := by decide +kernel
theorem dX12_go_195 : decode cX12_go 195 = .ok (.getfield 97, 3) := by decide +kernel
theorem dX12_go_198 : decode cX12_go 198 = .ok (.iconst 1, 1) := by decide +kernel
theorem dX12_go_199 : decode cX12_go 199 = .ok (.iadd, 1) := by decide +kernel
theorem dX12_go_200 : decode cX12_go 200 = .ok (.putfield 97, 3) := by decide +kernel
theorem dX12_go_203 : decode cX12_go 203 = .ok (.return_, 1) := by decide +kernel
theorem dX12_go_204 : decode cX12_go 204 = .ok (.iload_n 1, 1) := by decide +kernel
theorem dX12_go_205 : decode cX12_go 205 = .ok (.invokestatic 109, 3) := by decide +kernel
theorem dX12_go_208 : decode cX12_go 208 = .ok (.istore_n 2, 1) := by decide +kernel
theorem dX12_go_209 : decode cX12_go 209 = .ok (.iconst 1, 1) := by decide +kernel
theorem dX12_go_210 : decode cX12_go 210 = .ok (.istore_n 3, 1) := by decide +kernel
theorem dX12_go_211 : decode cX12_go 211 = .ok (.aload_n 0, 1) := by decide +kernel
theorem dX12_go_212 : decode cX12_go 212 = .ok (.lconst 0, 1) := by decide +kernel
theorem dX12_go_213 : decode cX12_go 213 = .ok (.putfield 119, 3) := by decide +kernel
theorem dX12_go_216 : decode cX12_go 216 = .ok (.aload_n 0, 1) := by decide +kernel
theorem dX12_go_217 : decode cX12_go 217 = .ok (.iconst 0, 1) := by decide +kernel
theorem dX12_go_218 : decode cX12_go 218 = .ok (.putfield 123, 3) := by decide +kernel
theorem dX12_go_221 : decode cX12_go 221 = .ok (.aload_n 0, 1) := by decide +kernel
theorem dX12_go_222 : decode cX12_go 222 = .ok (.aload_n 0, 1) := by decide +kernel
theorem dX12_go_223 : decode cX12_go 223 = .ok (.getfield 97, 3) := by decide +kernel
theorem dX12_go_226 : decode cX12_go 226 = .ok (.invokevirtual 126, 3) := by decide +kernel
theorem dX12_go_229 : decode cX12_go 229 = .ok (.invokestatic 109, 3) := by decide +kernel
theorem dX12_go_232 : decode cX12_go 232 = .ok (.ifCond .ne 17, 3) := by decide +kernel
theorem dX12_go_235 : decode cX12_go 235 = .ok (.aload_n 0, 1) := by decide +kernel
theorem dX12_go_236 : decode cX12_go 236 = .ok (.aload_n 0, 1) := by decide +kernel
theorem dX12_go_237 : decode cX12_go 237 = .ok (.getfield 97, 3) := by decide +kernel
theorem dX12_go_240 : decode cX12_go 240 = .ok (.invokevirtual 126, 3) := by decide +kernel
theorem dX12_go_243 : decode cX12_go 243 = .ok (.invokestatic 113, 3) := by decide +kernel
theorem dX12_go_246 : decode cX12_go 246 = .ok (.ifCond .eq 110, 3) := by decide +kernel
theorem dX12_go_249 : decode cX12_go 249 = .ok (.aload_n 0, 1) := by decide +kernel
theorem dX12_go_250 : decode cX12_go 250 = .ok (.getfield 7, 3) := by decide +kernel
theorem dX12_go_253 : decode cX12_go 253 = .ok (.aload_n 0, 1) := by decide +kernel
theorem dX12_go_254 : decode cX12_go 254 = .ok (.getfield 97, 3) := by decide +kernel
theorem dX12_go_257 : decode cX12_go 257 = .ok (.iaload, 1) := by decide +kernel
theorem dX12_go_258 : decode cX12_go 258 = .ok (.istore 4, 2) := by decide +kernel
theorem dX12_go_260 : decode cX12_go 260 = .ok (.iload_n 3, 1) := by decide +kernel
theorem dX12_go_261 : decode cX12_go 261 = .ok (.ifCond .eq 16, 3) := by decide +kernel
theorem dX12_go_264 : decode cX12_go 264 = .ok (.iload 4, 2) := by decide +kernel
theorem dX12_go_266 : decode cX12_go 266 = .ok (.invokestatic 109, 3) := by decide +kernel
theorem dX12_go_269 : decode cX12_go 269 = .ok (.iload_n 2, 1) := by decide +kernel
theorem dX12_go_270 : decode cX12_go 270 = .ok (.if_icmp .ne 7, 3) := by decide +kernel
theorem dX12_go_273 : decode cX12_go 273 = .ok (.iconst 1, 1) := by decide +kernel
theorem dX12_go_274 : decode cX12_go 274 = .ok (.goto 4, 3) := by decide +kernel
theorem dX12_go_277 : decode cX12_go 277 = .ok (.iconst 0, 1) := by decide +kernel
theorem dX12_go_278 : decode cX12_go 278 = .ok (.istore_n 3, 1) := by decide +kernel
theorem dX12_go_279 : decode cX12_go 279 = .ok (.aload_n 0, 1) := by decide +kernel
theorem dX12_go_280 : decode cX12_go 280 = .ok (.getfield 97, 3) := by decide +kernel
theorem dX12_go_283 : decode cX12_go 283 = .ok (.aload_n 0, 1) := by decide +kernel
theorem dX12_go_284 : decode cX12_go 284 = .ok (.getfield 100, 3) := by decide +kernel
theorem dX12_go_287 : decode cX12_go 287 = .ok (.isub, 1) := by decide +kernel
theorem dX12_go_288 : decode cX12_go 288 = .ok (.bipush 6, 2) := by decide +kernel
theorem dX12_go_290 : decode cX12_go 290 = .ok (.if_icmp .ge 23, 3) := by decide +kernel
theorem dX12_go_293 : decode cX12_go 293 = .ok (.aload_n 0, 1) := by decide +kernel
theorem dX12_go_294 : decode cX12_go 294 = .ok (.ldc2_w 130, 3) := by decide +kernel
theorem dX12_go_297 : decode cX12_go 297 = .ok (.aload_n 0, 1) := by decide +kernel
theorem dX12_go_298 : decode cX12_go 298 = .ok (.getfield 119, 3) := by decide +kernel
theorem dX12_go_301 : decode cX12_go 301 = .ok (.lmul, 1) := by decide +kernel
theorem dX12_go_302 : decode cX12_go 302 = .ok (.iload 4, 2) := by decide +kernel
theorem dX12_go_304 : decode cX12_go 304 = .ok (.i2l, 1) := by decide +kernel
theorem dX12_go_305 : decode cX12_go 305 = .ok (.ladd, 1) := by decide +kernel
theorem dX12_go_306 : decode cX12_go 306 = .ok (.ldc2_w 132, 3) := by decide +kernel
theorem dX12_go_309 : decode cX12_go 309 = .ok (.lsub, 1) := by decide +kernel
theorem dX12_go_310 : decode cX12_go 310 = .ok (.putfield 119, 3) := by decide +kernel
theorem dX12_go_313 : decode cX12_go 313 = .ok (.aload_n 0, 1) := by decide +kernel
theorem dX12_go_314 : decode cX12_go 314 = .ok (.getfield 97, 3) := by decide +kernel
theorem dX12_go_317 : decode cX12_go 317 = .ok (.aload_n 0, 1) := by decide +kernel
theorem dX12_go_318 : decode cX12_go 318 = .ok (.getfield 100, 3) := by decide +kernel
theorem dX12_go_321 : decode cX12_go 321 = .ok (.isub, 1) := by decide +kernel
theorem dX12_go_322 : decode cX12_go 322 = .ok (.iconst 4, 1) := by decide +kernel
theorem dX12_go_323 : decode cX12_go 323 = .ok (.if_icmp .ge 20, 3) := by decide +kernel
theorem dX12_go_326 : decode cX12_go 326 = .ok (.aload_n 0, 1) := by decide +kernel
theorem dX12_go_327 : decode cX12_go 327 = .ok (.bipush 10, 2) := by decide +kernel
theorem dX12_go_329 : decode cX12_go 329 = .ok (.aload_n 0, 1) := by decide +kernel
theorem dX12_go_330 : decode cX12_go 330 = .ok (.getfield 123, 3) := by decide +kernel
theorem dX12_go_333 : decode cX12_go 333 = .ok (.imul, 1) := by decide +kernel
theorem dX12_go_334 : decode cX12_go 334 = .ok (.iload 4, 2) := by decide +kernel
theorem dX12_go_336 : decode cX12_go 336 = .ok (.iadd, 1) := by decide +kernel
theorem dX12_go_337 : decode cX12_go 337 = .ok (.bipush 48, 2) := by decide +kernel
theorem dX12_go_339 : decode cX12_go 339 = .ok (.isub, 1) := by decide +kernel
theorem dX12_go_340 : decode cX12_go 340 = .ok (.putfield 123, 3) := by decide +kernel
theorem dX12_go_343 : decode cX12_go 343 = .ok (.aload_n 0, 1) := by decide +kernel
theorem dX12_go_344 : decode cX12_go 344 = .ok (.dup, 1) := by decide +kernel
theorem dX12_go_345 : decode cX12_go 345 = .ok (.getfield 97, 3) := by decide +kernel
theorem dX12_go_348 : decode cX12_go 348 = .ok (.iconst 1, 1) := by decide +kernel
theorem dX12_go_349 : decode cX12_go 349 = .ok (.iadd, 1) := by decide +kernel
theorem dX12_go_350 : decode cX12_go 350 = .ok (.putfield 97, 3) := by decide +kernel
theorem dX12_go_353 : decode cX12_go 353 = .ok (.goto (-132), 3) := by decide +kernel
theorem dX12_go_356 : decode cX12_go 356 = .ok (.aload_n 0, 1) := by decide +kernel
theorem dX12_go_357 : decode cX12_go 357 = .ok (.iload_n 3, 1) := by decide +kernel
theorem dX12_go_358 : decode cX12_go 358 = .ok (.ifCond .eq 25, 3) := by decide +kernel
theorem dX12_go_361 : decode cX12_go 361 = .ok (.aload_n 0, 1) := by decide +kernel
theorem dX12_go_362 : decode cX12_go 362 = .ok (.getfield 97, 3) := by decide +kernel
theorem dX12_go_365 : decode cX12_go 365 = .ok (.aload_n 0, 1) := by decide +kernel
theorem dX12_go_366 : decode cX12_go 366 = .ok (.getfield 100, 3) := by decide +kernel
theorem dX12_go_369 : decode cX12_go 369 = .ok (.isub, 1) := by decide +kernel
theorem dX12_go_370 : decode cX12_go 370 = .ok (.iload_n 2, 1) := by decide +kernel
theorem dX12_go_371 : decode cX12_go 371 = .ok (.ifCond .eq 8, 3) := by decide +kernel
theorem dX12_go_374 : decode cX12_go 374 = .ok (.bipush 6, 2) := by decide +kernel
theorem dX12_go_376 : decode cX12_go 376 = .ok (.goto 4, 3) := by decide +kernel
theorem dX12_go_379 : decode cX12_go 379 = .ok (.iconst 4, 1) := by decide +kernel
theorem dX12_go_380 : decode cX12_go 380 = .ok (.if_icmp .le 7, 3) := by decide +kernel
theorem dX12_go_383 : decode cX12_go 383 = .ok (.iconst 1, 1) := by decide +kernel
theorem dX12_go_384 : decode cX12_go 384 = .ok (.goto 12, 3) := by decide +kernel
theorem dX12_go_387 : decode cX12_go 387 = .ok (.iload_n 2, 1) := by decide +kernel
theorem dX12_go_388 : decode cX12_go 388 = .ok (.ifCond .eq 7, 3) := by decide +kernel
theorem dX12_go_391 : decode cX12_go 391 = .ok (.iconst 2, 1) := by decide +kernel
theorem dX12_go_392 : decode cX12_go 392 = .ok (.goto 4, 3) := by decide +kernel
theorem dX12_go_395 : decode cX12_go 395 = .ok (.iconst 3, 1) := by decide +kernel
theorem dX12_go_396 : decode cX12_go 396 = .ok (.putfield 106, 3) := by decide +kernel
theorem dX12_go_399 : decode cX12_go 399 = .ok (.return_, 1) := by decide +kernel
theorem hcX12_go : yX12_go.cls ≠ "java/lang/invoke/MethodHandle" ∧ yX12_go.cls ≠ "java/lang/invoke/VarHandle" ∧ (parseMethodDescriptor yX12_go.desc).map (fun d => d.parameters.length) = some 0 := ⟨by decide +kernel, by decide +kernel, by decide +kernel⟩
def fX12_go_j39 (s_0 : sg_M) (k0 : sg_M → Prop)  : Prop := sg_R ((s_0 64 5) + 1) ∧ ∀ s10 : sg_M, s10 = sg_up s_0 64 5 ((s_0 64 5) + 1) → k0 s10
def fX12_go_L0  (k52 : sg_M → Prop) : Nat → sg_M → Prop
  | 0, _ => False
  | n_0 + 1, s_0 => (((s_0 64 3) ≤ (s_0 64 5) → k52 s_0) ∧ (¬ ((s_0 64 3) ≤ (s_0 64 5)) → (0 ≤ (s_0 64 5) ∧ (s_0 64 5) < 540) ∧ (((s_0 65 (s_0 64 5)) = 32 → (fX12_go_j39 s_0 (fX12_go_L0  k52 n_0))) ∧ (¬ ((s_0 65 (s_0 64 5)) = 32) → (0 ≤ (s_0 64 5) ∧ (s_0 64 5) < 540) ∧ (((s_0 65 (s_0 64 5)) ≠ 10 → k52 s_0) ∧ ((s_0 65 (s_0 64 5)) = 10 → (fX12_go_j39 s_0 (fX12_go_L0  k52 n_0))))))))
def fX12_go_j343 (y0_278 : Int) (k221 : sg_M → Int → Prop) (s_343 : sg_M) : Prop := sg_R ((s_343 64 5) + 1) ∧ ∀ s54 : sg_M, s54 = sg_up s_343 64 5 ((s_343 64 5) + 1) → k221 s54 y0_278
def fX12_go_j313 (s_221 : sg_M) (y0_278 : Int) (k221 : sg_M → Int → Prop) (s_313 : sg_M) : Prop := sg_R ((s_313 64 5) - (s_313 64 6)) ∧ ((4 ≤ ((s_313 64 5) - (s_313 64 6)) → (fX12_go_j343 y0_278 k221) s_313) ∧ (¬ (4 ≤ ((s_313 64 5) - (s_313 64 6))) → sg_R (((10 * (s_313 64 8)) + (s_221 65 (s_221 64 5))) - 48) ∧ ∀ v60 : Int, v60 = (((10 * (s_313 64 8)) + (s_221 65 (s_221 64 5))) - 48) → ∀ s62 : sg_M, s62 = sg_up s_313 64 8 v60 → (fX12_go_j343 y0_278 k221) s62))
def fX12_go_j278 (s_221 : sg_M) (k221 : sg_M → Int → Prop) (y0_278 : Int) : Prop := sg_R ((s_221 64 5) - (s_221 64 6)) ∧ ((6 ≤ ((s_221 64 5) - (s_221 64 6)) → (fX12_go_j313 s_221 y0_278 k221) s_221) ∧ (¬ (6 ≤ ((s_221 64 5) - (s_221 64 6))) → sg_R64 (((27 * (s_221 64 12)) + (s_221 65 (s_221 64 5))) - 96) ∧ ∀ v68 : Int, v68 = (((27 * (s_221 64 12)) + (s_221 65 (s_221 64 5))) - 96) → ∀ s70 : sg_M, s70 = sg_up s_221 64 12 v68 → (fX12_go_j313 s_221 y0_278 k221) s70))
def fX12_go_j277  (k278 : Int → Prop)  : Prop := k278 0
def fX12_go_j249 (u33 : Int) (s_221 : sg_M) (x3_221 : Int) (k221 : sg_M → Int → Prop)  : Prop := (0 ≤ (s_221 64 5) ∧ (s_221 64 5) < 540) ∧ ((x3_221 = 0 → (fX12_go_j277  (fX12_go_j278 s_221 k221))) ∧ (¬ (x3_221 = 0) → fX12_isLetter (s_221 65 (s_221 64 5)) (fun u73 => ((u73 ≠ u33 → (fX12_go_j277  (fX12_go_j278 s_221 k221))) ∧ (u73 = u33 → (fX12_go_j278 s_221 k221) 1)))))
def fX12_go_L221 (u33 : Int) (k356 : sg_M → Int → Prop) : Nat → sg_M → Int → Prop
  | 0, _, _ => False
  | n_221 + 1, s_221, x3_221 => fX12_byteAt s_221 (s_221 64 5) (fun u40 => fX12_isLetter u40 (fun u42 => ((u42 ≠ 0 → (fX12_go_j249 u33 s_221 x3_221 (fX12_go_L221 u33 k356 n_221))) ∧ (u42 = 0 → fX12_byteAt s_221 (s_221 64 5) (fun u78 => fX12_isDigit u78 (fun u80 => ((u80 = 0 → k356 s_221 x3_221) ∧ (¬ (u80 = 0) → (fX12_go_j249 u33 s_221 x3_221 (fX12_go_L221 u33 k356 n_221))))))))))
def fX12_go_j380 (u33 : Int) (s_356e221 : sg_M) (Q : sg_M → Prop) (y0_380 : Int) : Prop := sg_R ((s_356e221 64 5) - (s_356e221 64 6)) ∧ ((((s_356e221 64 5) - (s_356e221 64 6)) ≤ y0_380 → ((u33 = 0 → ∀ s92 : sg_M, s92 = sg_up s_356e221 64 7 3 → Q s92) ∧ (¬ (u33 = 0) → ∀ s94 : sg_M, s94 = sg_up s_356e221 64 7 2 → Q s94))) ∧ (¬ (((s_356e221 64 5) - (s_356e221 64 6)) ≤ y0_380) → ∀ s96 : sg_M, s96 = sg_up s_356e221 64 7 1 → Q s96))
def fX12_go_j204 (s20 : sg_M) (Q : sg_M → Prop)  : Prop := fX12_isLetter (s20 65 (s20 64 5)) (fun u33 => ∀ s35 : sg_M, s35 = sg_up s20 64 12 0 → ∀ s37 : sg_M, s37 = sg_up s35 64 8 0 → (∃ n83 : Nat, fX12_go_L221 u33 (fun s_356e221 x3_356e221 => ((x3_356e221 = 0 → ∀ s85 : sg_M, s85 = sg_up s_356e221 64 7 1 → Q s85) ∧ (¬ (x3_356e221 = 0) → ((u33 = 0 → (fX12_go_j380 u33 s_356e221 Q) 4) ∧ (¬ (u33 = 0) → (fX12_go_j380 u33 s_356e221 Q) 6))))) n83 s37 1))
def fX12_go_j96 (s20 : sg_M) (Q : sg_M → Prop)  : Prop := (((s20 64 5) < (s20 64 3) → (0 ≤ (s20 64 5) ∧ (s20 64 5) < 540) ∧ fX12_isLetter (s20 65 (s20 64 5)) (fun u31 => ((u31 ≠ 0 → (fX12_go_j204 s20 Q)) ∧ (u31 = 0 → fX12_isDigit (s20 65 (s20 64 5)) (fun u100 => ((u100 ≠ 0 → (fX12_go_j204 s20 Q)) ∧ (u100 = 0 → (((s20 65 (s20 64 5)) = 59 → ∀ s104 : sg_M, s104 = sg_up s20 64 7 4 → ∀ s106 : sg_M, s106 = sg_up s104 64 9 (s20 65 (s20 64 5)) → sg_R ((s106 64 5) + 1) ∧ ∀ s110 : sg_M, s110 = sg_up s106 64 5 ((s106 64 5) + 1) → Q s110) ∧ (¬ ((s20 65 (s20 64 5)) = 59) → (((s20 65 (s20 64 5)) = 45 → ∀ s113 : sg_M, s113 = sg_up s20 64 7 4 → ∀ s115 : sg_M, s115 = sg_up s113 64 9 (s20 65 (s20 64 5)) → sg_R ((s115 64 5) + 1) ∧ ∀ s119 : sg_M, s119 = sg_up s115 64 5 ((s115 64 5) + 1) → Q s119) ∧ (¬ ((s20 65 (s20 64 5)) = 45) → (((s20 65 (s20 64 5)) = 60 → ∀ s122 : sg_M, s122 = sg_up s20 64 7 4 → ∀ s124 : sg_M, s124 = sg_up s122 64 9 (s20 65 (s20 64 5)) → sg_R ((s124 64 5) + 1) ∧ ∀ s128 : sg_M, s128 = sg_up s124 64 5 ((s124 64 5) + 1) → Q s128) ∧ (¬ ((s20 65 (s20 64 5)) = 60) → (((s20 65 (s20 64 5)) = 61 → ∀ s131 : sg_M, s131 = sg_up s20 64 7 4 → ∀ s133 : sg_M, s133 = sg_up s131 64 9 (s20 65 (s20 64 5)) → sg_R ((s133 64 5) + 1) ∧ ∀ s137 : sg_M, s137 = sg_up s133 64 5 ((s133 64 5) + 1) → Q s137) ∧ (¬ ((s20 65 (s20 64 5)) = 61) → (((s20 65 (s20 64 5)) = 62 → ∀ s140 : sg_M, s140 = sg_up s20 64 7 4 → ∀ s142 : sg_M, s142 = sg_up s140 64 9 (s20 65 (s20 64 5)) → sg_R ((s142 64 5) + 1) ∧ ∀ s146 : sg_M, s146 = sg_up s142 64 5 ((s142 64 5) + 1) → Q s146) ∧ (¬ ((s20 65 (s20 64 5)) = 62) → (((s20 65 (s20 64 5)) = 40 → ∀ s149 : sg_M, s149 = sg_up s20 64 7 4 → ∀ s151 : sg_M, s151 = sg_up s149 64 9 (s20 65 (s20 64 5)) → sg_R ((s151 64 5) + 1) ∧ ∀ s155 : sg_M, s155 = sg_up s151 64 5 ((s151 64 5) + 1) → Q s155) ∧ (¬ ((s20 65 (s20 64 5)) = 40) → (((s20 65 (s20 64 5)) ≠ 41 → ∀ s158 : sg_M, s158 = sg_up s20 64 7 1 → ∀ s160 : sg_M, s160 = sg_up s158 64 9 (s20 65 (s20 64 5)) → sg_R ((s160 64 5) + 1) ∧ ∀ s164 : sg_M, s164 = sg_up s160 64 5 ((s160 64 5) + 1) → Q s164) ∧ ((s20 65 (s20 64 5)) = 41 → ∀ s166 : sg_M, s166 = sg_up s20 64 7 4 → ∀ s168 : sg_M, s168 = sg_up s166 64 9 (s20 65 (s20 64 5)) → sg_R ((s168 64 5) + 1) ∧ ∀ s172 : sg_M, s172 = sg_up s168 64 5 ((s168 64 5) + 1) → Q s172))))))))))))))))))))) ∧ (¬ ((s20 64 5) < (s20 64 3)) → ∀ s174 : sg_M, s174 = sg_up s20 64 7 0 → Q s174))
def fX12_go (s0 : sg_M) (Q : sg_M → Prop) : Prop := (∃ n18 : Nat, fX12_go_L0  (fun s_52e0 => ∀ s20 : sg_M, s20 = sg_up s_52e0 64 6 (s_52e0 64 5) → (((s20 64 3) ≤ (s20 64 4) → (fX12_go_j96 s20 Q)) ∧ (¬ ((s20 64 3) ≤ (s20 64 4)) → (((s20 64 6) < (s20 64 4) → (fX12_go_j96 s20 Q)) ∧ (¬ ((s20 64 6) < (s20 64 4)) → ∀ s181 : sg_M, s181 = sg_up s20 64 6 (s20 64 4) → ∀ s183 : sg_M, s183 = sg_up s181 64 7 1 → Q s183))))) n18 s0)
set_option maxHeartbeats 4000000 in
set_option maxRecDepth 100000 in
theorem CX12_go {l : Launch} {G : sg_G} {La : sg_L} {s0 : sg_M} (hst : sg_St La) {Q : sg_M → Prop} (hf : fX12_go s0 Q) : sg_C l G yX12_go cX12_go 5 (none) 2 0 0 La s0 [sg_r 64] (sg_HV La Q) := by
  refine sg_body (by decide +kernel) (Nat.le_of_ble_eq_true rfl) ?_
  intro p e s m args below meth c F hnm
  unfold fX12_go at hf
  show sg_W p l e (sg_rm 2 0 0) s m args below meth c (MQ below (sg_Q (none) G La s.heap.size (sg_HV La Q)) args s 0 0 (sg_A La s.heap.size)) 5 G (sg_A La s.heap.size) La s0 0 0 0 [(0, sg_r 64)] []
  have L0 : ∀ (k52 : sg_M → Prop) (hk52 : ∀ (s_52e0 : sg_M), k52 s_52e0 → sg_W p l e (sg_rm 2 0 0) s m args below meth c (MQ below (sg_Q (none) G La s.heap.size (sg_HV La Q)) args s 0 0 (sg_A La s.heap.size)) 5 G (sg_A La s.heap.size) La s_52e0 0 0 52 [(0, sg_r 64)] []), ∀ n_0 : Nat, ∀ (s_0 : sg_M), fX12_go_L0  k52 n_0 s_0 → sg_W p l e (sg_rm 2 0 0) s m args below meth c (MQ below (sg_Q (none) G La s.heap.size (sg_HV La Q)) args s 0 0 (sg_A La s.heap.size)) 5 G (sg_A La s.heap.size) La s_0 0 0 0 [(0, sg_r 64)] [] := by
    intro k52 hk52 n_0
    induction n_0 with
    | zero => intro s_0 hf; exact hf.elim
    | succ n_0 ih =>
      intro s_0 hf
      unfold fX12_go_L0 at hf
      refine gw_aload_n F 0 rfl rfl (by decide) dX12_go_0 ?_
      refine gw_get0 F (so_64 hst) (by decide) rfl sg_lay_RX12 (j := 5) (by decide) rfl (host := "") (.inl kw_961) dX12_go_1 (fun h1 => ?_)
      refine gw_aload_n F 0 rfl rfl (by decide) dX12_go_4 ?_
      refine gw_get0 F (so_64 hst) (by decide) rfl sg_lay_RX12 (j := 3) (by decide) rfl (host := "") (.inl kw_959) dX12_go_5 (fun h2 => ?_)
      refine gw_icmp_ge F (tgt := 52) dX12_go_8 (by decide) h1 h2 (fun c3 => ?_) (fun c3 => ?_)
      · have hf := hf.1 c3
        refine gw_sub [0] rfl ?_
        exact hk52 s_0 hf
      · have hf := hf.2 c3
        refine gw_aload_n F 0 rfl rfl (by decide) dX12_go_11 ?_
        refine gw_get7 F (so_64 hst) (by decide) rfl sg_lay_RX12 (j := 1) (by decide) (o1 := 65) (by first | rfl | omega) rfl (host := "") (.inl kw_957) dX12_go_12 (fun h4 => ?_)
        refine gw_aload_n F 0 rfl rfl (by decide) dX12_go_15 ?_
        refine gw_get0 F (so_64 hst) (by decide) rfl sg_lay_RX12 (j := 5) (by decide) rfl (host := "") (.inl kw_961) dX12_go_16 (fun h5 => ?_)
        obtain ⟨⟨b60, b61⟩, hf⟩ := hf
        refine gw_iald F (sa_65 hst) b60 b61 dX12_go_19 (fun h7 => ?_)
        refine gw_bipush F rfl dX12_go_20 ?_
        have J39 : (fX12_go_j39 s_0 (fX12_go_L0  k52 n_0)) → sg_W p l e (sg_rm 2 0 0) s m args below meth c (MQ below (sg_Q (none) G La s.heap.size (sg_HV La Q)) args s 0 0 (sg_A La s.heap.size)) 5 G (sg_A La s.heap.size) La s_0 0 0 39 [(0, sg_r 64)] [] := by
          intro hf
          unfold fX12_go_j39 at hf
          refine gw_aload_n F 0 rfl rfl (by decide) dX12_go_39 ?_
          refine gw_dup F rfl dX12_go_40 ?_
          refine gw_get0 F (so_64 hst) (by decide) rfl sg_lay_RX12 (j := 5) (by decide) rfl (host := "") (.inl kw_961) dX12_go_41 (fun h8 => ?_)
          refine gw_iconst F dX12_go_44 ?_
          refine gw_iadd F rfl dX12_go_45 ?_
          obtain ⟨g9, hf⟩ := hf
          obtain ⟨s10, e11⟩ : ∃ z : sg_M, z = sg_up s_0 64 5 ((s_0 64 5) + 1) := ⟨_, rfl⟩
          have hf := hf s10 e11
          refine gw_put0 F (so_64 hst) (by decide) rfl sg_lay_RX12 (j := 5) (by decide) g9 e11 tyX12_ok nmX12 rfl (tyX12_ok 5 (by decide)) rfl (host := "") (.inl kw_961) dX12_go_46 ?_
          refine gw_goto F (tgt := 0) dX12_go_49 (by decide) ?_
          refine gw_sub [0] rfl ?_
          exact ih s10 hf
        refine gw_icmp_eq F (tgt := 39) dX12_go_22 (by decide) h7 (by decide) (fun c12 => ?_) (fun c12 => ?_)
        · have hf := hf.1 c12
          refine gw_sub [0] rfl ?_
          exact J39  hf
        · have hf := hf.2 c12
          refine gw_aload_n F 0 rfl rfl (by decide) dX12_go_25 ?_
          refine gw_get7 F (so_64 hst) (by decide) rfl sg_lay_RX12 (j := 1) (by decide) (o1 := 65) (by first | rfl | omega) rfl (host := "") (.inl kw_957) dX12_go_26 (fun h13 => ?_)
          refine gw_aload_n F 0 rfl rfl (by decide) dX12_go_29 ?_
          refine gw_get0 F (so_64 hst) (by decide) rfl sg_lay_RX12 (j := 5) (by decide) rfl (host := "") (.inl kw_961) dX12_go_30 (fun h14 => ?_)
          obtain ⟨⟨b150, b151⟩, hf⟩ := hf
          refine gw_iald F (sa_65 hst) b150 b151 dX12_go_33 (fun h16 => ?_)
          refine gw_bipush F rfl dX12_go_34 ?_
          refine gw_icmp_ne F (tgt := 52) dX12_go_36 (by decide) h16 (by decide) (fun c17 => ?_) (fun c17 => ?_)
          · have hf := hf.1 c17
            refine gw_sub [0] rfl ?_
            exact hk52 s_0 hf
          · have hf := hf.2 c17
            refine gw_sub [0] rfl ?_
            exact J39  hf
  obtain ⟨n18, hf⟩ := hf
  refine gw_sub [0] rfl ?_
  refine L0 _ (fun s_52e0 hf => ?_) n18 s0 hf
  refine gw_aload_n F 0 rfl rfl (by decide) dX12_go_52 ?_
  refine gw_aload_n F 0 rfl rfl (by decide) dX12_go_53 ?_
  refine gw_get0 F (so_64 hst) (by decide) rfl sg_lay_RX12 (j := 5) (by decide) rfl (host := "") (.inl kw_961) dX12_go_54 (fun h19 => ?_)
  obtain ⟨s20, e21⟩ : ∃ z : sg_M, z = sg_up s_52e0 64 6 (s_52e0 64 5) := ⟨_, rfl⟩
  have hf := hf s20 e21
  refine gw_put0 F (so_64 hst) (by decide) rfl sg_lay_RX12 (j := 6) (by decide) h19 e21 tyX12_ok nmX12 rfl (tyX12_ok 6 (by decide)) rfl (host := "") (.inl kw_962) dX12_go_57 ?_
  refine gw_aload_n F 0 rfl rfl (by decide) dX12_go_60 ?_
  refine gw_get0 F (so_64 hst) (by decide) rfl sg_lay_RX12 (j := 3) (by decide) rfl (host := "") (.inl kw_959) dX12_go_61 (fun h22 => ?_)
  refine gw_aload_n F 0 rfl rfl (by decide) dX12_go_64 ?_
  refine gw_get0 F (so_64 hst) (by decide) rfl sg_lay_RX12 (j := 4) (by decide) rfl (host := "") (.inl kw_960) dX12_go_65 (fun h23 => ?_)
  have J96 : (fX12_go_j96 s20 Q) → sg_W p l e (sg_rm 2 0 0) s m args below meth c (MQ below (sg_Q (none) G La s.heap.size (sg_HV La Q)) args s 0 0 (sg_A La s.heap.size)) 5 G (sg_A La s.heap.size) La s20 0 0 96 [(0, sg_r 64)] [] := by
    intro hf
    unfold fX12_go_j96 at hf
    refine gw_aload_n F 0 rfl rfl (by decide) dX12_go_96 ?_
    refine gw_get0 F (so_64 hst) (by decide) rfl sg_lay_RX12 (j := 5) (by decide) rfl (host := "") (.inl kw_961) dX12_go_97 (fun h24 => ?_)
    refine gw_aload_n F 0 rfl rfl (by decide) dX12_go_100 ?_
    refine gw_get0 F (so_64 hst) (by decide) rfl sg_lay_RX12 (j := 3) (by decide) rfl (host := "") (.inl kw_959) dX12_go_101 (fun h25 => ?_)
    refine gw_icmp_lt F (tgt := 113) dX12_go_104 (by decide) h24 h25 (fun c26 => ?_) (fun c26 => ?_)
    · have hf := hf.1 c26
      refine gw_aload_n F 0 rfl rfl (by decide) dX12_go_113 ?_
      refine gw_get7 F (so_64 hst) (by decide) rfl sg_lay_RX12 (j := 1) (by decide) (o1 := 65) (by first | rfl | omega) rfl (host := "") (.inl kw_957) dX12_go_114 (fun h27 => ?_)
      refine gw_aload_n F 0 rfl rfl (by decide) dX12_go_117 ?_
      refine gw_get0 F (so_64 hst) (by decide) rfl sg_lay_RX12 (j := 5) (by decide) rfl (host := "") (.inl kw_961) dX12_go_118 (fun h28 => ?_)
      obtain ⟨⟨b290, b291⟩, hf⟩ := hf
      refine gw_iald F (sa_65 hst) b290 b291 dX12_go_121 (fun h30 => ?_)
      refine gw_istore_n F rfl (by decide) rfl dX12_go_122 ?_
      refine gw_iload_n F 0 rfl rfl dX12_go_123 ?_
      refine gk_PZ F (gc_S F (S := []) (As := [sg_i (s20 65 (s20 64 5))]) (CX12_isLetter h30 hf) kw_1052 kw_103 kw_1050 kw_1051 hcX12_isLetter ⟨by decide, by decide⟩ rfl rfl (Nat.le_of_ble_eq_true rfl) ⟨by decide, by decide⟩ dX12_go_124) (fun u31 h32 hf => ?_)
      have J204 : (fX12_go_j204 s20 Q) → sg_W p l e (sg_rm 2 0 0) s m args below meth c (MQ below (sg_Q (none) G La s.heap.size (sg_HV La Q)) args s 0 0 (sg_A La s.heap.size)) 5 G (sg_A La s.heap.size) La s20 0 0 204 [(0, sg_r 64), (1, sg_i (s20 65 (s20 64 5)))] [] := by
        intro hf
        unfold fX12_go_j204 at hf
        refine gw_iload_n F 1 rfl rfl dX12_go_204 ?_
        refine gk_PZ F (gc_S F (S := []) (As := [sg_i (s20 65 (s20 64 5))]) (CX12_isLetter h30 hf) kw_1052 kw_103 kw_1050 kw_1051 hcX12_isLetter ⟨by decide, by decide⟩ rfl rfl (Nat.le_of_ble_eq_true rfl) ⟨by decide, by decide⟩ dX12_go_205) (fun u33 h34 hf => ?_)
        refine gw_istore_n F rfl (by decide) rfl dX12_go_208 ?_
        refine gw_iconst F dX12_go_209 ?_
        refine gw_istore_n F rfl (by decide) rfl dX12_go_210 ?_
        refine gw_aload_n F 2 rfl rfl (by decide) dX12_go_211 ?_
        refine gw_lconst F (z := 0) rfl dX12_go_212 ?_
        obtain ⟨s35, e36⟩ : ∃ z : sg_M, z = sg_up s20 64 12 0 := ⟨_, rfl⟩
        have hf := hf s35 e36
        refine gw_put2 F (so_64 hst) (by decide) rfl sg_lay_RX12 (j := 12) (by decide) (by decide) e36 tyX12_ok nmX12 rfl (tyX12_ok 12 (by decide)) rfl (host := "") (.inl kw_968) dX12_go_213 ?_
        refine gw_aload_n F 2 rfl rfl (by decide) dX12_go_216 ?_
        refine gw_iconst F dX12_go_217 ?_
        obtain ⟨s37, e38⟩ : ∃ z : sg_M, z = sg_up s35 64 8 0 := ⟨_, rfl⟩
        have hf := hf s37 e38
        refine gw_put0 F (so_64 hst) (by decide) rfl sg_lay_RX12 (j := 8) (by decide) (by decide) e38 tyX12_ok nmX12 rfl (tyX12_ok 8 (by decide)) rfl (host := "") (.inl kw_964) dX12_go_218 ?_
        have L221 : ∀ (k356 : sg_M → Int → Prop) (hk356 : ∀ (s_356e221 : sg_M) (x3_356e221 : Int), sg_R x3_356e221 → k356 s_356e221 x3_356e221 → sg_W p l e (sg_rm 2 0 0) s m args below meth c (MQ below (sg_Q (none) G La s.heap.size (sg_HV La Q)) args s 0 0 (sg_A La s.heap.size)) 5 G (sg_A La s.heap.size) La s_356e221 0 0 356 [(0, sg_r 64), (2, sg_i u33), (3, sg_i x3_356e221)] []), ∀ n_221 : Nat, ∀ (s_221 : sg_M) (x3_221 : Int), sg_R x3_221 → fX12_go_L221 u33 k356 n_221 s_221 x3_221 → sg_W p l e (sg_rm 2 0 0) s m args below meth c (MQ below (sg_Q (none) G La s.heap.size (sg_HV La Q)) args s 0 0 (sg_A La s.heap.size)) 5 G (sg_A La s.heap.size) La s_221 0 0 221 [(0, sg_r 64), (2, sg_i u33), (3, sg_i x3_221)] [] := by
          intro k356 hk356 n_221
          induction n_221 with
          | zero => intro s_221 x3_221 r3_221 hf; exact hf.elim
          | succ n_221 ih =>
            intro s_221 x3_221 r3_221 hf
            unfold fX12_go_L221 at hf
            refine gw_aload_n F 0 rfl rfl (by decide) dX12_go_221 ?_
            refine gw_aload_n F 0 rfl rfl (by decide) dX12_go_222 ?_
            refine gw_get0 F (so_64 hst) (by decide) rfl sg_lay_RX12 (j := 5) (by decide) rfl (host := "") (.inl kw_961) dX12_go_223 (fun h39 => ?_)
            refine gk_PI F (gc_V F (S := []) (As := [sg_i (s_221 64 5)]) (T := TX12) (N := 62) (CX12_byteAt hst h39 hf) (so_64 hst) (by decide) rfl kw_1058 kw_103 kw_1056 kw_1057 kw_44 hcX12_byteAt ⟨by decide, by decide⟩ rfl rfl (Nat.le_of_ble_eq_true rfl) ⟨by decide, by decide⟩ dX12_go_226) (fun u40 h41 hf => ?_)
            refine gk_PZ F (gc_S F (S := []) (As := [sg_i u40]) (CX12_isLetter h41 hf) kw_1052 kw_103 kw_1050 kw_1051 hcX12_isLetter ⟨by decide, by decide⟩ rfl rfl (Nat.le_of_ble_eq_true rfl) ⟨by decide, by decide⟩ dX12_go_229) (fun u42 h43 hf => ?_)
            have J249 : (fX12_go_j249 u33 s_221 x3_221 (fX12_go_L221 u33 k356 n_221)) → sg_W p l e (sg_rm 2 0 0) s m args below meth c (MQ below (sg_Q (none) G La s.heap.size (sg_HV La Q)) args s 0 0 (sg_A La s.heap.size)) 5 G (sg_A La s.heap.size) La s_221 0 0 249 [(0, sg_r 64), (2, sg_i u33), (3, sg_i x3_221)] [] := by
              intro hf
              unfold fX12_go_j249 at hf
              refine gw_aload_n F 0 rfl rfl (by decide) dX12_go_249 ?_
              refine gw_get7 F (so_64 hst) (by decide) rfl sg_lay_RX12 (j := 1) (by decide) (o1 := 65) (by first | rfl | omega) rfl (host := "") (.inl kw_957) dX12_go_250 (fun h44 => ?_)
              refine gw_aload_n F 0 rfl rfl (by decide) dX12_go_253 ?_
              refine gw_get0 F (so_64 hst) (by decide) rfl sg_lay_RX12 (j := 5) (by decide) rfl (host := "") (.inl kw_961) dX12_go_254 (fun h45 => ?_)
              obtain ⟨⟨b460, b461⟩, hf⟩ := hf
              refine gw_iald F (sa_65 hst) b460 b461 dX12_go_257 (fun h47 => ?_)
              refine gw_istore F (by decide) rfl dX12_go_258 ?_
              refine gw_iload_n F 3 rfl rfl dX12_go_260 ?_
              have J278 : ∀ (y0_278 : Int), sg_R y0_278 → (fX12_go_j278 s_221 (fX12_go_L221 u33 k356 n_221)) y0_278 → sg_W p l e (sg_rm 2 0 0) s m args below meth c (MQ below (sg_Q (none) G La s.heap.size (sg_HV La Q)) args s 0 0 (sg_A La s.heap.size)) 5 G (sg_A La s.heap.size) La s_221 0 0 278 [(0, sg_r 64), (2, sg_i u33), (4, sg_i (s_221 65 (s_221 64 5)))] [sg_i y0_278] := by
                intro y0_278 ry0_278 hf
                unfold fX12_go_j278 at hf
                refine gw_istore_n F rfl (by decide) rfl dX12_go_278 ?_
                refine gw_aload_n F 1 rfl rfl (by decide) dX12_go_279 ?_
                refine gw_get0 F (so_64 hst) (by decide) rfl sg_lay_RX12 (j := 5) (by decide) rfl (host := "") (.inl kw_961) dX12_go_280 (fun h48 => ?_)
                refine gw_aload_n F 1 rfl rfl (by decide) dX12_go_283 ?_
                refine gw_get0 F (so_64 hst) (by decide) rfl sg_lay_RX12 (j := 6) (by decide) rfl (host := "") (.inl kw_962) dX12_go_284 (fun h49 => ?_)
                refine gw_isub F rfl dX12_go_287 ?_
                refine gw_bipush F rfl dX12_go_288 ?_
                have J313 : ∀ (s_313 : sg_M), (fX12_go_j313 s_221 y0_278 (fX12_go_L221 u33 k356 n_221)) s_313 → sg_W p l e (sg_rm 2 0 0) s m args below meth c (MQ below (sg_Q (none) G La s.heap.size (sg_HV La Q)) args s 0 0 (sg_A La s.heap.size)) 5 G (sg_A La s.heap.size) La s_313 0 0 313 [(0, sg_r 64), (2, sg_i u33), (3, sg_i y0_278), (4, sg_i (s_221 65 (s_221 64 5)))] [] := by
                  intro s_313 hf
                  unfold fX12_go_j313 at hf
                  refine gw_aload_n F 0 rfl rfl (by decide) dX12_go_313 ?_
                  refine gw_get0 F (so_64 hst) (by decide) rfl sg_lay_RX12 (j := 5) (by decide) rfl (host := "") (.inl kw_961) dX12_go_314 (fun h50 => ?_)
                  refine gw_aload_n F 0 rfl rfl (by decide) dX12_go_317 ?_
                  refine gw_get0 F (so_64 hst) (by decide) rfl sg_lay_RX12 (j := 6) (by decide) rfl (host := "") (.inl kw_962) dX12_go_318 (fun h51 => ?_)
                  refine gw_isub F rfl dX12_go_321 ?_
                  refine gw_iconst F dX12_go_322 ?_
                  have J343 : ∀ (s_343 : sg_M), (fX12_go_j343 y0_278 (fX12_go_L221 u33 k356 n_221)) s_343 → sg_W p l e (sg_rm 2 0 0) s m args below meth c (MQ below (sg_Q (none) G La s.heap.size (sg_HV La Q)) args s 0 0 (sg_A La s.heap.size)) 5 G (sg_A La s.heap.size) La s_343 0 0 343 [(0, sg_r 64), (2, sg_i u33), (3, sg_i y0_278)] [] := by
                    intro s_343 hf
                    unfold fX12_go_j343 at hf
                    refine gw_aload_n F 0 rfl rfl (by decide) dX12_go_343 ?_
                    refine gw_dup F rfl dX12_go_344 ?_
                    refine gw_get0 F (so_64 hst) (by decide) rfl sg_lay_RX12 (j := 5) (by decide) rfl (host := "") (.inl kw_961) dX12_go_345 (fun h52 => ?_)
                    refine gw_iconst F dX12_go_348 ?_
                    refine gw_iadd F rfl dX12_go_349 ?_
                    obtain ⟨g53, hf⟩ := hf
                    obtain ⟨s54, e55⟩ : ∃ z : sg_M, z = sg_up s_343 64 5 ((s_343 64 5) + 1) := ⟨_, rfl⟩
                    have hf := hf s54 e55
                    refine gw_put0 F (so_64 hst) (by decide) rfl sg_lay_RX12 (j := 5) (by decide) g53 e55 tyX12_ok nmX12 rfl (tyX12_ok 5 (by decide)) rfl (host := "") (.inl kw_961) dX12_go_350 ?_
                    refine gw_goto F (tgt := 221) dX12_go_353 (by decide) ?_
                    refine gw_sub [0, 1, 2] rfl ?_
                    exact ih s54 y0_278 ry0_278 hf
                  obtain ⟨g56, hf⟩ := hf
                  refine gw_icmp_ge F (tgt := 343) dX12_go_323 (by decide) g56 (by decide) (fun c57 => ?_) (fun c57 => ?_)
                  · have hf := hf.1 c57
                    refine gw_sub [0, 1, 2] rfl ?_
                    exact J343 s_313 hf
                  · have hf := hf.2 c57
                    refine gw_aload_n F 0 rfl rfl (by decide) dX12_go_326 ?_
                    refine gw_bipush F rfl dX12_go_327 ?_
                    refine gw_aload_n F 0 rfl rfl (by decide) dX12_go_329 ?_
                    refine gw_get0 F (so_64 hst) (by decide) rfl sg_lay_RX12 (j := 8) (by decide) rfl (host := "") (.inl kw_964) dX12_go_330 (fun h58 => ?_)
                    refine gw_imul F rfl dX12_go_333 ?_
                    refine gw_iload F 3 rfl dX12_go_334 ?_
                    refine gw_iadd F rfl dX12_go_336 ?_
                    refine gw_bipush F rfl dX12_go_337 ?_
                    refine gw_isub F rfl dX12_go_339 ?_
                    obtain ⟨g59, hf⟩ := hf
                    obtain ⟨v60, e61⟩ : ∃ z : Int, z = (((10 * (s_313 64 8)) + (s_221 65 (s_221 64 5))) - 48) := ⟨_, rfl⟩
                    have hf := hf v60 e61
                    refine gw_nmI e61 ?_
                    obtain ⟨s62, e63⟩ : ∃ z : sg_M, z = sg_up s_313 64 8 v60 := ⟨_, rfl⟩
                    have hf := hf s62 e63
                    refine gw_put0 F (so_64 hst) (by decide) rfl sg_lay_RX12 (j := 8) (by decide) (e61 ▸ g59) e63 tyX12_ok nmX12 rfl (tyX12_ok 8 (by decide)) rfl (host := "") (.inl kw_964) dX12_go_340 ?_
                    refine gw_sub [0, 1, 2] rfl ?_
                    exact J343 s62 hf
                obtain ⟨g64, hf⟩ := hf
                refine gw_icmp_ge F (tgt := 313) dX12_go_290 (by decide) g64 (by decide) (fun c65 => ?_) (fun c65 => ?_)
                · have hf := hf.1 c65
                  refine gw_sub [1, 2, 0, 3] rfl ?_
                  exact J313 s_221 hf
                · have hf := hf.2 c65
                  refine gw_aload_n F 1 rfl rfl (by decide) dX12_go_293 ?_
                  refine gw_ldc2 F (n := 27) kw_1059 rfl dX12_go_294 ?_
                  refine gw_aload_n F 1 rfl rfl (by decide) dX12_go_297 ?_
                  refine gw_get2 F (so_64 hst) (by decide) rfl sg_lay_RX12 (j := 12) (by decide) rfl (host := "") (.inl kw_968) dX12_go_298 (fun h66 => ?_)
                  refine gw_lmul F rfl dX12_go_301 ?_
                  refine gw_iload F 3 rfl dX12_go_302 ?_
                  refine gw_i2l F h47 dX12_go_304 ?_
                  refine gw_ladd F rfl dX12_go_305 ?_
                  refine gw_ldc2 F (n := 96) kw_1060 rfl dX12_go_306 ?_
                  refine gw_lsub F rfl dX12_go_309 ?_
                  obtain ⟨g67, hf⟩ := hf
                  obtain ⟨v68, e69⟩ : ∃ z : Int, z = (((27 * (s_221 64 12)) + (s_221 65 (s_221 64 5))) - 96) := ⟨_, rfl⟩
                  have hf := hf v68 e69
                  refine gw_nmJ e69 ?_
                  obtain ⟨s70, e71⟩ : ∃ z : sg_M, z = sg_up s_221 64 12 v68 := ⟨_, rfl⟩
                  have hf := hf s70 e71
                  refine gw_put2 F (so_64 hst) (by decide) rfl sg_lay_RX12 (j := 12) (by decide) (e69 ▸ g67) e71 tyX12_ok nmX12 rfl (tyX12_ok 12 (by decide)) rfl (host := "") (.inl kw_968) dX12_go_310 ?_
                  refine gw_sub [1, 2, 0, 3] rfl ?_
                  exact J313 s70 hf
              have J277 : (fX12_go_j277  (fX12_go_j278 s_221 (fX12_go_L221 u33 k356 n_221))) → sg_W p l e (sg_rm 2 0 0) s m args below meth c (MQ below (sg_Q (none) G La s.heap.size (sg_HV La Q)) args s 0 0 (sg_A La s.heap.size)) 5 G (sg_A La s.heap.size) La s_221 0 0 277 [(0, sg_r 64), (2, sg_i u33), (4, sg_i (s_221 65 (s_221 64 5)))] [] := by
                intro hf
                unfold fX12_go_j277 at hf
                refine gw_iconst F dX12_go_277 ?_
                refine gw_sub [0, 1, 2] rfl ?_
                exact J278 0 (by decide) hf
              refine gw_if_eq F (tgt := 277) dX12_go_261 (by decide) r3_221 (fun c72 => ?_) (fun c72 => ?_)
              · have hf := hf.1 c72
                refine gw_sub [1, 2, 0] rfl ?_
                exact J277  hf
              · have hf := hf.2 c72
                refine gw_iload F 0 rfl dX12_go_264 ?_
                refine gk_PZ F (gc_S F (S := []) (As := [sg_i (s_221 65 (s_221 64 5))]) (CX12_isLetter h47 hf) kw_1052 kw_103 kw_1050 kw_1051 hcX12_isLetter ⟨by decide, by decide⟩ rfl rfl (Nat.le_of_ble_eq_true rfl) ⟨by decide, by decide⟩ dX12_go_266) (fun u73 h74 hf => ?_)
                refine gw_iload_n F 2 rfl rfl dX12_go_269 ?_
                refine gw_icmp_ne F (tgt := 277) dX12_go_270 (by decide) (sg_B_R h74) (sg_B_R h34) (fun c75 => ?_) (fun c75 => ?_)
                · have hf := hf.1 c75
                  refine gw_sub [1, 2, 0] rfl ?_
                  exact J277  hf
                · have hf := hf.2 c75
                  refine gw_iconst F dX12_go_273 ?_
                  refine gw_goto F (tgt := 278) dX12_go_274 (by decide) ?_
                  refine gw_sub [1, 2, 0] rfl ?_
                  exact J278 1 (by decide) hf
            refine gw_if_ne F (tgt := 249) dX12_go_232 (by decide) (sg_B_R h43) (fun c76 => ?_) (fun c76 => ?_)
            · have hf := hf.1 c76
              refine gw_sub [0, 1, 2] rfl ?_
              exact J249  hf
            · have hf := hf.2 c76
              refine gw_aload_n F 0 rfl rfl (by decide) dX12_go_235 ?_
              refine gw_aload_n F 0 rfl rfl (by decide) dX12_go_236 ?_
              refine gw_get0 F (so_64 hst) (by decide) rfl sg_lay_RX12 (j := 5) (by decide) rfl (host := "") (.inl kw_961) dX12_go_237 (fun h77 => ?_)
              refine gk_PI F (gc_V F (S := []) (As := [sg_i (s_221 64 5)]) (T := TX12) (N := 62) (CX12_byteAt hst h77 hf) (so_64 hst) (by decide) rfl kw_1058 kw_103 kw_1056 kw_1057 kw_44 hcX12_byteAt ⟨by decide, by decide⟩ rfl rfl (Nat.le_of_ble_eq_true rfl) ⟨by decide, by decide⟩ dX12_go_240) (fun u78 h79 hf => ?_)
              refine gk_PZ F (gc_S F (S := []) (As := [sg_i u78]) (CX12_isDigit h79 hf) kw_1055 kw_103 kw_1053 kw_1054 hcX12_isDigit ⟨by decide, by decide⟩ rfl rfl (Nat.le_of_ble_eq_true rfl) ⟨by decide, by decide⟩ dX12_go_243) (fun u80 h81 hf => ?_)
              refine gw_if_eq F (tgt := 356) dX12_go_246 (by decide) (sg_B_R h81) (fun c82 => ?_) (fun c82 => ?_)
              · have hf := hf.1 c82
                refine gw_sub [0, 1, 2] rfl ?_
                exact hk356 s_221 x3_221 r3_221 hf
              · have hf := hf.2 c82
                refine gw_sub [0, 1, 2] rfl ?_
                exact J249  hf
        obtain ⟨n83, hf⟩ := hf
        refine gw_sub [2, 1, 0] rfl ?_
        refine L221 _ (fun s_356e221 x3_356e221 r3_356e221 hf => ?_) n83 s37 1 (by decide) hf
        refine gw_aload_n F 0 rfl rfl (by decide) dX12_go_356 ?_
        refine gw_iload_n F 2 rfl rfl dX12_go_357 ?_
        refine gw_if_eq F (tgt := 383) dX12_go_358 (by decide) r3_356e221 (fun c84 => ?_) (fun c84 => ?_)
        · have hf := hf.1 c84
          refine gw_iconst F dX12_go_383 ?_
          refine gw_goto F (tgt := 396) dX12_go_384 (by decide) ?_
          obtain ⟨s85, e86⟩ : ∃ z : sg_M, z = sg_up s_356e221 64 7 1 := ⟨_, rfl⟩
          have hf := hf s85 e86
          refine gw_put0 F (so_64 hst) (by decide) rfl sg_lay_RX12 (j := 7) (by decide) (by decide) e86 tyX12_ok nmX12 rfl (tyX12_ok 7 (by decide)) rfl (host := "") (.inl kw_963) dX12_go_396 ?_
          exact gr_HV F hf (by decide) (by decide) dX12_go_399
        · have hf := hf.2 c84
          refine gw_aload_n F 0 rfl rfl (by decide) dX12_go_361 ?_
          refine gw_get0 F (so_64 hst) (by decide) rfl sg_lay_RX12 (j := 5) (by decide) rfl (host := "") (.inl kw_961) dX12_go_362 (fun h87 => ?_)
          refine gw_aload_n F 0 rfl rfl (by decide) dX12_go_365 ?_
          refine gw_get0 F (so_64 hst) (by decide) rfl sg_lay_RX12 (j := 6) (by decide) rfl (host := "") (.inl kw_962) dX12_go_366 (fun h88 => ?_)
          refine gw_isub F rfl dX12_go_369 ?_
          refine gw_iload_n F 1 rfl rfl dX12_go_370 ?_
          have J380 : ∀ (y0_380 : Int), sg_R y0_380 → (fX12_go_j380 u33 s_356e221 Q) y0_380 → sg_W p l e (sg_rm 2 0 0) s m args below meth c (MQ below (sg_Q (none) G La s.heap.size (sg_HV La Q)) args s 0 0 (sg_A La s.heap.size)) 5 G (sg_A La s.heap.size) La s_356e221 0 0 380 [(2, sg_i u33)] [sg_i y0_380, sg_i ((s_356e221 64 5) - (s_356e221 64 6)), sg_r 64] := by
            intro y0_380 ry0_380 hf
            unfold fX12_go_j380 at hf
            obtain ⟨g89, hf⟩ := hf
            refine gw_icmp_le F (tgt := 387) dX12_go_380 (by decide) g89 ry0_380 (fun c90 => ?_) (fun c90 => ?_)
            · have hf := hf.1 c90
              refine gw_iload_n F 0 rfl rfl dX12_go_387 ?_
              refine gw_if_eq F (tgt := 395) dX12_go_388 (by decide) (sg_B_R h34) (fun c91 => ?_) (fun c91 => ?_)
              · have hf := hf.1 c91
                refine gw_iconst F dX12_go_395 ?_
                obtain ⟨s92, e93⟩ : ∃ z : sg_M, z = sg_up s_356e221 64 7 3 := ⟨_, rfl⟩
                have hf := hf s92 e93
                refine gw_put0 F (so_64 hst) (by decide) rfl sg_lay_RX12 (j := 7) (by decide) (by decide) e93 tyX12_ok nmX12 rfl (tyX12_ok 7 (by decide)) rfl (host := "") (.inl kw_963) dX12_go_396 ?_
                exact gr_HV F hf (by decide) (by decide) dX12_go_399
              · have hf := hf.2 c91
                refine gw_iconst F dX12_go_391 ?_
                refine gw_goto F (tgt := 396) dX12_go_392 (by decide) ?_
                obtain ⟨s94, e95⟩ : ∃ z : sg_M, z = sg_up s_356e221 64 7 2 := ⟨_, rfl⟩
                have hf := hf s94 e95
                refine gw_put0 F (so_64 hst) (by decide) rfl sg_lay_RX12 (j := 7) (by decide) (by decide) e95 tyX12_ok nmX12 rfl (tyX12_ok 7 (by decide)) rfl (host := "") (.inl kw_963) dX12_go_396 ?_
                exact gr_HV F hf (by decide) (by decide) dX12_go_399
            · have hf := hf.2 c90
              refine gw_iconst F dX12_go_383 ?_
              refine gw_goto F (tgt := 396) dX12_go_384 (by decide) ?_
              obtain ⟨s96, e97⟩ : ∃ z : sg_M, z = sg_up s_356e221 64 7 1 := ⟨_, rfl⟩
              have hf := hf s96 e97
              refine gw_put0 F (so_64 hst) (by decide) rfl sg_lay_RX12 (j := 7) (by decide) (by decide) e97 tyX12_ok nmX12 rfl (tyX12_ok 7 (by decide)) rfl (host := "") (.inl kw_963) dX12_go_396 ?_
              exact gr_HV F hf (by decide) (by decide) dX12_go_399
          refine gw_if_eq F (tgt := 379) dX12_go_371 (by decide) (sg_B_R h34) (fun c98 => ?_) (fun c98 => ?_)
          · have hf := hf.1 c98
            refine gw_iconst F dX12_go_379 ?_
            refine gw_sub [1] rfl ?_
            exact J380 4 (by decide) hf
          · have hf := hf.2 c98
            refine gw_bipush F rfl dX12_go_374 ?_
            refine gw_goto F (tgt := 380) dX12_go_376 (by decide) ?_
            refine gw_sub [1] rfl ?_
            exact J380 6 (by decide) hf
      refine gw_if_ne F (tgt := 204) dX12_go_127 (by decide) (sg_B_R h32) (fun c99 => ?_) (fun c99 => ?_)
      · have hf := hf.1 c99
        refine gw_sub [1, 0] rfl ?_
        exact J204  hf
      · have hf := hf.2 c99
        refine gw_iload_n F 0 rfl rfl dX12_go_130 ?_
        refine gk_PZ F (gc_S F (S := []) (As := [sg_i (s20 65 (s20 64 5))]) (CX12_isDigit h30 hf) kw_1055 kw_103 kw_1053 kw_1054 hcX12_isDigit ⟨by decide, by decide⟩ rfl rfl (Nat.le_of_ble_eq_true rfl) ⟨by decide, by decide⟩ dX12_go_131) (fun u100 h101 hf => ?_)
        refine gw_if_ne F (tgt := 204) dX12_go_134 (by decide) (sg_B_R h101) (fun c102 => ?_) (fun c102 => ?_)
        · have hf := hf.1 c102
          refine gw_sub [1, 0] rfl ?_
          exact J204  hf
        · have hf := hf.2 c102
          refine gw_aload_n F 1 rfl rfl (by decide) dX12_go_137 ?_
          refine gw_iload_n F 0 rfl rfl dX12_go_138 ?_
          refine gw_bipush F rfl dX12_go_139 ?_
          refine gw_icmp_eq F (tgt := 180) dX12_go_141 (by decide) h30 (by decide) (fun c103 => ?_) (fun c103 => ?_)
          · have hf := hf.1 c103
            refine gw_iconst F dX12_go_180 ?_
            refine gw_goto F (tgt := 185) dX12_go_181 (by decide) ?_
            obtain ⟨s104, e105⟩ : ∃ z : sg_M, z = sg_up s20 64 7 4 := ⟨_, rfl⟩
            have hf := hf s104 e105
            refine gw_put0 F (so_64 hst) (by decide) rfl sg_lay_RX12 (j := 7) (by decide) (by decide) e105 tyX12_ok nmX12 rfl (tyX12_ok 7 (by decide)) rfl (host := "") (.inl kw_963) dX12_go_185 ?_
            refine gw_aload_n F 1 rfl rfl (by decide) dX12_go_188 ?_
            refine gw_iload_n F 0 rfl rfl dX12_go_189 ?_
            obtain ⟨s106, e107⟩ : ∃ z : sg_M, z = sg_up s104 64 9 (s20 65 (s20 64 5)) := ⟨_, rfl⟩
            have hf := hf s106 e107
            refine gw_put0 F (so_64 hst) (by decide) rfl sg_lay_RX12 (j := 9) (by decide) h30 e107 tyX12_ok nmX12 rfl (tyX12_ok 9 (by decide)) rfl (host := "") (.inl kw_965) dX12_go_190 ?_
            refine gw_aload_n F 1 rfl rfl (by decide) dX12_go_193 ?_
            refine gw_dup F rfl dX12_go_194 ?_
            refine gw_get0 F (so_64 hst) (by decide) rfl sg_lay_RX12 (j := 5) (by decide) rfl (host := "") (.inl kw_961) dX12_go_195 (fun h108 => ?_)
            refine gw_iconst F dX12_go_198 ?_
            refine gw_iadd F rfl dX12_go_199 ?_
            obtain ⟨g109, hf⟩ := hf
            obtain ⟨s110, e111⟩ : ∃ z : sg_M, z = sg_up s106 64 5 ((s106 64 5) + 1) := ⟨_, rfl⟩
            have hf := hf s110 e111
            refine gw_put0 F (so_64 hst) (by decide) rfl sg_lay_RX12 (j := 5) (by decide) g109 e111 tyX12_ok nmX12 rfl (tyX12_ok 5 (by decide)) rfl (host := "") (.inl kw_961) dX12_go_200 ?_
            exact gr_HV F hf (by decide) (by decide) dX12_go_203
          · have hf := hf.2 c103
            refine gw_iload_n F 0 rfl rfl dX12_go_144 ?_
            refine gw_bipush F rfl dX12_go_145 ?_
            refine gw_icmp_eq F (tgt := 180) dX12_go_147 (by decide) h30 (by decide) (fun c112 => ?_) (fun c112 => ?_)
            · have hf := hf.1 c112
              refine gw_iconst F dX12_go_180 ?_
              refine gw_goto F (tgt := 185) dX12_go_181 (by decide) ?_
              obtain ⟨s113, e114⟩ : ∃ z : sg_M, z = sg_up s20 64 7 4 := ⟨_, rfl⟩
              have hf := hf s113 e114
              refine gw_put0 F (so_64 hst) (by decide) rfl sg_lay_RX12 (j := 7) (by decide) (by decide) e114 tyX12_ok nmX12 rfl (tyX12_ok 7 (by decide)) rfl (host := "") (.inl kw_963) dX12_go_185 ?_
              refine gw_aload_n F 1 rfl rfl (by decide) dX12_go_188 ?_
              refine gw_iload_n F 0 rfl rfl dX12_go_189 ?_
              obtain ⟨s115, e116⟩ : ∃ z : sg_M, z = sg_up s113 64 9 (s20 65 (s20 64 5)) := ⟨_, rfl⟩
              have hf := hf s115 e116
              refine gw_put0 F (so_64 hst) (by decide) rfl sg_lay_RX12 (j := 9) (by decide) h30 e116 tyX12_ok nmX12 rfl (tyX12_ok 9 (by decide)) rfl (host := "") (.inl kw_965) dX12_go_190 ?_
              refine gw_aload_n F 1 rfl rfl (by decide) dX12_go_193 ?_
              refine gw_dup F rfl dX12_go_194 ?_
              refine gw_get0 F (so_64 hst) (by decide) rfl sg_lay_RX12 (j := 5) (by decide) rfl (host := "") (.inl kw_961) dX12_go_195 (fun h117 => ?_)
              refine gw_iconst F dX12_go_198 ?_
              refine gw_iadd F rfl dX12_go_199 ?_
              obtain ⟨g118, hf⟩ := hf
              obtain ⟨s119, e120⟩ : ∃ z : sg_M, z = sg_up s115 64 5 ((s115 64 5) + 1) := ⟨_, rfl⟩
              have hf := hf s119 e120
              refine gw_put0 F (so_64 hst) (by decide) rfl sg_lay_RX12 (j := 5) (by decide) g118 e120 tyX12_ok nmX12 rfl (tyX12_ok 5 (by decide)) rfl (host := "") (.inl kw_961) dX12_go_200 ?_
              exact gr_HV F hf (by decide) (by decide) dX12_go_203
            · have hf := hf.2 c112
              refine gw_iload_n F 0 rfl rfl dX12_go_150 ?_
              refine gw_bipush F rfl dX12_go_151 ?_
              refine gw_icmp_eq F (tgt := 180) dX12_go_153 (by decide) h30 (by decide) (fun c121 => ?_) (fun c121 => ?_)
              · have hf := hf.1 c121
                refine gw_iconst F dX12_go_180 ?_
                refine gw_goto F (tgt := 185) dX12_go_181 (by decide) ?_
                obtain ⟨s122, e123⟩ : ∃ z : sg_M, z = sg_up s20 64 7 4 := ⟨_, rfl⟩
                have hf := hf s122 e123
                refine gw_put0 F (so_64 hst) (by decide) rfl sg_lay_RX12 (j := 7) (by decide) (by decide) e123 tyX12_ok nmX12 rfl (tyX12_ok 7 (by decide)) rfl (host := "") (.inl kw_963) dX12_go_185 ?_
                refine gw_aload_n F 1 rfl rfl (by decide) dX12_go_188 ?_
                refine gw_iload_n F 0 rfl rfl dX12_go_189 ?_
                obtain ⟨s124, e125⟩ : ∃ z : sg_M, z = sg_up s122 64 9 (s20 65 (s20 64 5)) := ⟨_, rfl⟩
                have hf := hf s124 e125
                refine gw_put0 F (so_64 hst) (by decide) rfl sg_lay_RX12 (j := 9) (by decide) h30 e125 tyX12_ok nmX12 rfl (tyX12_ok 9 (by decide)) rfl (host := "") (.inl kw_965) dX12_go_190 ?_
                refine gw_aload_n F 1 rfl rfl (by decide) dX12_go_193 ?_
                refine gw_dup F rfl dX12_go_194 ?_
                refine gw_get0 F (so_64 hst) (by decide) rfl sg_lay_RX12 (j := 5) (by decide) rfl (host := "") (.inl kw_961) dX12_go_195 (fun h126 => ?_)
                refine gw_iconst F dX12_go_198 ?_
                refine gw_iadd F rfl dX12_go_199 ?_
                obtain ⟨g127, hf⟩ := hf
                obtain ⟨s128, e129⟩ : ∃ z : sg_M, z = sg_up s124 64 5 ((s124 64 5) + 1) := ⟨_, rfl⟩
                have hf := hf s128 e129
                refine gw_put0 F (so_64 hst) (by decide) rfl sg_lay_RX12 (j := 5) (by decide) g127 e129 tyX12_ok nmX12 rfl (tyX12_ok 5 (by decide)) rfl (host := "") (.inl kw_961) dX12_go_200 ?_
                exact gr_HV F hf (by decide) (by decide) dX12_go_203
              · have hf := hf.2 c121
                refine gw_iload_n F 0 rfl rfl dX12_go_156 ?_
                refine gw_bipush F rfl dX12_go_157 ?_
                refine gw_icmp_eq F (tgt := 180) dX12_go_159 (by decide) h30 (by decide) (fun c130 => ?_) (fun c130 => ?_)
                · have hf := hf.1 c130
                  refine gw_iconst F dX12_go_180 ?_
                  refine gw_goto F (tgt := 185) dX12_go_181 (by decide) ?_
                  obtain ⟨s131, e132⟩ : ∃ z : sg_M, z = sg_up s20 64 7 4 := ⟨_, rfl⟩
                  have hf := hf s131 e132
                  refine gw_put0 F (so_64 hst) (by decide) rfl sg_lay_RX12 (j := 7) (by decide) (by decide) e132 tyX12_ok nmX12 rfl (tyX12_ok 7 (by decide)) rfl (host := "") (.inl kw_963) dX12_go_185 ?_
                  refine gw_aload_n F 1 rfl rfl (by decide) dX12_go_188 ?_
                  refine gw_iload_n F 0 rfl rfl dX12_go_189 ?_
                  obtain ⟨s133, e134⟩ : ∃ z : sg_M, z = sg_up s131 64 9 (s20 65 (s20 64 5)) := ⟨_, rfl⟩
                  have hf := hf s133 e134
                  refine gw_put0 F (so_64 hst) (by decide) rfl sg_lay_RX12 (j := 9) (by decide) h30 e134 tyX12_ok nmX12 rfl (tyX12_ok 9 (by decide)) rfl (host := "") (.inl kw_965) dX12_go_190 ?_
                  refine gw_aload_n F 1 rfl rfl (by decide) dX12_go_193 ?_
                  refine gw_dup F rfl dX12_go_194 ?_
                  refine gw_get0 F (so_64 hst) (by decide) rfl sg_lay_RX12 (j := 5) (by decide) rfl (host := "") (.inl kw_961) dX12_go_195 (fun h135 => ?_)
                  refine gw_iconst F dX12_go_198 ?_
                  refine gw_iadd F rfl dX12_go_199 ?_
                  obtain ⟨g136, hf⟩ := hf
                  obtain ⟨s137, e138⟩ : ∃ z : sg_M, z = sg_up s133 64 5 ((s133 64 5) + 1) := ⟨_, rfl⟩
                  have hf := hf s137 e138
                  refine gw_put0 F (so_64 hst) (by decide) rfl sg_lay_RX12 (j := 5) (by decide) g136 e138 tyX12_ok nmX12 rfl (tyX12_ok 5 (by decide)) rfl (host := "") (.inl kw_961) dX12_go_200 ?_
                  exact gr_HV F hf (by decide) (by decide) dX12_go_203
                · have hf := hf.2 c130
                  refine gw_iload_n F 0 rfl rfl dX12_go_162 ?_
                  refine gw_bipush F rfl dX12_go_163 ?_
                  refine gw_icmp_eq F (tgt := 180) dX12_go_165 (by decide) h30 (by decide) (fun c139 => ?_) (fun c139 => ?_)
                  · have hf := hf.1 c139
                    refine gw_iconst F dX12_go_180 ?_
                    refine gw_goto F (tgt := 185) dX12_go_181 (by decide) ?_
                    obtain ⟨s140, e141⟩ : ∃ z : sg_M, z = sg_up s20 64 7 4 := ⟨_, rfl⟩
                    have hf := hf s140 e141
                    refine gw_put0 F (so_64 hst) (by decide) rfl sg_lay_RX12 (j := 7) (by decide) (by decide) e141 tyX12_ok nmX12 rfl (tyX12_ok 7 (by decide)) rfl (host := "") (.inl kw_963) dX12_go_185 ?_
                    refine gw_aload_n F 1 rfl rfl (by decide) dX12_go_188 ?_
                    refine gw_iload_n F 0 rfl rfl dX12_go_189 ?_
                    obtain ⟨s142, e143⟩ : ∃ z : sg_M, z = sg_up s140 64 9 (s20 65 (s20 64 5)) := ⟨_, rfl⟩
                    have hf := hf s142 e143
                    refine gw_put0 F (so_64 hst) (by decide) rfl sg_lay_RX12 (j := 9) (by decide) h30 e143 tyX12_ok nmX12 rfl (tyX12_ok 9 (by decide)) rfl (host := "") (.inl kw_965) dX12_go_190 ?_
                    refine gw_aload_n F 1 rfl rfl (by decide) dX12_go_193 ?_
                    refine gw_dup F rfl dX12_go_194 ?_
                    refine gw_get0 F (so_64 hst) (by decide) rfl sg_lay_RX12 (j := 5) (by decide) rfl (host := "") (.inl kw_961) dX12_go_195 (fun h144 => ?_)
                    refine gw_iconst F dX12_go_198 ?_
                    refine gw_iadd F rfl dX12_go_199 ?_
                    obtain ⟨g145, hf⟩ := hf
                    obtain ⟨s146, e147⟩ : ∃ z : sg_M, z = sg_up s142 64 5 ((s142 64 5) + 1) := ⟨_, rfl⟩
                    have hf := hf s146 e147
                    refine gw_put0 F (so_64 hst) (by decide) rfl sg_lay_RX12 (j := 5) (by decide) g145 e147 tyX12_ok nmX12 rfl (tyX12_ok 5 (by decide)) rfl (host := "") (.inl kw_961) dX12_go_200 ?_
                    exact gr_HV F hf (by decide) (by decide) dX12_go_203
                  · have hf := hf.2 c139
                    refine gw_iload_n F 0 rfl rfl dX12_go_168 ?_
                    refine gw_bipush F rfl dX12_go_169 ?_
                    refine gw_icmp_eq F (tgt := 180) dX12_go_171 (by decide) h30 (by decide) (fun c148 => ?_) (fun c148 => ?_)
                    · have hf := hf.1 c148
                      refine gw_iconst F dX12_go_180 ?_
                      refine gw_goto F (tgt := 185) dX12_go_181 (by decide) ?_
                      obtain ⟨s149, e150⟩ : ∃ z : sg_M, z = sg_up s20 64 7 4 := ⟨_, rfl⟩
                      have hf := hf s149 e150
                      refine gw_put0 F (so_64 hst) (by decide) rfl sg_lay_RX12 (j := 7) (by decide) (by decide) e150 tyX12_ok nmX12 rfl (tyX12_ok 7 (by decide)) rfl (host := "") (.inl kw_963) dX12_go_185 ?_
                      refine gw_aload_n F 1 rfl rfl (by decide) dX12_go_188 ?_
                      refine gw_iload_n F 0 rfl rfl dX12_go_189 ?_
                      obtain ⟨s151, e152⟩ : ∃ z : sg_M, z = sg_up s149 64 9 (s20 65 (s20 64 5)) := ⟨_, rfl⟩
                      have hf := hf s151 e152
                      refine gw_put0 F (so_64 hst) (by decide) rfl sg_lay_RX12 (j := 9) (by decide) h30 e152 tyX12_ok nmX12 rfl (tyX12_ok 9 (by decide)) rfl (host := "") (.inl kw_965) dX12_go_190 ?_
                      refine gw_aload_n F 1 rfl rfl (by decide) dX12_go_193 ?_
                      refine gw_dup F rfl dX12_go_194 ?_
                      refine gw_get0 F (so_64 hst) (by decide) rfl sg_lay_RX12 (j := 5) (by decide) rfl (host := "") (.inl kw_961) dX12_go_195 (fun h153 => ?_)
                      refine gw_iconst F dX12_go_198 ?_
                      refine gw_iadd F rfl dX12_go_199 ?_
                      obtain ⟨g154, hf⟩ := hf
                      obtain ⟨s155, e156⟩ : ∃ z : sg_M, z = sg_up s151 64 5 ((s151 64 5) + 1) := ⟨_, rfl⟩
                      have hf := hf s155 e156
                      refine gw_put0 F (so_64 hst) (by decide) rfl sg_lay_RX12 (j := 5) (by decide) g154 e156 tyX12_ok nmX12 rfl (tyX12_ok 5 (by decide)) rfl (host := "") (.inl kw_961) dX12_go_200 ?_
                      exact gr_HV F hf (by decide) (by decide) dX12_go_203
                    · have hf := hf.2 c148
                      refine gw_iload_n F 0 rfl rfl dX12_go_174 ?_
                      refine gw_bipush F rfl dX12_go_175 ?_
                      refine gw_icmp_ne F (tgt := 184) dX12_go_177 (by decide) h30 (by decide) (fun c157 => ?_) (fun c157 => ?_)
                      · have hf := hf.1 c157
                        refine gw_iconst F dX12_go_184 ?_
                        obtain ⟨s158, e159⟩ : ∃ z : sg_M, z = sg_up s20 64 7 1 := ⟨_, rfl⟩
                        have hf := hf s158 e159
                        refine gw_put0 F (so_64 hst) (by decide) rfl sg_lay_RX12 (j := 7) (by decide) (by decide) e159 tyX12_ok nmX12 rfl (tyX12_ok 7 (by decide)) rfl (host := "") (.inl kw_963) dX12_go_185 ?_
                        refine gw_aload_n F 1 rfl rfl (by decide) dX12_go_188 ?_
                        refine gw_iload_n F 0 rfl rfl dX12_go_189 ?_
                        obtain ⟨s160, e161⟩ : ∃ z : sg_M, z = sg_up s158 64 9 (s20 65 (s20 64 5)) := ⟨_, rfl⟩
                        have hf := hf s160 e161
                        refine gw_put0 F (so_64 hst) (by decide) rfl sg_lay_RX12 (j := 9) (by decide) h30 e161 tyX12_ok nmX12 rfl (tyX12_ok 9 (by decide)) rfl (host := "") (.inl kw_965) dX12_go_190 ?_
                        refine gw_aload_n F 1 rfl rfl (by decide) dX12_go_193 ?_
                        refine gw_dup F rfl dX12_go_194 ?_
                        refine gw_get0 F (so_64 hst) (by decide) rfl sg_lay_RX12 (j := 5) (by decide) rfl (host := "") (.inl kw_961) dX12_go_195 (fun h162 => ?_)
                        refine gw_iconst F dX12_go_198 ?_
                        refine gw_iadd F rfl dX12_go_199 ?_
                        obtain ⟨g163, hf⟩ := hf
                        obtain ⟨s164, e165⟩ : ∃ z : sg_M, z = sg_up s160 64 5 ((s160 64 5) + 1) := ⟨_, rfl⟩
                        have hf := hf s164 e165
                        refine gw_put0 F (so_64 hst) (by decide) rfl sg_lay_RX12 (j := 5) (by decide) g163 e165 tyX12_ok nmX12 rfl (tyX12_ok 5 (by decide)) rfl (host := "") (.inl kw_961) dX12_go_200 ?_
                        exact gr_HV F hf (by decide) (by decide) dX12_go_203
                      · have hf := hf.2 c157
                        refine gw_iconst F dX12_go_180 ?_
                        refine gw_goto F (tgt := 185) dX12_go_181 (by decide) ?_
                        obtain ⟨s166, e167⟩ : ∃ z : sg_M, z = sg_up s20 64 7 4 := ⟨_, rfl⟩
                        have hf := hf s166 e167
                        refine gw_put0 F (so_64 hst) (by decide) rfl sg_lay_RX12 (j := 7) (by decide) (by decide) e167 tyX12_ok nmX12 rfl (tyX12_ok 7 (by decide)) rfl (host := "") (.inl kw_963) dX12_go_185 ?_
                        refine gw_aload_n F 1 rfl rfl (by decide) dX12_go_188 ?_
                        refine gw_iload_n F 0 rfl rfl dX12_go_189 ?_
                        obtain ⟨s168, e169⟩ : ∃ z : sg_M, z = sg_up s166 64 9 (s20 65 (s20 64 5)) := ⟨_, rfl⟩
                        have hf := hf s168 e169
                        refine gw_put0 F (so_64 hst) (by decide) rfl sg_lay_RX12 (j := 9) (by decide) h30 e169 tyX12_ok nmX12 rfl (tyX12_ok 9 (by decide)) rfl (host := "") (.inl kw_965) dX12_go_190 ?_
                        refine gw_aload_n F 1 rfl rfl (by decide) dX12_go_193 ?_
                        refine gw_dup F rfl dX12_go_194 ?_
                        refine gw_get0 F (so_64 hst) (by decide) rfl sg_lay_RX12 (j := 5) (by decide) rfl (host := "") (.inl kw_961) dX12_go_195 (fun h170 => ?_)
                        refine gw_iconst F dX12_go_198 ?_
                        refine gw_iadd F rfl dX12_go_199 ?_
                        obtain ⟨g171, hf⟩ := hf
                        obtain ⟨s172, e173⟩ : ∃ z : sg_M, z = sg_up s168 64 5 ((s168 64 5) + 1) := ⟨_, rfl⟩
                        have hf := hf s172 e173
                        refine gw_put0 F (so_64 hst) (by decide) rfl sg_lay_RX12 (j := 5) (by decide) g171 e173 tyX12_ok nmX12 rfl (tyX12_ok 5 (by decide)) rfl (host := "") (.inl kw_961) dX12_go_200 ?_
                        exact gr_HV F hf (by decide) (by decide) dX12_go_203
    · have hf := hf.2 c26
      refine gw_aload_n F 0 rfl rfl (by decide) dX12_go_107 ?_
      refine gw_iconst F dX12_go_108 ?_
      obtain ⟨s174, e175⟩ : ∃ z : sg_M, z = sg_up s20 64 7 0 := ⟨_, rfl⟩
      have hf := hf s174 e175
      refine gw_put0 F (so_64 hst) (by decide) rfl sg_lay_RX12 (j := 7) (by decide) (by decide) e175 tyX12_ok nmX12 rfl (tyX12_ok 7 (by decide)) rfl (host := "") (.inl kw_963) dX12_go_109 ?_
      exact gr_HV F hf (by decide) (by decide) dX12_go_112
  refine gw_icmp_le F (tgt := 96) dX12_go_68 (by decide) h22 h23 (fun c176 => ?_) (fun c176 => ?_)
  · have hf := hf.1 c176
    refine gw_sub [0] rfl ?_
    exact J96  hf
  · have hf := hf.2 c176
    refine gw_aload_n F 0 rfl rfl (by decide) dX12_go_71 ?_
    refine gw_get0 F (so_64 hst) (by decide) rfl sg_lay_RX12 (j := 6) (by decide) rfl (host := "") (.inl kw_962) dX12_go_72 (fun h177 => ?_)
    refine gw_aload_n F 0 rfl rfl (by decide) dX12_go_75 ?_
    refine gw_get0 F (so_64 hst) (by decide) rfl sg_lay_RX12 (j := 4) (by decide) rfl (host := "") (.inl kw_960) dX12_go_76 (fun h178 => ?_)
    refine gw_icmp_lt F (tgt := 96) dX12_go_79 (by decide) h177 h178 (fun c179 => ?_) (fun c179 => ?_)
    · have hf := hf.1 c179
      refine gw_sub [0] rfl ?_
      exact J96  hf
    · have hf := hf.2 c179
      refine gw_aload_n F 0 rfl rfl (by decide) dX12_go_82 ?_
      refine gw_aload_n F 0 rfl rfl (by decide) dX12_go_83 ?_
      refine gw_get0 F (so_64 hst) (by decide) rfl sg_lay_RX12 (j := 4) (by decide) rfl (host := "") (.inl kw_960) dX12_go_84 (fun h180 => ?_)
      obtain ⟨s181, e182⟩ : ∃ z : sg_M, z = sg_up s20 64 6 (s20 64 4) := ⟨_, rfl⟩
      have hf := hf s181 e182
      refine gw_put0 F (so_64 hst) (by decide) rfl sg_lay_RX12 (j := 6) (by decide) h180 e182 tyX12_ok nmX12 rfl (tyX12_ok 6 (by decide)) rfl (host := "") (.inl kw_962) dX12_go_87 ?_
      refine gw_aload_n F 0 rfl rfl (by decide) dX12_go_90 ?_
      refine gw_iconst F dX12_go_91 ?_
      obtain ⟨s183, e184⟩ : ∃ z : sg_M, z = sg_up s181 64 7 1 := ⟨_, rfl⟩
      have hf := hf s183 e184
      refine gw_put0 F (so_64 hst) (by decide) rfl sg_lay_RX12 (j := 7) (by decide) (by decide) e184 tyX12_ok nmX12 rfl (tyX12_ok 7 (by decide)) rfl (host := "") (.inl kw_963) dX12_go_92 ?_
      exact gr_HV F hf (by decide) (by decide) dX12_go_95
