theorem dX12_isBend_0 : decode cX12_isBend 0 = .ok (.iload_n 0, 1) := by decide +kernel
theorem dX12_isBend_1 : decode cX12_isBend 1 = .ok (.sipush (-9999), 3) := by decide +kernel
theorem dX12_isBend_4 : decode cX12_isBend 4 = .ok (.sipush 9999, 3) := by decide +kernel
theorem dX12_isBend_7 : decode cX12_isBend 7 = .ok (.invokestatic 155, 3) := by decide +kernel
theorem dX12_isBend_10 : decode cX12_isBend 10 = .ok (.ifCond .eq 20, 3) := by decide +kernel
theorem dX12_isBend_13 : decode cX12_isBend 13 = .ok (.iload_n 1, 1) := by decide +kernel
theorem dX12_isBend_14 : decode cX12_isBend 14 = .ok (.sipush (-9999), 3) := by decide +kernel
theorem dX12_isBend_17 : decode cX12_isBend 17 = .ok (.sipush 9999, 3) := by decide +kernel
theorem dX12_isBend_20 : decode cX12_isBend 20 = .ok (.invokestatic 155, 3) := by decide +kernel
theorem dX12_isBend_23 : decode cX12_isBend 23 = .ok (.ifCond .eq 7, 3) := by decide +kernel
theorem dX12_isBend_26 : decode cX12_isBend 26 = .ok (.iconst 1, 1) := by decide +kernel
theorem dX12_isBend_27 : decode cX12_isBend 27 = .ok (.goto 4, 3) := by decide +kernel
theorem dX12_isBend_30 : decode cX12_isBend 30 = .ok (.iconst 0, 1) := by decide +kernel
theorem dX12_isBend_31 : decode cX12_isBend 31 = .ok (.ireturn, 1) := by decide +kernel
theorem hcX12_isBend : yX12_isBend.cls ≠ "java/lang/invoke/MethodHandle" ∧ yX12_isBend.cls ≠ "java/lang/invoke/VarHandle" ∧ (parseMethodDescriptor yX12_isBend.desc).map (fun d => d.parameters.length) = some 2 := ⟨by decide +kernel, by decide +kernel, by decide +kernel⟩
def fX12_isBend (x0 : Int) (x1 : Int) (Q : Int → Prop) : Prop := fX12_isIn x0 (-9999) 9999 (fun u1 => ((u1 = 0 → Q 0) ∧ (¬ (u1 = 0) → fX12_isIn x1 (-9999) 9999 (fun u4 => ((u4 = 0 → Q 0) ∧ (¬ (u4 = 0) → Q 1))))))
set_option maxHeartbeats 4000000 in
set_option maxRecDepth 100000 in
theorem CX12_isBend {l : Launch} {G : sg_G} {La : sg_L} {s0 : sg_M} {x0 : Int} (r0 : sg_R x0) {x1 : Int} (r1 : sg_R x1) {Q : Int → Prop} (hf : fX12_isBend x0 x1 Q) : sg_C l G yX12_isBend cX12_isBend 2 (some .boolean) 2 0 0 La s0 [sg_i x0, sg_i x1] (sg_PZ La s0 Q) := by
  refine sg_body (by decide +kernel) (Nat.le_of_ble_eq_true rfl) ?_
  intro p e s m args below meth c F hnm
  unfold fX12_isBend at hf
  show sg_W p l e (sg_rm 2 0 0) s m args below meth c (MQ below (sg_Q (some .boolean) G La s.heap.size (sg_PZ La s0 Q)) args s 0 0 (sg_A La s.heap.size)) 2 G (sg_A La s.heap.size) La s0 0 0 0 [(0, sg_i x0), (1, sg_i x1)] []
  refine gw_iload_n F 0 rfl rfl dX12_isBend_0 ?_
  refine gw_sipush F rfl dX12_isBend_1 ?_
  refine gw_sipush F rfl dX12_isBend_4 ?_
  refine gk_PZ F (gc_S F (S := []) (As := [sg_i x0, sg_i (-9999), sg_i 9999]) (CX12_isIn r0 (by decide) (by decide) hf) kw_1075 kw_103 kw_1073 kw_1074 hcX12_isIn ⟨by decide, by decide⟩ rfl rfl (Nat.le_of_ble_eq_true rfl) ⟨by decide, by decide⟩ dX12_isBend_7) (fun u1 h2 hf => ?_)
  refine gw_if_eq F (tgt := 30) dX12_isBend_10 (by decide) (sg_B_R h2) (fun c3 => ?_) (fun c3 => ?_)
  · have hf := hf.1 c3
    refine gw_iconst F dX12_isBend_30 ?_
    exact gr_PZ F (by decide) hf (by decide) (by decide) dX12_isBend_31
  · have hf := hf.2 c3
    refine gw_iload_n F 1 rfl rfl dX12_isBend_13 ?_
    refine gw_sipush F rfl dX12_isBend_14 ?_
    refine gw_sipush F rfl dX12_isBend_17 ?_
    refine gk_PZ F (gc_S F (S := []) (As := [sg_i x1, sg_i (-9999), sg_i 9999]) (CX12_isIn r1 (by decide) (by decide) hf) kw_1075 kw_103 kw_1073 kw_1074 hcX12_isIn ⟨by decide, by decide⟩ rfl rfl (Nat.le_of_ble_eq_true rfl) ⟨by decide, by decide⟩ dX12_isBend_20) (fun u4 h5 hf => ?_)
    refine gw_if_eq F (tgt := 30) dX12_isBend_23 (by decide) (sg_B_R h5) (fun c6 => ?_) (fun c6 => ?_)
    · have hf := hf.1 c6
      refine gw_iconst F dX12_isBend_30 ?_
      exact gr_PZ F (by decide) hf (by decide) (by decide) dX12_isBend_31
    · have hf := hf.2 c6
      refine gw_iconst F dX12_isBend_26 ?_
      refine gw_goto F (tgt := 31) dX12_isBend_27 (by decide) ?_
      exact gr_PZ F (by decide) hf (by decide) (by decide) dX12_isBend_31

theorem dX12_voiceOf_0 : decode cX12_voiceOf 0 = .ok (.aload_n 0, 1) := by decide +kernel
theorem dX12_voiceOf_1 : decode cX12_voiceOf 1 = .ok (.iconst 0, 1) := by decide +kernel
theorem dX12_voiceOf_2 : decode cX12_voiceOf 2 = .ok (.iload_n 1, 1) := by decide +kernel
theorem dX12_voiceOf_3 : decode cX12_voiceOf 3 = .ok (.iload_n 2, 1) := by decide +kernel
theorem dX12_voiceOf_4 : decode cX12_voiceOf 4 = .ok (.iconst 0, 1) := by decide +kernel
theorem dX12_voiceOf_5 : decode cX12_voiceOf 5 = .ok (.iconst 0, 1) := by decide +kernel
theorem dX12_voiceOf_6 : decode cX12_voiceOf 6 = .ok (.invokevirtual 285, 3) := by decide +kernel
theorem dX12_voiceOf_9 : decode cX12_voiceOf 9 = .ok (.ireturn, 1) := by decide +kernel
theorem hcX12_voiceOf : yX12_voiceOf.cls ≠ "java/lang/invoke/MethodHandle" ∧ yX12_voiceOf.cls ≠ "java/lang/invoke/VarHandle" ∧ (parseMethodDescriptor yX12_voiceOf.desc).map (fun d => d.parameters.length) = some 2 := ⟨by decide +kernel, by decide +kernel, by decide +kernel⟩
def fX12_voiceOf (s0 : sg_M) (x1 : Int) (x2 : Int) (Q : Int → sg_M → Prop) : Prop := fX12_voiceBy s0 0 x1 x2 0 0 (fun u1 s3 => Q u1 s3)
set_option maxHeartbeats 4000000 in
set_option maxRecDepth 100000 in
theorem CX12_voiceOf {l : Launch} {G : sg_G} {La : sg_L} {s0 : sg_M} (hst : sg_St La) {x1 : Int} (r1 : sg_R x1) {x2 : Int} (r2 : sg_R x2) {Q : Int → sg_M → Prop} (hf : fX12_voiceOf s0 x1 x2 Q) : sg_C l G yX12_voiceOf cX12_voiceOf 3 (some .int) 5 0 0 La s0 [sg_r 64, sg_i x1, sg_i x2] (sg_HI La Q) := by
  refine sg_body (by decide +kernel) (Nat.le_of_ble_eq_true rfl) ?_
  intro p e s m args below meth c F hnm
  unfold fX12_voiceOf at hf
  show sg_W p l e (sg_rm 5 0 0) s m args below meth c (MQ below (sg_Q (some .int) G La s.heap.size (sg_HI La Q)) args s 0 0 (sg_A La s.heap.size)) 3 G (sg_A La s.heap.size) La s0 0 0 0 [(0, sg_r 64), (1, sg_i x1), (2, sg_i x2)] []
  refine gw_aload_n F 0 rfl rfl (by decide) dX12_voiceOf_0 ?_
  refine gw_iconst F dX12_voiceOf_1 ?_
  refine gw_iload_n F 1 rfl rfl dX12_voiceOf_2 ?_
  refine gw_iload_n F 2 rfl rfl dX12_voiceOf_3 ?_
  refine gw_iconst F dX12_voiceOf_4 ?_
  refine gw_iconst F dX12_voiceOf_5 ?_
  refine gk_HI F (gc_V F (S := []) (As := [sg_i 0, sg_i x1, sg_i x2, sg_i 0, sg_i 0]) (T := TX12) (N := 62) (CX12_voiceBy hst (by decide) r1 r2 (by decide) (by decide) hf) (so_64 hst) (by decide) rfl kw_1196 kw_103 kw_1194 kw_1195 kw_69 hcX12_voiceBy ⟨by decide, by decide⟩ rfl rfl (Nat.le_of_ble_eq_true rfl) ⟨by decide, by decide⟩ dX12_voiceOf_6) (fun u1 s3 h2 hf => ?_)
  exact gr_HI F h2 hf (by decide) (by decide) dX12_voiceOf_9

theorem dX12_sing_0 : decode cX12_sing 0 = .ok (.iconst 0, 1) := by decide +kernel
theorem dX12_sing_1 : decode cX12_sing 1 = .ok (.istore_n 1, 1) := by decide +kernel
theorem dX12_sing_2 : decode cX12_sing 2 = .ok (.iload_n 1, 1) := by decide +kernel
theorem dX12_sing_3 : decode cX12_sing 3 = .ok (.aload_n 0, 1) := by decide +kernel
theorem dX12_sing_4 : decode cX12_sing 4 = .ok (.invokevirtual 320, 3) := by decide +kernel
theorem dX12_sing_7 : decode cX12_sing 7 = .ok (.if_icmp .ge 29, 3) := by decide +kernel
theorem dX12_sing_10 : decode cX12_sing 10 = .ok (.aload_n 0, 1) := by decide +kernel
theorem dX12_sing_11 : decode cX12_sing 11 = .ok (.getfield 56, 3) := by decide +kernel
theorem dX12_sing_14 : decode cX12_sing 14 = .ok (.iload_n 1, 1) := by decide +kernel
theorem dX12_sing_15 : decode cX12_sing 15 = .ok (.aload_n 0, 1) := by decide +kernel
theorem dX12_sing_16 : decode cX12_sing 16 = .ok (.aload_n 0, 1) := by decide +kernel
theorem dX12_sing_17 : decode cX12_sing 17 = .ok (.iload_n 1, 1) := by decide +kernel
theorem dX12_sing_18 : decode cX12_sing 18 = .ok (.invokevirtual 326, 3) := by decide +kernel
theorem dX12_sing_21 : decode cX12_sing 21 = .ok (.aload_n 0, 1) := by decide +kernel
theorem dX12_sing_22 : decode cX12_sing 22 = .ok (.iload_n 1, 1) := by decide +kernel
theorem dX12_sing_23 : decode cX12_sing 23 = .ok (.invokevirtual 329, 3) := by decide +kernel
theorem dX12_sing_26 : decode cX12_sing 26 = .ok (.invokevirtual 317, 3) := by decide +kernel
theorem dX12_sing_29 : decode cX12_sing 29 = .ok (.iastore, 1) := by decide +kernel
theorem dX12_sing_30 : decode cX12_sing 30 = .ok (.iinc 1 1, 3) := by decide +kernel
theorem dX12_sing_33 : decode cX12_sing 33 = .ok (.goto (-31), 3) := by decide +kernel
theorem dX12_sing_36 : decode cX12_sing 36 = .ok (.return_, 1) := by decide +kernel
theorem hcX12_sing : yX12_sing.cls ≠ "java/lang/invoke/MethodHandle" ∧ yX12_sing.cls ≠ "java/lang/invoke/VarHandle" ∧ (parseMethodDescriptor yX12_sing.desc).map (fun d => d.parameters.length) = some 0 := ⟨by decide +kernel, by decide +kernel, by decide +kernel⟩
def fX12_sing_L2  (Q : sg_M → Prop) : Nat → sg_M → Int → Prop
  | 0, _, _ => False
  | n_2 + 1, s_2, x1_2 => fX12_bends s_2 (fun u1 => ((u1 ≤ x1_2 → Q s_2) ∧ (¬ (u1 ≤ x1_2) → fX12_aOf s_2 x1_2 (fun u5 => fX12_bOf s_2 x1_2 (fun u7 => fX12_voiceOf s_2 u5 u7 (fun u9 s11 => (0 ≤ x1_2 ∧ x1_2 < 40) ∧ ∀ s13 : sg_M, s13 = sg_up s11 80 x1_2 u9 → sg_R (x1_2 + 1) ∧ (fX12_sing_L2  Q n_2) s13 (x1_2 + 1)))))))
def fX12_sing (s0 : sg_M) (Q : sg_M → Prop) : Prop := (∃ n16 : Nat, fX12_sing_L2  Q n16 s0 0)
set_option maxHeartbeats 4000000 in
set_option maxRecDepth 100000 in
theorem CX12_sing {l : Launch} {G : sg_G} {La : sg_L} {s0 : sg_M} (hst : sg_St La) {Q : sg_M → Prop} (hf : fX12_sing s0 Q) : sg_C l G yX12_sing cX12_sing 2 (none) 6 0 0 La s0 [sg_r 64] (sg_HV La Q) := by
  refine sg_body (by decide +kernel) (Nat.le_of_ble_eq_true rfl) ?_
  intro p e s m args below meth c F hnm
  unfold fX12_sing at hf
  show sg_W p l e (sg_rm 6 0 0) s m args below meth c (MQ below (sg_Q (none) G La s.heap.size (sg_HV La Q)) args s 0 0 (sg_A La s.heap.size)) 2 G (sg_A La s.heap.size) La s0 0 0 0 [(0, sg_r 64)] []
  refine gw_iconst F dX12_sing_0 ?_
  refine gw_istore_n F rfl (by decide) rfl dX12_sing_1 ?_
  have L2 : ∀ n_2 : Nat, ∀ (s_2 : sg_M) (x1_2 : Int), sg_R x1_2 → fX12_sing_L2  Q n_2 s_2 x1_2 → sg_W p l e (sg_rm 6 0 0) s m args below meth c (MQ below (sg_Q (none) G La s.heap.size (sg_HV La Q)) args s 0 0 (sg_A La s.heap.size)) 2 G (sg_A La s.heap.size) La s_2 0 0 2 [(0, sg_r 64), (1, sg_i x1_2)] [] := by
    intro n_2
    induction n_2 with
    | zero => intro s_2 x1_2 r1_2 hf; exact hf.elim
    | succ n_2 ih =>
      intro s_2 x1_2 r1_2 hf
      unfold fX12_sing_L2 at hf
      refine gw_iload_n F 1 rfl rfl dX12_sing_2 ?_
      refine gw_aload_n F 0 rfl rfl (by decide) dX12_sing_3 ?_
      refine gk_PI F (gc_V F (S := [sg_i x1_2]) (As := []) (T := TX12) (N := 62) (CX12_bends hst hf) (so_64 hst) (by decide) rfl kw_1203 kw_103 kw_1201 kw_1202 kw_70 hcX12_bends ⟨by decide, by decide⟩ rfl rfl (Nat.le_of_ble_eq_true rfl) ⟨by decide, by decide⟩ dX12_sing_4) (fun u1 h2 hf => ?_)
      refine gw_icmp_ge F (tgt := 36) dX12_sing_7 (by decide) r1_2 h2 (fun c3 => ?_) (fun c3 => ?_)
      · have hf := hf.1 c3
        exact gr_HV F hf (by decide) (by decide) dX12_sing_36
      · have hf := hf.2 c3
        refine gw_aload_n F 0 rfl rfl (by decide) dX12_sing_10 ?_
        refine gw_get7 F (so_64 hst) (by decide) rfl sg_lay_RX12 (j := 46) (by decide) (o1 := 80) (by first | rfl | omega) rfl (host := "") (.inl kw_993) dX12_sing_11 (fun h4 => ?_)
        refine gw_iload_n F 1 rfl rfl dX12_sing_14 ?_
        refine gw_aload_n F 0 rfl rfl (by decide) dX12_sing_15 ?_
        refine gw_aload_n F 0 rfl rfl (by decide) dX12_sing_16 ?_
        refine gw_iload_n F 1 rfl rfl dX12_sing_17 ?_
        refine gk_PI F (gc_V F (S := [sg_r 64, sg_i x1_2, sg_r 80]) (As := [sg_i x1_2]) (T := TX12) (N := 62) (CX12_aOf hst r1_2 hf) (so_64 hst) (by decide) rfl kw_1213 kw_103 kw_1211 kw_1212 kw_72 hcX12_aOf ⟨by decide, by decide⟩ rfl rfl (Nat.le_of_ble_eq_true rfl) ⟨by decide, by decide⟩ dX12_sing_18) (fun u5 h6 hf => ?_)
        refine gw_aload_n F 0 rfl rfl (by decide) dX12_sing_21 ?_
        refine gw_iload_n F 1 rfl rfl dX12_sing_22 ?_
        refine gk_PI F (gc_V F (S := [sg_i u5, sg_r 64, sg_i x1_2, sg_r 80]) (As := [sg_i x1_2]) (T := TX12) (N := 62) (CX12_bOf hst r1_2 hf) (so_64 hst) (by decide) rfl kw_1216 kw_103 kw_1214 kw_1215 kw_73 hcX12_bOf ⟨by decide, by decide⟩ rfl rfl (Nat.le_of_ble_eq_true rfl) ⟨by decide, by decide⟩ dX12_sing_23) (fun u7 h8 hf => ?_)
        refine gk_HI F (gc_V F (S := [sg_i x1_2, sg_r 80]) (As := [sg_i u5, sg_i u7]) (T := TX12) (N := 62) (CX12_voiceOf hst h6 h8 hf) (so_64 hst) (by decide) rfl kw_1193 kw_103 kw_1191 kw_1192 kw_68 hcX12_voiceOf ⟨by decide, by decide⟩ rfl rfl (Nat.le_of_ble_eq_true rfl) ⟨by decide, by decide⟩ dX12_sing_26) (fun u9 s11 h10 hf => ?_)
        obtain ⟨⟨b120, b121⟩, hf⟩ := hf
        obtain ⟨s13, e14⟩ : ∃ z : sg_M, z = sg_up s11 80 x1_2 u9 := ⟨_, rfl⟩
        have hf := hf s13 e14
        refine gw_iast F (sa_80 hst) b120 b121 h10 e14 dX12_sing_29 ?_
        refine gw_iinc F (z := (x1_2 + 1)) 1 rfl (by omega) (by decide) rfl dX12_sing_30 ?_
        refine gw_goto F (tgt := 2) dX12_sing_33 (by decide) ?_
        obtain ⟨g15, hf⟩ := hf
        refine gw_sub [1, 0] rfl ?_
        exact ih s13 (x1_2 + 1) g15 hf
  obtain ⟨n16, hf⟩ := hf
  refine gw_sub [1, 0] rfl ?_
  refine L2   n16 s0 0 (by decide) hf

theorem dX12_write_0 : decode cX12_write 0 = .ok (.aload_n 0, 1) := by decide +kernel
theorem dX12_write_1 : decode cX12_write 1 = .ok (.iconst 0, 1) := by decide +kernel
theorem dX12_write_2 : decode cX12_write 2 = .ok (.putfield 84, 3) := by decide +kernel
theorem dX12_write_5 : decode cX12_write 5 = .ok (.aload_n 0, 1) := by decide +kernel
theorem dX12_write_6 : decode cX12_write 6 = .ok (.invokevirtual 175, 3) := by decide +kernel
theorem dX12_write_9 : decode cX12_write 9 = .ok (.iload_n 1, 1) := by decide +kernel
theorem dX12_write_10 : decode cX12_write 10 = .ok (.iload_n 2, 1) := by decide +kernel
theorem dX12_write_11 : decode cX12_write 11 = .ok (.invokestatic 232, 3) := by decide +kernel
theorem dX12_write_14 : decode cX12_write 14 = .ok (.ifCond .eq 12, 3) := by decide +kernel
theorem dX12_write_17 : decode cX12_write 17 = .ok (.aload_n 0, 1) := by decide +kernel
theorem dX12_write_18 : decode cX12_write 18 = .ok (.invokevirtual 320, 3) := by decide +kernel
theorem dX12_write_21 : decode cX12_write 21 = .ok (.bipush 40, 2) := by decide +kernel
theorem dX12_write_23 : decode cX12_write 23 = .ok (.if_icmp .ne 5, 3) := by decide +kernel
theorem dX12_write_26 : decode cX12_write 26 = .ok (.iconst (-1), 1) := by decide +kernel
theorem dX12_write_27 : decode cX12_write 27 = .ok (.ireturn, 1) := by decide +kernel
theorem dX12_write_28 : decode cX12_write 28 = .ok (.aload_n 0, 1) := by decide +kernel
theorem dX12_write_29 : decode cX12_write 29 = .ok (.getfield 13, 3) := by decide +kernel
theorem dX12_write_32 : decode cX12_write 32 = .ok (.sipush 1702, 3) := by decide +kernel
theorem dX12_write_35 : decode cX12_write 35 = .ok (.iconst 2, 1) := by decide +kernel
theorem dX12_write_36 : decode cX12_write 36 = .ok (.aload_n 0, 1) := by decide +kernel
theorem dX12_write_37 : decode cX12_write 37 = .ok (.invokevirtual 320, 3) := by decide +kernel
theorem dX12_write_40 : decode cX12_write 40 = .ok (.imul, 1) := by decide +kernel
theorem dX12_write_41 : decode cX12_write 41 = .ok (.iadd, 1) := by decide +kernel
theorem dX12_write_42 : decode cX12_write 42 = .ok (.iload_n 1, 1) := by decide +kernel
theorem dX12_write_43 : decode cX12_write 43 = .ok (.iastore, 1) := by decide +kernel
theorem dX12_write_44 : decode cX12_write 44 = .ok (.aload_n 0, 1) := by decide +kernel
theorem dX12_write_45 : decode cX12_write 45 = .ok (.getfield 13, 3) := by decide +kernel
theorem dX12_write_48 : decode cX12_write 48 = .ok (.sipush 1702, 3) := by decide +kernel
theorem dX12_write_51 : decode cX12_write 51 = .ok (.iconst 2, 1) := by decide +kernel
theorem dX12_write_52 : decode cX12_write 52 = .ok (.aload_n 0, 1) := by decide +kernel
theorem dX12_write_53 : decode cX12_write 53 = .ok (.invokevirtual 320, 3) := by decide +kernel
theorem dX12_write_56 : decode cX12_write 56 = .ok (.imul, 1) := by decide +kernel
theorem dX12_write_57 : decode cX12_write 57 = .ok (.iadd, 1) := by decide +kernel
theorem dX12_write_58 : decode cX12_write 58 = .ok (.iconst 1, 1) := by decide +kernel
theorem dX12_write_59 : decode cX12_write 59 = .ok (.iadd, 1) := by decide +kernel
theorem dX12_write_60 : decode cX12_write 60 = .ok (.iload_n 2, 1) := by decide +kernel
theorem dX12_write_61 : decode cX12_write 61 = .ok (.iastore, 1) := by decide +kernel
theorem dX12_write_62 : decode cX12_write 62 = .ok (.aload_n 0, 1) := by decide +kernel
theorem dX12_write_63 : decode cX12_write 63 = .ok (.getfield 13, 3) := by decide +kernel
theorem dX12_write_66 : decode cX12_write 66 = .ok (.sipush 1701, 3) := by decide +kernel
theorem dX12_write_69 : decode cX12_write 69 = .ok (.dup2, 1) := by decide +kernel
theorem dX12_write_70 : decode cX12_write 70 = .ok (.iaload, 1) := by decide +kernel
theorem dX12_write_71 : decode cX12_write 71 = .ok (.iconst 1, 1) := by decide +kernel
theorem dX12_write_72 : decode cX12_write 72 = .ok (.iadd, 1) := by decide +kernel
theorem dX12_write_73 : decode cX12_write 73 = .ok (.iastore, 1) := by decide +kernel
theorem dX12_write_74 : decode cX12_write 74 = .ok (.aload_n 0, 1) := by decide +kernel
theorem dX12_write_75 : decode cX12_write 75 = .ok (.invokevirtual 320, 3) := by decide +kernel
theorem dX12_write_78 : decode cX12_write 78 = .ok (.iconst 1, 1) := by decide +kernel
theorem dX12_write_79 : decode cX12_write 79 = .ok (.isub, 1) := by decide +kernel
theorem dX12_write_80 : decode cX12_write 80 = .ok (.ireturn, 1) := by decide +kernel
theorem hcX12_write : yX12_write.cls ≠ "java/lang/invoke/MethodHandle" ∧ yX12_write.cls ≠ "java/lang/invoke/VarHandle" ∧ (parseMethodDescriptor yX12_write.desc).map (fun d => d.parameters.length) = some 2 := ⟨by decide +kernel, by decide +kernel, by decide +kernel⟩
def fX12_write (s0 : sg_M) (x1 : Int) (x2 : Int) (Q : Int → sg_M → Prop) : Prop := ∀ s1 : sg_M, s1 = sg_up s0 64 0 0 → fX12_lay s1 (fun s3 => fX12_isBend x1 x2 (fun u4 => ((u4 = 0 → Q (-1) s3) ∧ (¬ (u4 = 0) → fX12_bends s3 (fun u7 => ((u7 ≠ 40 → fX12_bends s3 (fun u11 => (0 ≤ (1702 + (2 * u11)) ∧ (1702 + (2 * u11)) < 2040) ∧ ∀ s14 : sg_M, s14 = sg_up s3 66 (1702 + (2 * u11)) x1 → fX12_bends s14 (fun u17 => (0 ≤ ((1702 + (2 * u17)) + 1) ∧ ((1702 + (2 * u17)) + 1) < 2040) ∧ ∀ s20 : sg_M, s20 = sg_up s14 66 ((1702 + (2 * u17)) + 1) x2 → sg_R ((s20 66 1701) + 1) ∧ ∀ s25 : sg_M, s25 = sg_up s20 66 1701 ((s20 66 1701) + 1) → fX12_bends s25 (fun u27 => sg_R (u27 - 1) ∧ Q (u27 - 1) s25)))) ∧ (u7 = 40 → Q (-1) s3)))))))
set_option maxHeartbeats 4000000 in
set_option maxRecDepth 100000 in
theorem CX12_write {l : Launch} {G : sg_G} {La : sg_L} {s0 : sg_M} (hst : sg_St La) {x1 : Int} (r1 : sg_R x1) {x2 : Int} (r2 : sg_R x2) {Q : Int → sg_M → Prop} (hf : fX12_write s0 x1 x2 Q) : sg_C l G yX12_write cX12_write 3 (some .int) 3 0 0 La s0 [sg_r 64, sg_i x1, sg_i x2] (sg_HI La Q) := by
  refine sg_body (by decide +kernel) (Nat.le_of_ble_eq_true rfl) ?_
  intro p e s m args below meth c F hnm
  unfold fX12_write at hf
  show sg_W p l e (sg_rm 3 0 0) s m args below meth c (MQ below (sg_Q (some .int) G La s.heap.size (sg_HI La Q)) args s 0 0 (sg_A La s.heap.size)) 3 G (sg_A La s.heap.size) La s0 0 0 0 [(0, sg_r 64), (1, sg_i x1), (2, sg_i x2)] []
  refine gw_aload_n F 0 rfl rfl (by decide) dX12_write_0 ?_
  refine gw_iconst F dX12_write_1 ?_
  obtain ⟨s1, e2⟩ : ∃ z : sg_M, z = sg_up s0 64 0 0 := ⟨_, rfl⟩
  have hf := hf s1 e2
  refine gw_put0 F (so_64 hst) (by decide) rfl sg_lay_RX12 (j := 0) (by decide) (by decide) e2 tyX12_ok nmX12 rfl (tyX12_ok 0 (by decide)) rfl (host := "") (.inl kw_947) dX12_write_2 ?_
  refine gw_aload_n F 0 rfl rfl (by decide) dX12_write_5 ?_
  refine gk_HV F (gc_V F (S := []) (As := []) (T := TX12) (N := 62) (CX12_lay hst hf) (so_64 hst) (by decide) rfl kw_1034 kw_103 kw_1032 kw_1033 kw_41 hcX12_lay ⟨by decide, by decide⟩ rfl rfl (Nat.le_of_ble_eq_true rfl) ⟨by decide, by decide⟩ dX12_write_6) (fun s3 hf => ?_)
  refine gw_iload_n F 1 rfl rfl dX12_write_9 ?_
  refine gw_iload_n F 2 rfl rfl dX12_write_10 ?_
  refine gk_PZ F (gc_S F (S := []) (As := [sg_i x1, sg_i x2]) (CX12_isBend r1 r2 hf) kw_1108 kw_103 kw_1106 kw_1107 hcX12_isBend ⟨by decide, by decide⟩ rfl rfl (Nat.le_of_ble_eq_true rfl) ⟨by decide, by decide⟩ dX12_write_11) (fun u4 h5 hf => ?_)
  refine gw_if_eq F (tgt := 26) dX12_write_14 (by decide) (sg_B_R h5) (fun c6 => ?_) (fun c6 => ?_)
  · have hf := hf.1 c6
    refine gw_iconst F dX12_write_26 ?_
    exact gr_HI F (by decide) hf (by decide) (by decide) dX12_write_27
  · have hf := hf.2 c6
    refine gw_aload_n F 0 rfl rfl (by decide) dX12_write_17 ?_
    refine gk_PI F (gc_V F (S := []) (As := []) (T := TX12) (N := 62) (CX12_bends hst hf) (so_64 hst) (by decide) rfl kw_1203 kw_103 kw_1201 kw_1202 kw_70 hcX12_bends ⟨by decide, by decide⟩ rfl rfl (Nat.le_of_ble_eq_true rfl) ⟨by decide, by decide⟩ dX12_write_18) (fun u7 h8 hf => ?_)
    refine gw_bipush F rfl dX12_write_21 ?_
    refine gw_icmp_ne F (tgt := 28) dX12_write_23 (by decide) h8 (by decide) (fun c9 => ?_) (fun c9 => ?_)
    · have hf := hf.1 c9
      refine gw_aload_n F 0 rfl rfl (by decide) dX12_write_28 ?_
      refine gw_get7 F (so_64 hst) (by decide) rfl sg_lay_RX12 (j := 14) (by decide) (o1 := 66) (by first | rfl | omega) rfl (host := "") (.inl kw_961) dX12_write_29 (fun h10 => ?_)
      refine gw_sipush F rfl dX12_write_32 ?_
      refine gw_iconst F dX12_write_35 ?_
      refine gw_aload_n F 0 rfl rfl (by decide) dX12_write_36 ?_
      refine gk_PI F (gc_V F (S := [sg_i 2, sg_i 1702, sg_r 66]) (As := []) (T := TX12) (N := 62) (CX12_bends hst hf) (so_64 hst) (by decide) rfl kw_1203 kw_103 kw_1201 kw_1202 kw_70 hcX12_bends ⟨by decide, by decide⟩ rfl rfl (Nat.le_of_ble_eq_true rfl) ⟨by decide, by decide⟩ dX12_write_37) (fun u11 h12 hf => ?_)
      refine gw_imul F rfl dX12_write_40 ?_
      refine gw_iadd F rfl dX12_write_41 ?_
      refine gw_iload_n F 1 rfl rfl dX12_write_42 ?_
      obtain ⟨⟨b130, b131⟩, hf⟩ := hf
      obtain ⟨s14, e15⟩ : ∃ z : sg_M, z = sg_up s3 66 (1702 + (2 * u11)) x1 := ⟨_, rfl⟩
      have hf := hf s14 e15
      refine gw_iast F (sa_66 hst) b130 b131 r1 e15 dX12_write_43 ?_
      refine gw_aload_n F 0 rfl rfl (by decide) dX12_write_44 ?_
      refine gw_get7 F (so_64 hst) (by decide) rfl sg_lay_RX12 (j := 14) (by decide) (o1 := 66) (by first | rfl | omega) rfl (host := "") (.inl kw_961) dX12_write_45 (fun h16 => ?_)
      refine gw_sipush F rfl dX12_write_48 ?_
      refine gw_iconst F dX12_write_51 ?_
      refine gw_aload_n F 0 rfl rfl (by decide) dX12_write_52 ?_
      refine gk_PI F (gc_V F (S := [sg_i 2, sg_i 1702, sg_r 66]) (As := []) (T := TX12) (N := 62) (CX12_bends hst hf) (so_64 hst) (by decide) rfl kw_1203 kw_103 kw_1201 kw_1202 kw_70 hcX12_bends ⟨by decide, by decide⟩ rfl rfl (Nat.le_of_ble_eq_true rfl) ⟨by decide, by decide⟩ dX12_write_53) (fun u17 h18 hf => ?_)
      refine gw_imul F rfl dX12_write_56 ?_
      refine gw_iadd F rfl dX12_write_57 ?_
      refine gw_iconst F dX12_write_58 ?_
      refine gw_iadd F rfl dX12_write_59 ?_
      refine gw_iload_n F 2 rfl rfl dX12_write_60 ?_
      obtain ⟨⟨b190, b191⟩, hf⟩ := hf
      obtain ⟨s20, e21⟩ : ∃ z : sg_M, z = sg_up s14 66 ((1702 + (2 * u17)) + 1) x2 := ⟨_, rfl⟩
      have hf := hf s20 e21
      refine gw_iast F (sa_66 hst) b190 b191 r2 e21 dX12_write_61 ?_
      refine gw_aload_n F 0 rfl rfl (by decide) dX12_write_62 ?_
      refine gw_get7 F (so_64 hst) (by decide) rfl sg_lay_RX12 (j := 14) (by decide) (o1 := 66) (by first | rfl | omega) rfl (host := "") (.inl kw_961) dX12_write_63 (fun h22 => ?_)
      refine gw_sipush F rfl dX12_write_66 ?_
      refine gw_dup2 F rfl rfl dX12_write_69 ?_
      refine gw_iald F (sa_66 hst) (by decide) (by decide) dX12_write_70 (fun h23 => ?_)
      refine gw_iconst F dX12_write_71 ?_
      refine gw_iadd F rfl dX12_write_72 ?_
      obtain ⟨g24, hf⟩ := hf
      obtain ⟨s25, e26⟩ : ∃ z : sg_M, z = sg_up s20 66 1701 ((s20 66 1701) + 1) := ⟨_, rfl⟩
      have hf := hf s25 e26
      refine gw_iast F (sa_66 hst) (by decide) (by decide) g24 e26 dX12_write_73 ?_
      refine gw_aload_n F 0 rfl rfl (by decide) dX12_write_74 ?_
      refine gk_PI F (gc_V F (S := []) (As := []) (T := TX12) (N := 62) (CX12_bends hst hf) (so_64 hst) (by decide) rfl kw_1203 kw_103 kw_1201 kw_1202 kw_70 hcX12_bends ⟨by decide, by decide⟩ rfl rfl (Nat.le_of_ble_eq_true rfl) ⟨by decide, by decide⟩ dX12_write_75) (fun u27 h28 hf => ?_)
      refine gw_iconst F dX12_write_78 ?_
      refine gw_isub F rfl dX12_write_79 ?_
      obtain ⟨g29, hf⟩ := hf
      exact gr_HI F g29 hf (by decide) (by decide) dX12_write_80
    · have hf := hf.2 c9
      refine gw_iconst F dX12_write_26 ?_
      exact gr_HI F (by decide) hf (by decide) (by decide) dX12_write_27

theorem dX12_image_0 : decode cX12_image 0 = .ok (.aload_n 0, 1) := by decide +kernel
theorem dX12_image_1 : decode cX12_image 1 = .ok (.iconst 0, 1) := by decide +kernel
theorem dX12_image_2 : decode cX12_image 2 = .ok (.putfield 84, 3) := by decide +kernel
theorem dX12_image_5 : decode cX12_image 5 = .ok (.aload_n 0, 1) := by decide +kernel
theorem dX12_image_6 : decode cX12_image 6 = .ok (.invokevirtual 175, 3) := by decide +kernel
theorem dX12_image_9 : decode cX12_image 9 = .ok (.iload_n 1, 1) := by decide +kernel
theorem dX12_image_10 : decode cX12_image 10 = .ok (.iconst 0, 1) := by decide +kernel
theorem dX12_image_11 : decode cX12_image 11 = .ok (.iconst 1, 1) := by decide +kernel
theorem dX12_image_12 : decode cX12_image 12 = .ok (.invokestatic 155, 3) := by decide +kernel
theorem dX12_image_15 : decode cX12_image 15 = .ok (.ifCond .ne 5, 3) := by decide +kernel
theorem dX12_image_18 : decode cX12_image 18 = .ok (.iconst 0, 1) := by decide +kernel
theorem dX12_image_19 : decode cX12_image 19 = .ok (.ireturn, 1) := by decide +kernel
theorem dX12_image_20 : decode cX12_image 20 = .ok (.iconst 0, 1) := by decide +kernel
theorem dX12_image_21 : decode cX12_image 21 = .ok (.istore_n 2, 1) := by decide +kernel
theorem dX12_image_22 : decode cX12_image 22 = .ok (.iload_n 2, 1) := by decide +kernel
theorem dX12_image_23 : decode cX12_image 23 = .ok (.sipush 2040, 3) := by decide +kernel
theorem dX12_image_26 : decode cX12_image 26 = .ok (.if_icmp .ge 27, 3) := by decide +kernel
theorem dX12_image_29 : decode cX12_image 29 = .ok (.aload_n 0, 1) := by decide +kernel
theorem dX12_image_30 : decode cX12_image 30 = .ok (.getfield 19, 3) := by decide +kernel
theorem dX12_image_33 : decode cX12_image 33 = .ok (.sipush 2040, 3) := by decide +kernel
theorem dX12_image_36 : decode cX12_image 36 = .ok (.iload_n 1, 1) := by decide +kernel
theorem dX12_image_37 : decode cX12_image 37 = .ok (.imul, 1) := by decide +kernel
theorem dX12_image_38 : decode cX12_image 38 = .ok (.iload_n 2, 1) := by decide +kernel
theorem dX12_image_39 : decode cX12_image 39 = .ok (.iadd, 1) := by decide +kernel
theorem dX12_image_40 : decode cX12_image 40 = .ok (.aload_n 0, 1) := by decide +kernel
theorem dX12_image_41 : decode cX12_image 41 = .ok (.getfield 13, 3) := by decide +kernel
theorem dX12_image_44 : decode cX12_image 44 = .ok (.iload_n 2, 1) := by decide +kernel
theorem dX12_image_45 : decode cX12_image 45 = .ok (.iaload, 1) := by decide +kernel
theorem dX12_image_46 : decode cX12_image 46 = .ok (.iastore, 1) := by decide +kernel
theorem dX12_image_47 : decode cX12_image 47 = .ok (.iinc 2 1, 3) := by decide +kernel
theorem dX12_image_50 : decode cX12_image 50 = .ok (.goto (-28), 3) := by decide +kernel
theorem dX12_image_53 : decode cX12_image 53 = .ok (.aload_n 0, 1) := by decide +kernel
theorem dX12_image_54 : decode cX12_image 54 = .ok (.getfield 28, 3) := by decide +kernel
theorem dX12_image_57 : decode cX12_image 57 = .ok (.iload_n 1, 1) := by decide +kernel
theorem dX12_image_58 : decode cX12_image 58 = .ok (.iconst 1, 1) := by decide +kernel
theorem dX12_image_59 : decode cX12_image 59 = .ok (.bastore, 1) := by decide +kernel
theorem dX12_image_60 : decode cX12_image 60 = .ok (.iconst 1, 1) := by decide +kernel
theorem dX12_image_61 : decode cX12_image 61 = .ok (.ireturn, 1) := by decide +kernel
theorem hcX12_image : yX12_image.cls ≠ "java/lang/invoke/MethodHandle" ∧ yX12_image.cls ≠ "java/lang/invoke/VarHandle" ∧ (parseMethodDescriptor yX12_image.desc).map (fun d => d.parameters.length) = some 1 := ⟨by decide +kernel, by decide +kernel, by decide +kernel⟩
def fX12_image_L22 (x1 : Int) (Q : Int → sg_M → Prop) : Nat → sg_M → Int → Prop
  | 0, _, _ => False
  | n_22 + 1, s_22, x2_22 => ((2040 ≤ x2_22 → (0 ≤ x1 ∧ x1 < 2) ∧ ∀ s10 : sg_M, s10 = sg_up s_22 71 x1 1 → Q 1 s10) ∧ (¬ (2040 ≤ x2_22) → (0 ≤ x2_22 ∧ x2_22 < 2040) ∧ (0 ≤ ((2040 * x1) + x2_22) ∧ ((2040 * x1) + x2_22) < 4080) ∧ ∀ s17 : sg_M, s17 = sg_up s_22 68 ((2040 * x1) + x2_22) (s_22 66 x2_22) → sg_R (x2_22 + 1) ∧ (fX12_image_L22 x1 Q n_22) s17 (x2_22 + 1)))
def fX12_image (s0 : sg_M) (x1 : Int) (Q : Int → sg_M → Prop) : Prop := ∀ s1 : sg_M, s1 = sg_up s0 64 0 0 → fX12_lay s1 (fun s3 => fX12_isIn x1 0 1 (fun u4 => ((u4 ≠ 0 → (∃ n20 : Nat, fX12_image_L22 x1 Q n20 s3 0)) ∧ (u4 = 0 → Q 0 s3))))
set_option maxHeartbeats 4000000 in
set_option maxRecDepth 100000 in
theorem CX12_image {l : Launch} {G : sg_G} {La : sg_L} {s0 : sg_M} (hst : sg_St La) {x1 : Int} (r1 : sg_R x1) {Q : Int → sg_M → Prop} (hf : fX12_image s0 x1 Q) : sg_C l G yX12_image cX12_image 3 (some .boolean) 2 0 0 La s0 [sg_r 64, sg_i x1] (sg_HZ La Q) := by
  refine sg_body (by decide +kernel) (Nat.le_of_ble_eq_true rfl) ?_
  intro p e s m args below meth c F hnm
  unfold fX12_image at hf
  show sg_W p l e (sg_rm 2 0 0) s m args below meth c (MQ below (sg_Q (some .boolean) G La s.heap.size (sg_HZ La Q)) args s 0 0 (sg_A La s.heap.size)) 3 G (sg_A La s.heap.size) La s0 0 0 0 [(0, sg_r 64), (1, sg_i x1)] []
  refine gw_aload_n F 0 rfl rfl (by decide) dX12_image_0 ?_
  refine gw_iconst F dX12_image_1 ?_
  obtain ⟨s1, e2⟩ : ∃ z : sg_M, z = sg_up s0 64 0 0 := ⟨_, rfl⟩
  have hf := hf s1 e2
  refine gw_put0 F (so_64 hst) (by decide) rfl sg_lay_RX12 (j := 0) (by decide) (by decide) e2 tyX12_ok nmX12 rfl (tyX12_ok 0 (by decide)) rfl (host := "") (.inl kw_947) dX12_image_2 ?_
  refine gw_aload_n F 0 rfl rfl (by decide) dX12_image_5 ?_
  refine gk_HV F (gc_V F (S := []) (As := []) (T := TX12) (N := 62) (CX12_lay hst hf) (so_64 hst) (by decide) rfl kw_1034 kw_103 kw_1032 kw_1033 kw_41 hcX12_lay ⟨by decide, by decide⟩ rfl rfl (Nat.le_of_ble_eq_true rfl) ⟨by decide, by decide⟩ dX12_image_6) (fun s3 hf => ?_)
  refine gw_iload_n F 1 rfl rfl dX12_image_9 ?_
  refine gw_iconst F dX12_image_10 ?_
  refine gw_iconst F dX12_image_11 ?_
  refine gk_PZ F (gc_S F (S := []) (As := [sg_i x1, sg_i 0, sg_i 1]) (CX12_isIn r1 (by decide) (by decide) hf) kw_1075 kw_103 kw_1073 kw_1074 hcX12_isIn ⟨by decide, by decide⟩ rfl rfl (Nat.le_of_ble_eq_true rfl) ⟨by decide, by decide⟩ dX12_image_12) (fun u4 h5 hf => ?_)
  refine gw_if_ne F (tgt := 20) dX12_image_15 (by decide) (sg_B_R h5) (fun c6 => ?_) (fun c6 => ?_)
  · have hf := hf.1 c6
    refine gw_iconst F dX12_image_20 ?_
    refine gw_istore_n F rfl (by decide) rfl dX12_image_21 ?_
    have L22 : ∀ n_22 : Nat, ∀ (s_22 : sg_M) (x2_22 : Int), sg_R x2_22 → fX12_image_L22 x1 Q n_22 s_22 x2_22 → sg_W p l e (sg_rm 2 0 0) s m args below meth c (MQ below (sg_Q (some .boolean) G La s.heap.size (sg_HZ La Q)) args s 0 0 (sg_A La s.heap.size)) 3 G (sg_A La s.heap.size) La s_22 0 0 22 [(0, sg_r 64), (1, sg_i x1), (2, sg_i x2_22)] [] := by
      intro n_22
      induction n_22 with
      | zero => intro s_22 x2_22 r2_22 hf; exact hf.elim
      | succ n_22 ih =>
        intro s_22 x2_22 r2_22 hf
        unfold fX12_image_L22 at hf
        refine gw_iload_n F 2 rfl rfl dX12_image_22 ?_
        refine gw_sipush F rfl dX12_image_23 ?_
        refine gw_icmp_ge F (tgt := 53) dX12_image_26 (by decide) r2_22 (by decide) (fun c7 => ?_) (fun c7 => ?_)
        · have hf := hf.1 c7
          refine gw_aload_n F 0 rfl rfl (by decide) dX12_image_53 ?_
          refine gw_get7 F (so_64 hst) (by decide) rfl sg_lay_RX12 (j := 19) (by decide) (o1 := 71) (by first | rfl | omega) rfl (host := "") (.inl kw_966) dX12_image_54 (fun h8 => ?_)
          refine gw_iload_n F 1 rfl rfl dX12_image_57 ?_
          refine gw_iconst F dX12_image_58 ?_
          obtain ⟨⟨b90, b91⟩, hf⟩ := hf
          obtain ⟨s10, e11⟩ : ∃ z : sg_M, z = sg_up s_22 71 x1 1 := ⟨_, rfl⟩
          have hf := hf s10 e11
          refine gw_zast F (n := 2) (so_71 hst) (by decide) (by decide) (by decide) b90 b91 (by decide) e11 dX12_image_59 ?_
          refine gw_iconst F dX12_image_60 ?_
          exact gr_HZ F (by decide) hf (by decide) (by decide) dX12_image_61
        · have hf := hf.2 c7
          refine gw_aload_n F 0 rfl rfl (by decide) dX12_image_29 ?_
          refine gw_get7 F (so_64 hst) (by decide) rfl sg_lay_RX12 (j := 16) (by decide) (o1 := 68) (by first | rfl | omega) rfl (host := "") (.inl kw_963) dX12_image_30 (fun h12 => ?_)
          refine gw_sipush F rfl dX12_image_33 ?_
          refine gw_iload_n F 1 rfl rfl dX12_image_36 ?_
          refine gw_imul F rfl dX12_image_37 ?_
          refine gw_iload_n F 2 rfl rfl dX12_image_38 ?_
          refine gw_iadd F rfl dX12_image_39 ?_
          refine gw_aload_n F 0 rfl rfl (by decide) dX12_image_40 ?_
          refine gw_get7 F (so_64 hst) (by decide) rfl sg_lay_RX12 (j := 14) (by decide) (o1 := 66) (by first | rfl | omega) rfl (host := "") (.inl kw_961) dX12_image_41 (fun h13 => ?_)
          refine gw_iload_n F 2 rfl rfl dX12_image_44 ?_
          obtain ⟨⟨b140, b141⟩, hf⟩ := hf
          refine gw_iald F (sa_66 hst) b140 b141 dX12_image_45 (fun h15 => ?_)
          obtain ⟨⟨b160, b161⟩, hf⟩ := hf
          obtain ⟨s17, e18⟩ : ∃ z : sg_M, z = sg_up s_22 68 ((2040 * x1) + x2_22) (s_22 66 x2_22) := ⟨_, rfl⟩
          have hf := hf s17 e18
          refine gw_iast F (sa_68 hst) b160 b161 h15 e18 dX12_image_46 ?_
          refine gw_iinc F (z := (x2_22 + 1)) 2 rfl (by omega) (by decide) rfl dX12_image_47 ?_
          refine gw_goto F (tgt := 22) dX12_image_50 (by decide) ?_
          obtain ⟨g19, hf⟩ := hf
          refine gw_sub [1, 2, 0] rfl ?_
          exact ih s17 (x2_22 + 1) g19 hf
    obtain ⟨n20, hf⟩ := hf
    refine gw_sub [1, 2, 0] rfl ?_
    refine L22   n20 s3 0 (by decide) hf
  · have hf := hf.2 c6
    refine gw_iconst F dX12_image_18 ?_
    exact gr_HZ F (by decide) hf (by decide) (by decide) dX12_image_19

theorem dX12_voice_0 : decode cX12_voice 0 = .ok (.aload_n 0, 1) := by decide +kernel
theorem dX12_voice_1 : decode cX12_voice 1 = .ok (.iconst 0, 1) := by decide +kernel
theorem dX12_voice_2 : decode cX12_voice 2 = .ok (.putfield 84, 3) := by decide +kernel
theorem dX12_voice_5 : decode cX12_voice 5 = .ok (.aload_n 0, 1) := by decide +kernel
theorem dX12_voice_6 : decode cX12_voice 6 = .ok (.invokevirtual 175, 3) := by decide +kernel
theorem dX12_voice_9 : decode cX12_voice 9 = .ok (.aload_n 0, 1) := by decide +kernel
theorem dX12_voice_10 : decode cX12_voice 10 = .ok (.iload_n 1, 1) := by decide +kernel
theorem dX12_voice_11 : decode cX12_voice 11 = .ok (.invokevirtual 323, 3) := by decide +kernel
theorem dX12_voice_14 : decode cX12_voice 14 = .ok (.ifCond .eq 12, 3) := by decide +kernel
theorem dX12_voice_17 : decode cX12_voice 17 = .ok (.iload_n 2, 1) := by decide +kernel
theorem dX12_voice_18 : decode cX12_voice 18 = .ok (.iconst 0, 1) := by decide +kernel
theorem dX12_voice_19 : decode cX12_voice 19 = .ok (.iconst 1, 1) := by decide +kernel
theorem dX12_voice_20 : decode cX12_voice 20 = .ok (.invokestatic 155, 3) := by decide +kernel
theorem dX12_voice_23 : decode cX12_voice 23 = .ok (.ifCond .ne 5, 3) := by decide +kernel
theorem dX12_voice_26 : decode cX12_voice 26 = .ok (.iconst (-1), 1) := by decide +kernel
theorem dX12_voice_27 : decode cX12_voice 27 = .ok (.ireturn, 1) := by decide +kernel
theorem dX12_voice_28 : decode cX12_voice 28 = .ok (.aload_n 0, 1) := by decide +kernel
theorem dX12_voice_29 : decode cX12_voice 29 = .ok (.aload_n 0, 1) := by decide +kernel
theorem dX12_voice_30 : decode cX12_voice 30 = .ok (.iload_n 1, 1) := by decide +kernel
theorem dX12_voice_31 : decode cX12_voice 31 = .ok (.invokevirtual 326, 3) := by decide +kernel
theorem dX12_voice_34 : decode cX12_voice 34 = .ok (.aload_n 0, 1) := by decide +kernel
theorem dX12_voice_35 : decode cX12_voice 35 = .ok (.iload_n 1, 1) := by decide +kernel
theorem dX12_voice_36 : decode cX12_voice 36 = .ok (.invokevirtual 329, 3) := by decide +kernel
theorem dX12_voice_39 : decode cX12_voice 39 = .ok (.invokevirtual 317, 3) := by decide +kernel
theorem dX12_voice_42 : decode cX12_voice 42 = .ok (.pop, 1) := by decide +kernel
theorem dX12_voice_43 : decode cX12_voice 43 = .ok (.iload_n 2, 1) := by decide +kernel
theorem dX12_voice_44 : decode cX12_voice 44 = .ok (.ifCond .ne 10, 3) := by decide +kernel
theorem dX12_voice_47 : decode cX12_voice 47 = .ok (.aload_n 0, 1) := by decide +kernel
theorem dX12_voice_48 : decode cX12_voice 48 = .ok (.getfield 273, 3) := by decide +kernel
theorem dX12_voice_51 : decode cX12_voice 51 = .ok (.goto 7, 3) := by decide +kernel
theorem dX12_voice_54 : decode cX12_voice 54 = .ok (.aload_n 0, 1) := by decide +kernel
theorem dX12_voice_55 : decode cX12_voice 55 = .ok (.getfield 276, 3) := by decide +kernel
theorem dX12_voice_58 : decode cX12_voice 58 = .ok (.ireturn, 1) := by decide +kernel
theorem hcX12_voice : yX12_voice.cls ≠ "java/lang/invoke/MethodHandle" ∧ yX12_voice.cls ≠ "java/lang/invoke/VarHandle" ∧ (parseMethodDescriptor yX12_voice.desc).map (fun d => d.parameters.length) = some 2 := ⟨by decide +kernel, by decide +kernel, by decide +kernel⟩
def fX12_voice (s0 : sg_M) (x1 : Int) (x2 : Int) (Q : Int → sg_M → Prop) : Prop := ∀ s1 : sg_M, s1 = sg_up s0 64 0 0 → fX12_lay s1 (fun s3 => fX12_isWritten s3 x1 (fun u4 => ((u4 = 0 → Q (-1) s3) ∧ (¬ (u4 = 0) → fX12_isIn x2 0 1 (fun u7 => ((u7 ≠ 0 → fX12_aOf s3 x1 (fun u10 => fX12_bOf s3 x1 (fun u12 => fX12_voiceOf s3 u10 u12 (fun u14 s16 => ((x2 ≠ 0 → Q (s16 64 40) s16) ∧ (x2 = 0 → Q (s16 64 39) s16)))))) ∧ (u7 = 0 → Q (-1) s3)))))))
set_option maxHeartbeats 4000000 in
set_option maxRecDepth 100000 in
theorem CX12_voice {l : Launch} {G : sg_G} {La : sg_L} {s0 : sg_M} (hst : sg_St La) {x1 : Int} (r1 : sg_R x1) {x2 : Int} (r2 : sg_R x2) {Q : Int → sg_M → Prop} (hf : fX12_voice s0 x1 x2 Q) : sg_C l G yX12_voice cX12_voice 3 (some .int) 6 0 0 La s0 [sg_r 64, sg_i x1, sg_i x2] (sg_HI La Q) := by
  refine sg_body (by decide +kernel) (Nat.le_of_ble_eq_true rfl) ?_
  intro p e s m args below meth c F hnm
  unfold fX12_voice at hf
  show sg_W p l e (sg_rm 6 0 0) s m args below meth c (MQ below (sg_Q (some .int) G La s.heap.size (sg_HI La Q)) args s 0 0 (sg_A La s.heap.size)) 3 G (sg_A La s.heap.size) La s0 0 0 0 [(0, sg_r 64), (1, sg_i x1), (2, sg_i x2)] []
  refine gw_aload_n F 0 rfl rfl (by decide) dX12_voice_0 ?_
  refine gw_iconst F dX12_voice_1 ?_
  obtain ⟨s1, e2⟩ : ∃ z : sg_M, z = sg_up s0 64 0 0 := ⟨_, rfl⟩
  have hf := hf s1 e2
  refine gw_put0 F (so_64 hst) (by decide) rfl sg_lay_RX12 (j := 0) (by decide) (by decide) e2 tyX12_ok nmX12 rfl (tyX12_ok 0 (by decide)) rfl (host := "") (.inl kw_947) dX12_voice_2 ?_
  refine gw_aload_n F 0 rfl rfl (by decide) dX12_voice_5 ?_
  refine gk_HV F (gc_V F (S := []) (As := []) (T := TX12) (N := 62) (CX12_lay hst hf) (so_64 hst) (by decide) rfl kw_1034 kw_103 kw_1032 kw_1033 kw_41 hcX12_lay ⟨by decide, by decide⟩ rfl rfl (Nat.le_of_ble_eq_true rfl) ⟨by decide, by decide⟩ dX12_voice_6) (fun s3 hf => ?_)
  refine gw_aload_n F 0 rfl rfl (by decide) dX12_voice_9 ?_
  refine gw_iload_n F 1 rfl rfl dX12_voice_10 ?_
  refine gk_PZ F (gc_V F (S := []) (As := [sg_i x1]) (T := TX12) (N := 62) (CX12_isWritten hst r1 hf) (so_64 hst) (by decide) rfl kw_1210 kw_103 kw_1208 kw_1209 kw_71 hcX12_isWritten ⟨by decide, by decide⟩ rfl rfl (Nat.le_of_ble_eq_true rfl) ⟨by decide, by decide⟩ dX12_voice_11) (fun u4 h5 hf => ?_)
  refine gw_if_eq F (tgt := 26) dX12_voice_14 (by decide) (sg_B_R h5) (fun c6 => ?_) (fun c6 => ?_)
  · have hf := hf.1 c6
    refine gw_iconst F dX12_voice_26 ?_
    exact gr_HI F (by decide) hf (by decide) (by decide) dX12_voice_27
  · have hf := hf.2 c6
    refine gw_iload_n F 2 rfl rfl dX12_voice_17 ?_
    refine gw_iconst F dX12_voice_18 ?_
    refine gw_iconst F dX12_voice_19 ?_
    refine gk_PZ F (gc_S F (S := []) (As := [sg_i x2, sg_i 0, sg_i 1]) (CX12_isIn r2 (by decide) (by decide) hf) kw_1075 kw_103 kw_1073 kw_1074 hcX12_isIn ⟨by decide, by decide⟩ rfl rfl (Nat.le_of_ble_eq_true rfl) ⟨by decide, by decide⟩ dX12_voice_20) (fun u7 h8 hf => ?_)
    refine gw_if_ne F (tgt := 28) dX12_voice_23 (by decide) (sg_B_R h8) (fun c9 => ?_) (fun c9 => ?_)
    · have hf := hf.1 c9
      refine gw_aload_n F 0 rfl rfl (by decide) dX12_voice_28 ?_
      refine gw_aload_n F 0 rfl rfl (by decide) dX12_voice_29 ?_
      refine gw_iload_n F 1 rfl rfl dX12_voice_30 ?_
      refine gk_PI F (gc_V F (S := [sg_r 64]) (As := [sg_i x1]) (T := TX12) (N := 62) (CX12_aOf hst r1 hf) (so_64 hst) (by decide) rfl kw_1213 kw_103 kw_1211 kw_1212 kw_72 hcX12_aOf ⟨by decide, by decide⟩ rfl rfl (Nat.le_of_ble_eq_true rfl) ⟨by decide, by decide⟩ dX12_voice_31) (fun u10 h11 hf => ?_)
      refine gw_aload_n F 0 rfl rfl (by decide) dX12_voice_34 ?_
      refine gw_iload_n F 1 rfl rfl dX12_voice_35 ?_
      refine gk_PI F (gc_V F (S := [sg_i u10, sg_r 64]) (As := [sg_i x1]) (T := TX12) (N := 62) (CX12_bOf hst r1 hf) (so_64 hst) (by decide) rfl kw_1216 kw_103 kw_1214 kw_1215 kw_73 hcX12_bOf ⟨by decide, by decide⟩ rfl rfl (Nat.le_of_ble_eq_true rfl) ⟨by decide, by decide⟩ dX12_voice_36) (fun u12 h13 hf => ?_)
      refine gk_HI F (gc_V F (S := []) (As := [sg_i u10, sg_i u12]) (T := TX12) (N := 62) (CX12_voiceOf hst h11 h13 hf) (so_64 hst) (by decide) rfl kw_1193 kw_103 kw_1191 kw_1192 kw_68 hcX12_voiceOf ⟨by decide, by decide⟩ rfl rfl (Nat.le_of_ble_eq_true rfl) ⟨by decide, by decide⟩ dX12_voice_39) (fun u14 s16 h15 hf => ?_)
      refine gw_pop F rfl dX12_voice_42 ?_
      refine gw_iload_n F 2 rfl rfl dX12_voice_43 ?_
      refine gw_if_ne F (tgt := 54) dX12_voice_44 (by decide) r2 (fun c17 => ?_) (fun c17 => ?_)
      · have hf := hf.1 c17
        refine gw_aload_n F 0 rfl rfl (by decide) dX12_voice_54 ?_
        refine gw_get0 F (so_64 hst) (by decide) rfl sg_lay_RX12 (j := 40) (by decide) rfl (host := "") (.inl kw_987) dX12_voice_55 (fun h18 => ?_)
        exact gr_HI F h18 hf (by decide) (by decide) dX12_voice_58
      · have hf := hf.2 c17
        refine gw_aload_n F 0 rfl rfl (by decide) dX12_voice_47 ?_
        refine gw_get0 F (so_64 hst) (by decide) rfl sg_lay_RX12 (j := 39) (by decide) rfl (host := "") (.inl kw_986) dX12_voice_48 (fun h19 => ?_)
        refine gw_goto F (tgt := 58) dX12_voice_51 (by decide) ?_
        exact gr_HI F h19 hf (by decide) (by decide) dX12_voice_58
    · have hf := hf.2 c9
      refine gw_iconst F dX12_voice_26 ?_
      exact gr_HI F (by decide) hf (by decide) (by decide) dX12_voice_27

theorem dX12_range_0 : decode cX12_range 0 = .ok (.aload_n 0, 1) := by decide +kernel
theorem dX12_range_1 : decode cX12_range 1 = .ok (.iconst 0, 1) := by decide +kernel
theorem dX12_range_2 : decode cX12_range 2 = .ok (.putfield 84, 3) := by decide +kernel
theorem dX12_range_5 : decode cX12_range 5 = .ok (.aload_n 0, 1) := by decide +kernel
theorem dX12_range_6 : decode cX12_range 6 = .ok (.invokevirtual 175, 3) := by decide +kernel
theorem dX12_range_9 : decode cX12_range 9 = .ok (.iload_n 1, 1) := by decide +kernel
theorem dX12_range_10 : decode cX12_range 10 = .ok (.iconst 0, 1) := by decide +kernel
theorem dX12_range_11 : decode cX12_range 11 = .ok (.iconst 3, 1) := by decide +kernel
theorem dX12_range_12 : decode cX12_range 12 = .ok (.invokestatic 155, 3) := by decide +kernel
theorem dX12_range_15 : decode cX12_range 15 = .ok (.ifCond .ne 5, 3) := by decide +kernel
theorem dX12_range_18 : decode cX12_range 18 = .ok (.iconst (-1), 1) := by decide +kernel
theorem dX12_range_19 : decode cX12_range 19 = .ok (.ireturn, 1) := by decide +kernel
theorem dX12_range_20 : decode cX12_range 20 = .ok (.aload_n 0, 1) := by decide +kernel
theorem dX12_range_21 : decode cX12_range 21 = .ok (.invokevirtual 332, 3) := by decide +kernel
theorem dX12_range_24 : decode cX12_range 24 = .ok (.iconst (-1), 1) := by decide +kernel
theorem dX12_range_25 : decode cX12_range 25 = .ok (.istore_n 2, 1) := by decide +kernel
theorem dX12_range_26 : decode cX12_range 26 = .ok (.iconst (-1), 1) := by decide +kernel
theorem dX12_range_27 : decode cX12_range 27 = .ok (.istore_n 3, 1) := by decide +kernel
theorem dX12_range_28 : decode cX12_range 28 = .ok (.iconst 0, 1) := by decide +kernel
theorem dX12_range_29 : decode cX12_range 29 = .ok (.istore 4, 2) := by decide +kernel
theorem dX12_range_31 : decode cX12_range 31 = .ok (.iload 4, 2) := by decide +kernel
theorem dX12_range_33 : decode cX12_range 33 = .ok (.aload_n 0, 1) := by decide +kernel
theorem dX12_range_34 : decode cX12_range 34 = .ok (.invokevirtual 320, 3) := by decide +kernel
theorem dX12_range_37 : decode cX12_range 37 = .ok (.if_icmp .ge 70, 3) := by decide +kernel
theorem dX12_range_40 : decode cX12_range 40 = .ok (.aload_n 0, 1) := by decide +kernel
theorem dX12_range_41 : decode cX12_range 41 = .ok (.getfield 56, 3) := by decide +kernel
theorem dX12_range_44 : decode cX12_range 44 = .ok (.iload 4, 2) := by decide +kernel
theorem dX12_range_46 : decode cX12_range 46 = .ok (.iaload, 1) := by decide +kernel
theorem dX12_range_47 : decode cX12_range 47 = .ok (.ifCond .ne 6, 3) := by decide +kernel
theorem dX12_range_50 : decode cX12_range 50 = .ok (.goto 51, 3) := by decide +kernel
theorem dX12_range_53 : decode cX12_range 53 = .ok (.iload_n 2, 1) := by decide +kernel
theorem dX12_range_54 : decode cX12_range 54 = .ok (.iconst (-1), 1) := by decide +kernel
theorem dX12_range_55 : decode cX12_range 55 = .ok (.if_icmp .eq 19, 3) := by decide +kernel
theorem dX12_range_58 : decode cX12_range 58 = .ok (.aload_n 0, 1) := by decide +kernel
theorem dX12_range_59 : decode cX12_range 59 = .ok (.getfield 56, 3) := by decide +kernel
theorem dX12_range_62 : decode cX12_range 62 = .ok (.iload 4, 2) := by decide +kernel
theorem dX12_range_64 : decode cX12_range 64 = .ok (.iaload, 1) := by decide +kernel
theorem dX12_range_65 : decode cX12_range 65 = .ok (.aload_n 0, 1) := by decide +kernel
theorem dX12_range_66 : decode cX12_range 66 = .ok (.getfield 56, 3) := by decide +kernel
theorem dX12_range_69 : decode cX12_range 69 = .ok (.iload_n 2, 1) := by decide +kernel
theorem dX12_range_70 : decode cX12_range 70 = .ok (.iaload, 1) := by decide +kernel
theorem dX12_range_71 : decode cX12_range 71 = .ok (.if_icmp .ge 6, 3) := by decide +kernel
theorem dX12_range_74 : decode cX12_range 74 = .ok (.iload 4, 2) := by decide +kernel
theorem dX12_range_76 : decode cX12_range 76 = .ok (.istore_n 2, 1) := by decide +kernel
theorem dX12_range_77 : decode cX12_range 77 = .ok (.iload_n 3, 1) := by decide +kernel
theorem dX12_range_78 : decode cX12_range 78 = .ok (.iconst (-1), 1) := by decide +kernel
theorem dX12_range_79 : decode cX12_range 79 = .ok (.if_icmp .eq 19, 3) := by decide +kernel
theorem dX12_range_82 : decode cX12_range 82 = .ok (.aload_n 0, 1) := by decide +kernel
theorem dX12_range_83 : decode cX12_range 83 = .ok (.getfield 56, 3) := by decide +kernel
theorem dX12_range_86 : decode cX12_range 86 = .ok (.iload 4, 2) := by decide +kernel
theorem dX12_range_88 : decode cX12_range 88 = .ok (.iaload, 1) := by decide +kernel
theorem dX12_range_89 : decode cX12_range 89 = .ok (.aload_n 0, 1) := by decide +kernel
theorem dX12_range_90 : decode cX12_range 90 = .ok (.getfield 56, 3) := by decide +kernel
theorem dX12_range_93 : decode cX12_range 93 = .ok (.iload_n 3, 1) := by decide +kernel
theorem dX12_range_94 : decode cX12_range 94 = .ok (.iaload, 1) := by decide +kernel
theorem dX12_range_95 : decode cX12_range 95 = .ok (.if_icmp .le 6, 3) := by decide +kernel
theorem dX12_range_98 : decode cX12_range 98 = .ok (.iload 4, 2) := by decide +kernel
theorem dX12_range_100 : decode cX12_range 100 = .ok (.istore_n 3, 1) := by decide +kernel
theorem dX12_range_101 : decode cX12_range 101 = .ok (.iinc 4 1, 3) := by decide +kernel
theorem dX12_range_104 : decode cX12_range 104 = .ok (.goto (-73), 3) := by decide +kernel
theorem dX12_range_107 : decode cX12_range 107 = .ok (.iload_n 2, 1) := by decide +kernel
theorem dX12_range_108 : decode cX12_range 108 = .ok (.iconst (-1), 1) := by decide +kernel
theorem dX12_range_109 : decode cX12_range 109 = .ok (.if_icmp .ne 5, 3) := by decide +kernel
theorem dX12_range_112 : decode cX12_range 112 = .ok (.iconst (-1), 1) := by decide +kernel
theorem dX12_range_113 : decode cX12_range 113 = .ok (.ireturn, 1) := by decide +kernel
theorem dX12_range_114 : decode cX12_range 114 = .ok (.iload_n 1, 1) := by decide +kernel
theorem dX12_range_115 : decode cX12_range 115 = .ok (.ifCond .ne 12, 3) := by decide +kernel
theorem dX12_range_118 : decode cX12_range 118 = .ok (.aload_n 0, 1) := by decide +kernel
theorem dX12_range_119 : decode cX12_range 119 = .ok (.getfield 56, 3) := by decide +kernel
theorem dX12_range_122 : decode cX12_range 122 = .ok (.iload_n 2, 1) := by decide +kernel
theorem dX12_range_123 : decode cX12_range 123 = .ok (.iaload, 1) := by decide +kernel
theorem dX12_range_124 : decode cX12_range 124 = .ok (.goto 27, 3) := by decide +kernel
theorem dX12_range_127 : decode cX12_range 127 = .ok (.iload_n 1, 1) := by decide +kernel
theorem dX12_range_128 : decode cX12_range 128 = .ok (.iconst 1, 1) := by decide +kernel
theorem dX12_range_129 : decode cX12_range 129 = .ok (.if_icmp .ne 12, 3) := by decide +kernel
theorem dX12_range_132 : decode cX12_range 132 = .ok (.aload_n 0, 1) := by decide +kernel
theorem dX12_range_133 : decode cX12_range 133 = .ok (.getfield 56, 3) := by decide +kernel
theorem dX12_range_136 : decode cX12_range 136 = .ok (.iload_n 3, 1) := by decide +kernel
theorem dX12_range_137 : decode cX12_range 137 = .ok (.iaload, 1) := by decide +kernel
theorem dX12_range_138 : decode cX12_range 138 = .ok (.goto 13, 3) := by decide +kernel
theorem dX12_range_141 : decode cX12_range 141 = .ok (.iload_n 1, 1) := by decide +kernel
theorem dX12_range_142 : decode cX12_range 142 = .ok (.iconst 2, 1) := by decide +kernel
theorem dX12_range_143 : decode cX12_range 143 = .ok (.if_icmp .ne 7, 3) := by decide +kernel
theorem dX12_range_146 : decode cX12_range 146 = .ok (.iload_n 2, 1) := by decide +kernel
theorem dX12_range_147 : decode cX12_range 147 = .ok (.goto 4, 3) := by decide +kernel
theorem dX12_range_150 : decode cX12_range 150 = .ok (.iload_n 3, 1) := by decide +kernel
theorem dX12_range_151 : decode cX12_range 151 = .ok (.ireturn, 1) := by decide +kernel
theorem hcX12_range : yX12_range.cls ≠ "java/lang/invoke/MethodHandle" ∧ yX12_range.cls ≠ "java/lang/invoke/VarHandle" ∧ (parseMethodDescriptor yX12_range.desc).map (fun d => d.parameters.length) = some 1 := ⟨by decide +kernel, by decide +kernel, by decide +kernel⟩
def fX12_range_j101 (x4_31 : Int) (k31 : Int → Int → Int → Prop) (x2_101 : Int) (x3_101 : Int) : Prop := sg_R (x4_31 + 1) ∧ k31 x2_101 x3_101 (x4_31 + 1)
def fX12_range_j98 (x4_31 : Int) (x2_77 : Int) (k101 : Int → Int → Prop)  : Prop := k101 x2_77 x4_31
def fX12_range_j77 (s7 : sg_M) (x3_31 : Int) (x4_31 : Int) (k101 : Int → Int → Prop) (x2_77 : Int) : Prop := ((x3_31 = (-1) → (fX12_range_j98 x4_31 x2_77 k101)) ∧ (¬ (x3_31 = (-1)) → (0 ≤ x4_31 ∧ x4_31 < 40) ∧ (0 ≤ x3_31 ∧ x3_31 < 40) ∧ (((s7 80 x4_31) ≤ (s7 80 x3_31) → k101 x2_77 x3_31) ∧ (¬ ((s7 80 x4_31) ≤ (s7 80 x3_31)) → (fX12_range_j98 x4_31 x2_77 k101)))))
def fX12_range_j74 (x4_31 : Int) (k77 : Int → Prop)  : Prop := k77 x4_31
def fX12_range_L31 (s7 : sg_M) (k107 : Int → Int → Prop) : Nat → Int → Int → Int → Prop
  | 0, _, _, _ => False
  | n_31 + 1, x2_31, x3_31, x4_31 => fX12_bends s7 (fun u8 => ((u8 ≤ x4_31 → k107 x2_31 x3_31) ∧ (¬ (u8 ≤ x4_31) → (0 ≤ x4_31 ∧ x4_31 < 40) ∧ (((s7 80 x4_31) ≠ 0 → ((x2_31 = (-1) → (fX12_range_j74 x4_31 (fX12_range_j77 s7 x3_31 x4_31 (fX12_range_j101 x4_31 (fX12_range_L31 s7 k107 n_31))))) ∧ (¬ (x2_31 = (-1)) → (0 ≤ x4_31 ∧ x4_31 < 40) ∧ (0 ≤ x2_31 ∧ x2_31 < 40) ∧ (((s7 80 x2_31) ≤ (s7 80 x4_31) → (fX12_range_j77 s7 x3_31 x4_31 (fX12_range_j101 x4_31 (fX12_range_L31 s7 k107 n_31))) x2_31) ∧ (¬ ((s7 80 x2_31) ≤ (s7 80 x4_31)) → (fX12_range_j74 x4_31 (fX12_range_j77 s7 x3_31 x4_31 (fX12_range_j101 x4_31 (fX12_range_L31 s7 k107 n_31))))))))) ∧ ((s7 80 x4_31) = 0 → (fX12_range_j101 x4_31 (fX12_range_L31 s7 k107 n_31)) x2_31 x3_31)))))
def fX12_range (s0 : sg_M) (x1 : Int) (Q : Int → sg_M → Prop) : Prop := ∀ s1 : sg_M, s1 = sg_up s0 64 0 0 → fX12_lay s1 (fun s3 => fX12_isIn x1 0 3 (fun u4 => ((u4 ≠ 0 → fX12_sing s3 (fun s7 => (∃ n32 : Nat, fX12_range_L31 s7 (fun x2_107e31 x3_107e31 => ((x2_107e31 ≠ (-1) → ((x1 ≠ 0 → ((x1 ≠ 1 → ((x1 ≠ 2 → Q x3_107e31 s7) ∧ (x1 = 2 → Q x2_107e31 s7))) ∧ (x1 = 1 → (0 ≤ x3_107e31 ∧ x3_107e31 < 40) ∧ Q (s7 80 x3_107e31) s7))) ∧ (x1 = 0 → (0 ≤ x2_107e31 ∧ x2_107e31 < 40) ∧ Q (s7 80 x2_107e31) s7))) ∧ (x2_107e31 = (-1) → Q (-1) s7))) n32 (-1) (-1) 0))) ∧ (u4 = 0 → Q (-1) s3))))
set_option maxHeartbeats 4000000 in
set_option maxRecDepth 100000 in
theorem CX12_range {l : Launch} {G : sg_G} {La : sg_L} {s0 : sg_M} (hst : sg_St La) {x1 : Int} (r1 : sg_R x1) {Q : Int → sg_M → Prop} (hf : fX12_range s0 x1 Q) : sg_C l G yX12_range cX12_range 5 (some .int) 7 0 0 La s0 [sg_r 64, sg_i x1] (sg_HI La Q) := by
  refine sg_body (by decide +kernel) (Nat.le_of_ble_eq_true rfl) ?_
  intro p e s m args below meth c F hnm
  unfold fX12_range at hf
  show sg_W p l e (sg_rm 7 0 0) s m args below meth c (MQ below (sg_Q (some .int) G La s.heap.size (sg_HI La Q)) args s 0 0 (sg_A La s.heap.size)) 5 G (sg_A La s.heap.size) La s0 0 0 0 [(0, sg_r 64), (1, sg_i x1)] []
  refine gw_aload_n F 0 rfl rfl (by decide) dX12_range_0 ?_
  refine gw_iconst F dX12_range_1 ?_
  obtain ⟨s1, e2⟩ : ∃ z : sg_M, z = sg_up s0 64 0 0 := ⟨_, rfl⟩
  have hf := hf s1 e2
  refine gw_put0 F (so_64 hst) (by decide) rfl sg_lay_RX12 (j := 0) (by decide) (by decide) e2 tyX12_ok nmX12 rfl (tyX12_ok 0 (by decide)) rfl (host := "") (.inl kw_947) dX12_range_2 ?_
  refine gw_aload_n F 0 rfl rfl (by decide) dX12_range_5 ?_
  refine gk_HV F (gc_V F (S := []) (As := []) (T := TX12) (N := 62) (CX12_lay hst hf) (so_64 hst) (by decide) rfl kw_1034 kw_103 kw_1032 kw_1033 kw_41 hcX12_lay ⟨by decide, by decide⟩ rfl rfl (Nat.le_of_ble_eq_true rfl) ⟨by decide, by decide⟩ dX12_range_6) (fun s3 hf => ?_)
  refine gw_iload_n F 1 rfl rfl dX12_range_9 ?_
  refine gw_iconst F dX12_range_10 ?_
  refine gw_iconst F dX12_range_11 ?_
  refine gk_PZ F (gc_S F (S := []) (As := [sg_i x1, sg_i 0, sg_i 3]) (CX12_isIn r1 (by decide) (by decide) hf) kw_1075 kw_103 kw_1073 kw_1074 hcX12_isIn ⟨by decide, by decide⟩ rfl rfl (Nat.le_of_ble_eq_true rfl) ⟨by decide, by decide⟩ dX12_range_12) (fun u4 h5 hf => ?_)
  refine gw_if_ne F (tgt := 20) dX12_range_15 (by decide) (sg_B_R h5) (fun c6 => ?_) (fun c6 => ?_)
  · have hf := hf.1 c6
    refine gw_aload_n F 0 rfl rfl (by decide) dX12_range_20 ?_
    refine gk_HV F (gc_V F (S := []) (As := []) (T := TX12) (N := 62) (CX12_sing hst hf) (so_64 hst) (by decide) rfl kw_1223 kw_103 kw_1221 kw_1222 kw_74 hcX12_sing ⟨by decide, by decide⟩ rfl rfl (Nat.le_of_ble_eq_true rfl) ⟨by decide, by decide⟩ dX12_range_21) (fun s7 hf => ?_)
    refine gw_iconst F dX12_range_24 ?_
    refine gw_istore_n F rfl (by decide) rfl dX12_range_25 ?_
    refine gw_iconst F dX12_range_26 ?_
    refine gw_istore_n F rfl (by decide) rfl dX12_range_27 ?_
    refine gw_iconst F dX12_range_28 ?_
    refine gw_istore F (by decide) rfl dX12_range_29 ?_
    have L31 : ∀ (k107 : Int → Int → Prop) (hk107 : ∀ (x2_107e31 : Int) (x3_107e31 : Int), sg_R x2_107e31 → sg_R x3_107e31 → k107 x2_107e31 x3_107e31 → sg_W p l e (sg_rm 7 0 0) s m args below meth c (MQ below (sg_Q (some .int) G La s.heap.size (sg_HI La Q)) args s 0 0 (sg_A La s.heap.size)) 5 G (sg_A La s.heap.size) La s7 0 0 107 [(0, sg_r 64), (1, sg_i x1), (2, sg_i x2_107e31), (3, sg_i x3_107e31)] []), ∀ n_31 : Nat, ∀ (x2_31 : Int) (x3_31 : Int) (x4_31 : Int), sg_R x2_31 → sg_R x3_31 → sg_R x4_31 → fX12_range_L31 s7 k107 n_31 x2_31 x3_31 x4_31 → sg_W p l e (sg_rm 7 0 0) s m args below meth c (MQ below (sg_Q (some .int) G La s.heap.size (sg_HI La Q)) args s 0 0 (sg_A La s.heap.size)) 5 G (sg_A La s.heap.size) La s7 0 0 31 [(0, sg_r 64), (1, sg_i x1), (2, sg_i x2_31), (3, sg_i x3_31), (4, sg_i x4_31)] [] := by
      intro k107 hk107 n_31
      induction n_31 with
      | zero => intro x2_31 x3_31 x4_31 r2_31 r3_31 r4_31 hf; exact hf.elim
      | succ n_31 ih =>
        intro x2_31 x3_31 x4_31 r2_31 r3_31 r4_31 hf
        unfold fX12_range_L31 at hf
        refine gw_iload F 4 rfl dX12_range_31 ?_
        refine gw_aload_n F 0 rfl rfl (by decide) dX12_range_33 ?_
        refine gk_PI F (gc_V F (S := [sg_i x4_31]) (As := []) (T := TX12) (N := 62) (CX12_bends hst hf) (so_64 hst) (by decide) rfl kw_1203 kw_103 kw_1201 kw_1202 kw_70 hcX12_bends ⟨by decide, by decide⟩ rfl rfl (Nat.le_of_ble_eq_true rfl) ⟨by decide, by decide⟩ dX12_range_34) (fun u8 h9 hf => ?_)
        refine gw_icmp_ge F (tgt := 107) dX12_range_37 (by decide) r4_31 h9 (fun c10 => ?_) (fun c10 => ?_)
        · have hf := hf.1 c10
          refine gw_sub [0, 1, 2, 3] rfl ?_
          exact hk107 x2_31 x3_31 r2_31 r3_31 hf
        · have hf := hf.2 c10
          refine gw_aload_n F 0 rfl rfl (by decide) dX12_range_40 ?_
          refine gw_get7 F (so_64 hst) (by decide) rfl sg_lay_RX12 (j := 46) (by decide) (o1 := 80) (by first | rfl | omega) rfl (host := "") (.inl kw_993) dX12_range_41 (fun h11 => ?_)
          refine gw_iload F 4 rfl dX12_range_44 ?_
          obtain ⟨⟨b120, b121⟩, hf⟩ := hf
          refine gw_iald F (sa_80 hst) b120 b121 dX12_range_46 (fun h13 => ?_)
          have J101 : ∀ (x2_101 : Int) (x3_101 : Int), sg_R x2_101 → sg_R x3_101 → (fX12_range_j101 x4_31 (fX12_range_L31 s7 k107 n_31)) x2_101 x3_101 → sg_W p l e (sg_rm 7 0 0) s m args below meth c (MQ below (sg_Q (some .int) G La s.heap.size (sg_HI La Q)) args s 0 0 (sg_A La s.heap.size)) 5 G (sg_A La s.heap.size) La s7 0 0 101 [(0, sg_r 64), (1, sg_i x1), (2, sg_i x2_101), (3, sg_i x3_101), (4, sg_i x4_31)] [] := by
            intro x2_101 x3_101 r2_101 r3_101 hf
            unfold fX12_range_j101 at hf
            refine gw_iinc F (z := (x4_31 + 1)) 4 rfl (by omega) (by decide) rfl dX12_range_101 ?_
            refine gw_goto F (tgt := 31) dX12_range_104 (by decide) ?_
            obtain ⟨g14, hf⟩ := hf
            refine gw_sub [1, 2, 3, 4, 0] rfl ?_
            exact ih x2_101 x3_101 (x4_31 + 1) r2_101 r3_101 g14 hf
          refine gw_if_ne F (tgt := 53) dX12_range_47 (by decide) h13 (fun c15 => ?_) (fun c15 => ?_)
          · have hf := hf.1 c15
            refine gw_iload_n F 2 rfl rfl dX12_range_53 ?_
            refine gw_iconst F dX12_range_54 ?_
            have J77 : ∀ (x2_77 : Int), sg_R x2_77 → (fX12_range_j77 s7 x3_31 x4_31 (fX12_range_j101 x4_31 (fX12_range_L31 s7 k107 n_31))) x2_77 → sg_W p l e (sg_rm 7 0 0) s m args below meth c (MQ below (sg_Q (some .int) G La s.heap.size (sg_HI La Q)) args s 0 0 (sg_A La s.heap.size)) 5 G (sg_A La s.heap.size) La s7 0 0 77 [(0, sg_r 64), (1, sg_i x1), (2, sg_i x2_77), (3, sg_i x3_31), (4, sg_i x4_31)] [] := by
              intro x2_77 r2_77 hf
              unfold fX12_range_j77 at hf
              refine gw_iload_n F 3 rfl rfl dX12_range_77 ?_
              refine gw_iconst F dX12_range_78 ?_
              have J98 : (fX12_range_j98 x4_31 x2_77 (fX12_range_j101 x4_31 (fX12_range_L31 s7 k107 n_31))) → sg_W p l e (sg_rm 7 0 0) s m args below meth c (MQ below (sg_Q (some .int) G La s.heap.size (sg_HI La Q)) args s 0 0 (sg_A La s.heap.size)) 5 G (sg_A La s.heap.size) La s7 0 0 98 [(0, sg_r 64), (1, sg_i x1), (2, sg_i x2_77), (4, sg_i x4_31)] [] := by
                intro hf
                unfold fX12_range_j98 at hf
                refine gw_iload F 3 rfl dX12_range_98 ?_
                refine gw_istore_n F rfl (by decide) rfl dX12_range_100 ?_
                refine gw_sub [1, 2, 3, 0, 4] rfl ?_
                exact J101 x2_77 x4_31 r2_77 r4_31 hf
              refine gw_icmp_eq F (tgt := 98) dX12_range_79 (by decide) r3_31 (by decide) (fun c16 => ?_) (fun c16 => ?_)
              · have hf := hf.1 c16
                refine gw_sub [0, 1, 2, 4] rfl ?_
                exact J98  hf
              · have hf := hf.2 c16
                refine gw_aload_n F 0 rfl rfl (by decide) dX12_range_82 ?_
                refine gw_get7 F (so_64 hst) (by decide) rfl sg_lay_RX12 (j := 46) (by decide) (o1 := 80) (by first | rfl | omega) rfl (host := "") (.inl kw_993) dX12_range_83 (fun h17 => ?_)
                refine gw_iload F 4 rfl dX12_range_86 ?_
                obtain ⟨⟨b180, b181⟩, hf⟩ := hf
                refine gw_iald F (sa_80 hst) b180 b181 dX12_range_88 (fun h19 => ?_)
                refine gw_aload_n F 0 rfl rfl (by decide) dX12_range_89 ?_
                refine gw_get7 F (so_64 hst) (by decide) rfl sg_lay_RX12 (j := 46) (by decide) (o1 := 80) (by first | rfl | omega) rfl (host := "") (.inl kw_993) dX12_range_90 (fun h20 => ?_)
                refine gw_iload_n F 3 rfl rfl dX12_range_93 ?_
                obtain ⟨⟨b210, b211⟩, hf⟩ := hf
                refine gw_iald F (sa_80 hst) b210 b211 dX12_range_94 (fun h22 => ?_)
                refine gw_icmp_le F (tgt := 101) dX12_range_95 (by decide) h19 h22 (fun c23 => ?_) (fun c23 => ?_)
                · have hf := hf.1 c23
                  refine gw_sub [0, 1, 2, 3, 4] rfl ?_
                  exact J101 x2_77 x3_31 r2_77 r3_31 hf
                · have hf := hf.2 c23
                  refine gw_sub [0, 1, 2, 4] rfl ?_
                  exact J98  hf
            have J74 : (fX12_range_j74 x4_31 (fX12_range_j77 s7 x3_31 x4_31 (fX12_range_j101 x4_31 (fX12_range_L31 s7 k107 n_31)))) → sg_W p l e (sg_rm 7 0 0) s m args below meth c (MQ below (sg_Q (some .int) G La s.heap.size (sg_HI La Q)) args s 0 0 (sg_A La s.heap.size)) 5 G (sg_A La s.heap.size) La s7 0 0 74 [(0, sg_r 64), (1, sg_i x1), (3, sg_i x3_31), (4, sg_i x4_31)] [] := by
              intro hf
              unfold fX12_range_j74 at hf
              refine gw_iload F 3 rfl dX12_range_74 ?_
              refine gw_istore_n F rfl (by decide) rfl dX12_range_76 ?_
              refine gw_sub [1, 2, 0, 3, 4] rfl ?_
              exact J77 x4_31 r4_31 hf
            refine gw_icmp_eq F (tgt := 74) dX12_range_55 (by decide) r2_31 (by decide) (fun c24 => ?_) (fun c24 => ?_)
            · have hf := hf.1 c24
              refine gw_sub [0, 1, 3, 4] rfl ?_
              exact J74  hf
            · have hf := hf.2 c24
              refine gw_aload_n F 0 rfl rfl (by decide) dX12_range_58 ?_
              refine gw_get7 F (so_64 hst) (by decide) rfl sg_lay_RX12 (j := 46) (by decide) (o1 := 80) (by first | rfl | omega) rfl (host := "") (.inl kw_993) dX12_range_59 (fun h25 => ?_)
              refine gw_iload F 4 rfl dX12_range_62 ?_
              obtain ⟨⟨b260, b261⟩, hf⟩ := hf
              refine gw_iald F (sa_80 hst) b260 b261 dX12_range_64 (fun h27 => ?_)
              refine gw_aload_n F 0 rfl rfl (by decide) dX12_range_65 ?_
              refine gw_get7 F (so_64 hst) (by decide) rfl sg_lay_RX12 (j := 46) (by decide) (o1 := 80) (by first | rfl | omega) rfl (host := "") (.inl kw_993) dX12_range_66 (fun h28 => ?_)
              refine gw_iload_n F 2 rfl rfl dX12_range_69 ?_
              obtain ⟨⟨b290, b291⟩, hf⟩ := hf
              refine gw_iald F (sa_80 hst) b290 b291 dX12_range_70 (fun h30 => ?_)
              refine gw_icmp_ge F (tgt := 77) dX12_range_71 (by decide) h27 h30 (fun c31 => ?_) (fun c31 => ?_)
              · have hf := hf.1 c31
                refine gw_sub [0, 1, 2, 3, 4] rfl ?_
                exact J77 x2_31 r2_31 hf
              · have hf := hf.2 c31
                refine gw_sub [0, 1, 3, 4] rfl ?_
                exact J74  hf
          · have hf := hf.2 c15
            refine gw_goto F (tgt := 101) dX12_range_50 (by decide) ?_
            refine gw_sub [0, 1, 2, 3, 4] rfl ?_
            exact J101 x2_31 x3_31 r2_31 r3_31 hf
    obtain ⟨n32, hf⟩ := hf
    refine gw_sub [3, 4, 2, 1, 0] rfl ?_
    refine L31 _ (fun x2_107e31 x3_107e31 r2_107e31 r3_107e31 hf => ?_) n32 (-1) (-1) 0 (by decide) (by decide) (by decide) hf
    refine gw_iload_n F 2 rfl rfl dX12_range_107 ?_
    refine gw_iconst F dX12_range_108 ?_
    refine gw_icmp_ne F (tgt := 114) dX12_range_109 (by decide) r2_107e31 (by decide) (fun c33 => ?_) (fun c33 => ?_)
    · have hf := hf.1 c33
      refine gw_iload_n F 1 rfl rfl dX12_range_114 ?_
      refine gw_if_ne F (tgt := 127) dX12_range_115 (by decide) r1 (fun c34 => ?_) (fun c34 => ?_)
      · have hf := hf.1 c34
        refine gw_iload_n F 1 rfl rfl dX12_range_127 ?_
        refine gw_iconst F dX12_range_128 ?_
        refine gw_icmp_ne F (tgt := 141) dX12_range_129 (by decide) r1 (by decide) (fun c35 => ?_) (fun c35 => ?_)
        · have hf := hf.1 c35
          refine gw_iload_n F 1 rfl rfl dX12_range_141 ?_
          refine gw_iconst F dX12_range_142 ?_
          refine gw_icmp_ne F (tgt := 150) dX12_range_143 (by decide) r1 (by decide) (fun c36 => ?_) (fun c36 => ?_)
          · have hf := hf.1 c36
            refine gw_iload_n F 3 rfl rfl dX12_range_150 ?_
            exact gr_HI F r3_107e31 hf (by decide) (by decide) dX12_range_151
          · have hf := hf.2 c36
            refine gw_iload_n F 2 rfl rfl dX12_range_146 ?_
            refine gw_goto F (tgt := 151) dX12_range_147 (by decide) ?_
            exact gr_HI F r2_107e31 hf (by decide) (by decide) dX12_range_151
        · have hf := hf.2 c35
          refine gw_aload_n F 0 rfl rfl (by decide) dX12_range_132 ?_
          refine gw_get7 F (so_64 hst) (by decide) rfl sg_lay_RX12 (j := 46) (by decide) (o1 := 80) (by first | rfl | omega) rfl (host := "") (.inl kw_993) dX12_range_133 (fun h37 => ?_)
          refine gw_iload_n F 3 rfl rfl dX12_range_136 ?_
          obtain ⟨⟨b380, b381⟩, hf⟩ := hf
          refine gw_iald F (sa_80 hst) b380 b381 dX12_range_137 (fun h39 => ?_)
          refine gw_goto F (tgt := 151) dX12_range_138 (by decide) ?_
          exact gr_HI F h39 hf (by decide) (by decide) dX12_range_151
      · have hf := hf.2 c34
        refine gw_aload_n F 0 rfl rfl (by decide) dX12_range_118 ?_
        refine gw_get7 F (so_64 hst) (by decide) rfl sg_lay_RX12 (j := 46) (by decide) (o1 := 80) (by first | rfl | omega) rfl (host := "") (.inl kw_993) dX12_range_119 (fun h40 => ?_)
        refine gw_iload_n F 2 rfl rfl dX12_range_122 ?_
        obtain ⟨⟨b410, b411⟩, hf⟩ := hf
        refine gw_iald F (sa_80 hst) b410 b411 dX12_range_123 (fun h42 => ?_)
        refine gw_goto F (tgt := 151) dX12_range_124 (by decide) ?_
        exact gr_HI F h42 hf (by decide) (by decide) dX12_range_151
    · have hf := hf.2 c33
      refine gw_iconst F dX12_range_112 ?_
      exact gr_HI F (by decide) hf (by decide) (by decide) dX12_range_113
  · have hf := hf.2 c6
    refine gw_iconst F dX12_range_18 ?_
    exact gr_HI F (by decide) hf (by decide) (by decide) dX12_range_19

theorem dX12_strengthAt_0 : decode cX12_strengthAt 0 = .ok (.iload_n 1, 1) := by decide +kernel
theorem dX12_strengthAt_1 : decode cX12_strengthAt 1 = .ok (.aload_n 0, 1) := by decide +kernel
theorem dX12_strengthAt_2 : decode cX12_strengthAt 2 = .ok (.getfield 239, 3) := by decide +kernel
theorem dX12_strengthAt_5 : decode cX12_strengthAt 5 = .ok (.if_icmp .lt 11, 3) := by decide +kernel
theorem dX12_strengthAt_8 : decode cX12_strengthAt 8 = .ok (.iload_n 1, 1) := by decide +kernel
theorem dX12_strengthAt_9 : decode cX12_strengthAt 9 = .ok (.aload_n 0, 1) := by decide +kernel
theorem dX12_strengthAt_10 : decode cX12_strengthAt 10 = .ok (.getfield 242, 3) := by decide +kernel
theorem dX12_strengthAt_13 : decode cX12_strengthAt 13 = .ok (.if_icmp .le 5, 3) := by decide +kernel
theorem dX12_strengthAt_16 : decode cX12_strengthAt 16 = .ok (.iconst 0, 1) := by decide +kernel
theorem dX12_strengthAt_17 : decode cX12_strengthAt 17 = .ok (.ireturn, 1) := by decide +kernel
theorem dX12_strengthAt_18 : decode cX12_strengthAt 18 = .ok (.iload_n 2, 1) := by decide +kernel
theorem dX12_strengthAt_19 : decode cX12_strengthAt 19 = .ok (.iload_n 2, 1) := by decide +kernel
theorem dX12_strengthAt_20 : decode cX12_strengthAt 20 = .ok (.imul, 1) := by decide +kernel
theorem dX12_strengthAt_21 : decode cX12_strengthAt 21 = .ok (.aload_n 0, 1) := by decide +kernel
theorem dX12_strengthAt_22 : decode cX12_strengthAt 22 = .ok (.getfield 35, 3) := by decide +kernel
theorem dX12_strengthAt_25 : decode cX12_strengthAt 25 = .ok (.iload_n 1, 1) := by decide +kernel
theorem dX12_strengthAt_26 : decode cX12_strengthAt 26 = .ok (.iaload, 1) := by decide +kernel
theorem dX12_strengthAt_27 : decode cX12_strengthAt 27 = .ok (.isub, 1) := by decide +kernel
theorem dX12_strengthAt_28 : decode cX12_strengthAt 28 = .ok (.invokestatic 245, 3) := by decide +kernel
theorem dX12_strengthAt_31 : decode cX12_strengthAt 31 = .ok (.iconst 2, 1) := by decide +kernel
theorem dX12_strengthAt_32 : decode cX12_strengthAt 32 = .ok (.idiv, 1) := by decide +kernel
theorem dX12_strengthAt_33 : decode cX12_strengthAt 33 = .ok (.istore_n 3, 1) := by decide +kernel
theorem dX12_strengthAt_34 : decode cX12_strengthAt 34 = .ok (.aload_n 0, 1) := by decide +kernel
theorem dX12_strengthAt_35 : decode cX12_strengthAt 35 = .ok (.getfield 239, 3) := by decide +kernel
theorem dX12_strengthAt_38 : decode cX12_strengthAt 38 = .ok (.istore 4, 2) := by decide +kernel
theorem dX12_strengthAt_40 : decode cX12_strengthAt 40 = .ok (.iload 4, 2) := by decide +kernel
theorem dX12_strengthAt_42 : decode cX12_strengthAt 42 = .ok (.iload_n 1, 1) := by decide +kernel
theorem dX12_strengthAt_43 : decode cX12_strengthAt 43 = .ok (.if_icmp .ge 26, 3) := by decide +kernel
theorem dX12_strengthAt_46 : decode cX12_strengthAt 46 = .ok (.iload_n 3, 1) := by decide +kernel
theorem dX12_strengthAt_47 : decode cX12_strengthAt 47 = .ok (.iload_n 2, 1) := by decide +kernel
theorem dX12_strengthAt_48 : decode cX12_strengthAt 48 = .ok (.iload_n 2, 1) := by decide +kernel
theorem dX12_strengthAt_49 : decode cX12_strengthAt 49 = .ok (.imul, 1) := by decide +kernel
theorem dX12_strengthAt_50 : decode cX12_strengthAt 50 = .ok (.aload_n 0, 1) := by decide +kernel
theorem dX12_strengthAt_51 : decode cX12_strengthAt 51 = .ok (.getfield 35, 3) := by decide +kernel
theorem dX12_strengthAt_54 : decode cX12_strengthAt 54 = .ok (.iload 4, 2) := by decide +kernel
theorem dX12_strengthAt_56 : decode cX12_strengthAt 56 = .ok (.iaload, 1) := by decide +kernel
theorem dX12_strengthAt_57 : decode cX12_strengthAt 57 = .ok (.isub, 1) := by decide +kernel
theorem dX12_strengthAt_58 : decode cX12_strengthAt 58 = .ok (.invokestatic 245, 3) := by decide +kernel
theorem dX12_strengthAt_61 : decode cX12_strengthAt 61 = .ok (.iadd, 1) := by decide +kernel
theorem dX12_strengthAt_62 : decode cX12_strengthAt 62 = .ok (.istore_n 3, 1) := by decide +kernel
theorem dX12_strengthAt_63 : decode cX12_strengthAt 63 = .ok (.iinc 4 1, 3) := by decide +kernel
theorem dX12_strengthAt_66 : decode cX12_strengthAt 66 = .ok (.goto (-26), 3) := by decide +kernel
theorem dX12_strengthAt_69 : decode cX12_strengthAt 69 = .ok (.iload_n 3, 1) := by decide +kernel
theorem dX12_strengthAt_70 : decode cX12_strengthAt 70 = .ok (.iconst 2, 1) := by decide +kernel
theorem dX12_strengthAt_71 : decode cX12_strengthAt 71 = .ok (.aload_n 0, 1) := by decide +kernel
theorem dX12_strengthAt_72 : decode cX12_strengthAt 72 = .ok (.getfield 215, 3) := by decide +kernel
theorem dX12_strengthAt_75 : decode cX12_strengthAt 75 = .ok (.imul, 1) := by decide +kernel
theorem dX12_strengthAt_76 : decode cX12_strengthAt 76 = .ok (.irem, 1) := by decide +kernel
theorem dX12_strengthAt_77 : decode cX12_strengthAt 77 = .ok (.istore 4, 2) := by decide +kernel
theorem dX12_strengthAt_79 : decode cX12_strengthAt 79 = .ok (.iload 4, 2) := by decide +kernel
theorem dX12_strengthAt_81 : decode cX12_strengthAt 81 = .ok (.iconst 2, 1) := by decide +kernel
theorem dX12_strengthAt_82 : decode cX12_strengthAt 82 = .ok (.aload_n 0, 1) := by decide +kernel
theorem dX12_strengthAt_83 : decode cX12_strengthAt 83 = .ok (.getfield 215, 3) := by decide +kernel
theorem dX12_strengthAt_86 : decode cX12_strengthAt 86 = .ok (.imul, 1) := by decide +kernel
theorem dX12_strengthAt_87 : decode cX12_strengthAt 87 = .ok (.iload 4, 2) := by decide +kernel
theorem dX12_strengthAt_89 : decode cX12_strengthAt 89 = .ok (.isub, 1) := by decide +kernel
theorem dX12_strengthAt_90 : decode cX12_strengthAt 90 = .ok (.if_icmp .ge 8, 3) := by decide +kernel
theorem dX12_strengthAt_93 : decode cX12_strengthAt 93 = .ok (.iload 4, 2) := by decide +kernel
theorem dX12_strengthAt_95 : decode cX12_strengthAt 95 = .ok (.goto 12, 3) := by decide +kernel
theorem dX12_strengthAt_98 : decode cX12_strengthAt 98 = .ok (.iconst 2, 1) := by decide +kernel
theorem dX12_strengthAt_99 : decode cX12_strengthAt 99 = .ok (.aload_n 0, 1) := by decide +kernel
theorem dX12_strengthAt_100 : decode cX12_strengthAt 100 = .ok (.getfield 215, 3) := by decide +kernel
theorem dX12_strengthAt_103 : decode cX12_strengthAt 103 = .ok (.imul, 1) := by decide +kernel
theorem dX12_strengthAt_104 : decode cX12_strengthAt 104 = .ok (.iload 4, 2) := by decide +kernel
theorem dX12_strengthAt_106 : decode cX12_strengthAt 106 = .ok (.isub, 1) := by decide +kernel
theorem dX12_strengthAt_107 : decode cX12_strengthAt 107 = .ok (.ireturn, 1) := by decide +kernel
theorem hcX12_strengthAt : yX12_strengthAt.cls ≠ "java/lang/invoke/MethodHandle" ∧ yX12_strengthAt.cls ≠ "java/lang/invoke/VarHandle" ∧ (parseMethodDescriptor yX12_strengthAt.desc).map (fun d => d.parameters.length) = some 2 := ⟨by decide +kernel, by decide +kernel, by decide +kernel⟩
def fX12_strengthAt_L40 (s0 : sg_M) (x1 : Int) (x2 : Int) (k69 : Int → Prop) : Nat → Int → Int → Prop
  | 0, _, _ => False
  | n_40 + 1, x3_40, x4_40 => ((x1 ≤ x4_40 → k69 x3_40) ∧ (¬ (x1 ≤ x4_40) → (0 ≤ x4_40 ∧ x4_40 < 60) ∧ sg_R ((x2 * x2) - (s0 73 x4_40)) ∧ fX12_root ((x2 * x2) - (s0 73 x4_40)) (fun u17 => sg_R (x3_40 + u17) ∧ sg_R (x4_40 + 1) ∧ (fX12_strengthAt_L40 s0 x1 x2 k69 n_40) (x3_40 + u17) (x4_40 + 1))))
def fX12_strengthAt (s0 : sg_M) (x1 : Int) (x2 : Int) (Q : Int → Prop) : Prop := ((x1 < (s0 64 32) → Q 0) ∧ (¬ (x1 < (s0 64 32)) → ((x1 ≤ (s0 64 33) → (0 ≤ x1 ∧ x1 < 60) ∧ sg_R ((x2 * x2) - (s0 73 x1)) ∧ fX12_root ((x2 * x2) - (s0 73 x1)) (fun u9 => sg_R (Int.tdiv u9 2) ∧ (∃ n22 : Nat, fX12_strengthAt_L40 s0 x1 x2 (fun x3_69e40 => sg_R (2 * (s0 64 28)) ∧ ((2 * (s0 64 28)) ≠ 0) ∧ ∀ v26 : Int, v26 = (Int.tmod x3_69e40 (2 * (s0 64 28))) → sg_R v26 ∧ sg_R ((2 * (s0 64 28)) - v26) ∧ ((((2 * (s0 64 28)) - v26) ≤ v26 → sg_R ((2 * (s0 64 28)) - v26) ∧ Q ((2 * (s0 64 28)) - v26)) ∧ (¬ (((2 * (s0 64 28)) - v26) ≤ v26) → Q v26))) n22 (Int.tdiv u9 2) (s0 64 32)))) ∧ (¬ (x1 ≤ (s0 64 33)) → Q 0))))
set_option maxHeartbeats 4000000 in
set_option maxRecDepth 100000 in
theorem CX12_strengthAt {l : Launch} {G : sg_G} {La : sg_L} {s0 : sg_M} (hst : sg_St La) {x1 : Int} (r1 : sg_R x1) {x2 : Int} (r2 : sg_R x2) {Q : Int → Prop} (hf : fX12_strengthAt s0 x1 x2 Q) : sg_C l G yX12_strengthAt cX12_strengthAt 5 (some .int) 2 0 0 La s0 [sg_r 64, sg_i x1, sg_i x2] (sg_PI La s0 Q) := by
  refine sg_body (by decide +kernel) (Nat.le_of_ble_eq_true rfl) ?_
  intro p e s m args below meth c F hnm
  unfold fX12_strengthAt at hf
  show sg_W p l e (sg_rm 2 0 0) s m args below meth c (MQ below (sg_Q (some .int) G La s.heap.size (sg_PI La s0 Q)) args s 0 0 (sg_A La s.heap.size)) 5 G (sg_A La s.heap.size) La s0 0 0 0 [(0, sg_r 64), (1, sg_i x1), (2, sg_i x2)] []
  refine gw_iload_n F 1 rfl rfl dX12_strengthAt_0 ?_
  refine gw_aload_n F 0 rfl rfl (by decide) dX12_strengthAt_1 ?_
  refine gw_get0 F (so_64 hst) (by decide) rfl sg_lay_RX12 (j := 32) (by decide) rfl (host := "") (.inl kw_979) dX12_strengthAt_2 (fun h1 => ?_)
  refine gw_icmp_lt F (tgt := 16) dX12_strengthAt_5 (by decide) r1 h1 (fun c2 => ?_) (fun c2 => ?_)
  · have hf := hf.1 c2
    refine gw_iconst F dX12_strengthAt_16 ?_
    exact gr_PI F (by decide) hf (by decide) (by decide) dX12_strengthAt_17
  · have hf := hf.2 c2
    refine gw_iload_n F 1 rfl rfl dX12_strengthAt_8 ?_
    refine gw_aload_n F 0 rfl rfl (by decide) dX12_strengthAt_9 ?_
    refine gw_get0 F (so_64 hst) (by decide) rfl sg_lay_RX12 (j := 33) (by decide) rfl (host := "") (.inl kw_980) dX12_strengthAt_10 (fun h3 => ?_)
    refine gw_icmp_le F (tgt := 18) dX12_strengthAt_13 (by decide) r1 h3 (fun c4 => ?_) (fun c4 => ?_)
    · have hf := hf.1 c4
      refine gw_iload_n F 2 rfl rfl dX12_strengthAt_18 ?_
      refine gw_iload_n F 2 rfl rfl dX12_strengthAt_19 ?_
      refine gw_imul F rfl dX12_strengthAt_20 ?_
      refine gw_aload_n F 0 rfl rfl (by decide) dX12_strengthAt_21 ?_
      refine gw_get7 F (so_64 hst) (by decide) rfl sg_lay_RX12 (j := 23) (by decide) (o1 := 73) (by first | rfl | omega) rfl (host := "") (.inl kw_970) dX12_strengthAt_22 (fun h5 => ?_)
      refine gw_iload_n F 1 rfl rfl dX12_strengthAt_25 ?_
      obtain ⟨⟨b60, b61⟩, hf⟩ := hf
      refine gw_iald F (sa_73 hst) b60 b61 dX12_strengthAt_26 (fun h7 => ?_)
      refine gw_isub F rfl dX12_strengthAt_27 ?_
      obtain ⟨g8, hf⟩ := hf
      refine gk_PI F (gc_S F (S := []) (As := [sg_i ((x2 * x2) - (s0 73 x1))]) (CX12_root g8 hf) kw_1136 kw_103 kw_1134 kw_1135 hcX12_root ⟨by decide, by decide⟩ rfl rfl (Nat.le_of_ble_eq_true rfl) ⟨by decide, by decide⟩ dX12_strengthAt_28) (fun u9 h10 hf => ?_)
      refine gw_iconst F dX12_strengthAt_31 ?_
      refine gw_idiv F h10 (by decide) (by decide) rfl dX12_strengthAt_32 ?_
      refine gw_istore_n F rfl (by decide) rfl dX12_strengthAt_33 ?_
      refine gw_aload_n F 1 rfl rfl (by decide) dX12_strengthAt_34 ?_
      refine gw_get0 F (so_64 hst) (by decide) rfl sg_lay_RX12 (j := 32) (by decide) rfl (host := "") (.inl kw_979) dX12_strengthAt_35 (fun h11 => ?_)
      refine gw_istore F (by decide) rfl dX12_strengthAt_38 ?_
      have L40 : ∀ (k69 : Int → Prop) (hk69 : ∀ (x3_69e40 : Int), sg_R x3_69e40 → k69 x3_69e40 → sg_W p l e (sg_rm 2 0 0) s m args below meth c (MQ below (sg_Q (some .int) G La s.heap.size (sg_PI La s0 Q)) args s 0 0 (sg_A La s.heap.size)) 5 G (sg_A La s.heap.size) La s0 0 0 69 [(0, sg_r 64), (3, sg_i x3_69e40)] []), ∀ n_40 : Nat, ∀ (x3_40 : Int) (x4_40 : Int), sg_R x3_40 → sg_R x4_40 → fX12_strengthAt_L40 s0 x1 x2 k69 n_40 x3_40 x4_40 → sg_W p l e (sg_rm 2 0 0) s m args below meth c (MQ below (sg_Q (some .int) G La s.heap.size (sg_PI La s0 Q)) args s 0 0 (sg_A La s.heap.size)) 5 G (sg_A La s.heap.size) La s0 0 0 40 [(0, sg_r 64), (1, sg_i x1), (2, sg_i x2), (3, sg_i x3_40), (4, sg_i x4_40)] [] := by
        intro k69 hk69 n_40
        induction n_40 with
        | zero => intro x3_40 x4_40 r3_40 r4_40 hf; exact hf.elim
        | succ n_40 ih =>
          intro x3_40 x4_40 r3_40 r4_40 hf
          unfold fX12_strengthAt_L40 at hf
          refine gw_iload F 4 rfl dX12_strengthAt_40 ?_
          refine gw_iload_n F 1 rfl rfl dX12_strengthAt_42 ?_
          refine gw_icmp_ge F (tgt := 69) dX12_strengthAt_43 (by decide) r4_40 r1 (fun c12 => ?_) (fun c12 => ?_)
          · have hf := hf.1 c12
            refine gw_sub [0, 3] rfl ?_
            exact hk69 x3_40 r3_40 hf
          · have hf := hf.2 c12
            refine gw_iload_n F 3 rfl rfl dX12_strengthAt_46 ?_
            refine gw_iload_n F 2 rfl rfl dX12_strengthAt_47 ?_
            refine gw_iload_n F 2 rfl rfl dX12_strengthAt_48 ?_
            refine gw_imul F rfl dX12_strengthAt_49 ?_
            refine gw_aload_n F 0 rfl rfl (by decide) dX12_strengthAt_50 ?_
            refine gw_get7 F (so_64 hst) (by decide) rfl sg_lay_RX12 (j := 23) (by decide) (o1 := 73) (by first | rfl | omega) rfl (host := "") (.inl kw_970) dX12_strengthAt_51 (fun h13 => ?_)
            refine gw_iload F 4 rfl dX12_strengthAt_54 ?_
            obtain ⟨⟨b140, b141⟩, hf⟩ := hf
            refine gw_iald F (sa_73 hst) b140 b141 dX12_strengthAt_56 (fun h15 => ?_)
            refine gw_isub F rfl dX12_strengthAt_57 ?_
            obtain ⟨g16, hf⟩ := hf
            refine gk_PI F (gc_S F (S := [sg_i x3_40]) (As := [sg_i ((x2 * x2) - (s0 73 x4_40))]) (CX12_root g16 hf) kw_1136 kw_103 kw_1134 kw_1135 hcX12_root ⟨by decide, by decide⟩ rfl rfl (Nat.le_of_ble_eq_true rfl) ⟨by decide, by decide⟩ dX12_strengthAt_58) (fun u17 h18 hf => ?_)
            refine gw_iadd F rfl dX12_strengthAt_61 ?_
            refine gw_istore_n F rfl (by decide) rfl dX12_strengthAt_62 ?_
            refine gw_iinc F (z := (x4_40 + 1)) 4 rfl (by omega) (by decide) rfl dX12_strengthAt_63 ?_
            refine gw_goto F (tgt := 40) dX12_strengthAt_66 (by decide) ?_
            obtain ⟨g19, hf⟩ := hf
            obtain ⟨g20, hf⟩ := hf
            refine gw_sub [2, 3, 4, 1, 0] rfl ?_
            exact ih (x3_40 + u17) (x4_40 + 1) g19 g20 hf
      obtain ⟨g21, hf⟩ := hf
      obtain ⟨n22, hf⟩ := hf
      refine gw_sub [2, 3, 4, 1, 0] rfl ?_
      refine L40 _ (fun x3_69e40 r3_69e40 hf => ?_) n22 (Int.tdiv u9 2) (s0 64 32) g21 h11 hf
      refine gw_iload_n F 1 rfl rfl dX12_strengthAt_69 ?_
      refine gw_iconst F dX12_strengthAt_70 ?_
      refine gw_aload_n F 0 rfl rfl (by decide) dX12_strengthAt_71 ?_
      refine gw_get0 F (so_64 hst) (by decide) rfl sg_lay_RX12 (j := 28) (by decide) rfl (host := "") (.inl kw_975) dX12_strengthAt_72 (fun h23 => ?_)
      refine gw_imul F rfl dX12_strengthAt_75 ?_
      obtain ⟨g24, hf⟩ := hf
      obtain ⟨g25, hf⟩ := hf
      refine gw_irem F r3_69e40 g24 g25 rfl dX12_strengthAt_76 ?_
      obtain ⟨v26, e27⟩ : ∃ z : Int, z = (Int.tmod x3_69e40 (2 * (s0 64 28))) := ⟨_, rfl⟩
      obtain ⟨g28, hf⟩ := hf v26 e27
      refine gw_nmI e27 ?_
      refine gw_istore F (by decide) rfl dX12_strengthAt_77 ?_
      refine gw_iload F 0 rfl dX12_strengthAt_79 ?_
      refine gw_iconst F dX12_strengthAt_81 ?_
      refine gw_aload_n F 1 rfl rfl (by decide) dX12_strengthAt_82 ?_
      refine gw_get0 F (so_64 hst) (by decide) rfl sg_lay_RX12 (j := 28) (by decide) rfl (host := "") (.inl kw_975) dX12_strengthAt_83 (fun h29 => ?_)
      refine gw_imul F rfl dX12_strengthAt_86 ?_
      refine gw_iload F 0 rfl dX12_strengthAt_87 ?_
      refine gw_isub F rfl dX12_strengthAt_89 ?_
      obtain ⟨g30, hf⟩ := hf
      refine gw_icmp_ge F (tgt := 98) dX12_strengthAt_90 (by decide) g28 g30 (fun c31 => ?_) (fun c31 => ?_)
      · have hf := hf.1 c31
        refine gw_iconst F dX12_strengthAt_98 ?_
        refine gw_aload_n F 1 rfl rfl (by decide) dX12_strengthAt_99 ?_
        refine gw_get0 F (so_64 hst) (by decide) rfl sg_lay_RX12 (j := 28) (by decide) rfl (host := "") (.inl kw_975) dX12_strengthAt_100 (fun h32 => ?_)
        refine gw_imul F rfl dX12_strengthAt_103 ?_
        refine gw_iload F 0 rfl dX12_strengthAt_104 ?_
        refine gw_isub F rfl dX12_strengthAt_106 ?_
        obtain ⟨g33, hf⟩ := hf
        exact gr_PI F g33 hf (by decide) (by decide) dX12_strengthAt_107
      · have hf := hf.2 c31
        refine gw_iload F 0 rfl dX12_strengthAt_93 ?_
        refine gw_goto F (tgt := 107) dX12_strengthAt_95 (by decide) ?_
        exact gr_PI F g28 hf (by decide) (by decide) dX12_strengthAt_107
    · have hf := hf.2 c4
      refine gw_iconst F dX12_strengthAt_16 ?_
      exact gr_PI F (by decide) hf (by decide) (by decide) dX12_strengthAt_17

theorem dX12_restore_0 : decode cX12_restore 0 = .ok (.aload_n 0, 1) := by decide +kernel
theorem dX12_restore_1 : decode cX12_restore 1 = .ok (.iconst 0, 1) := by decide +kernel
theorem dX12_restore_2 : decode cX12_restore 2 = .ok (.putfield 84, 3) := by decide +kernel
theorem dX12_restore_5 : decode cX12_restore 5 = .ok (.aload_n 0, 1) := by decide +kernel
theorem dX12_restore_6 : decode cX12_restore 6 = .ok (.invokevirtual 175, 3) := by decide +kernel
theorem dX12_restore_9 : decode cX12_restore 9 = .ok (.iload_n 1, 1) := by decide +kernel
theorem dX12_restore_10 : decode cX12_restore 10 = .ok (.iconst 0, 1) := by decide +kernel
theorem dX12_restore_11 : decode cX12_restore 11 = .ok (.iconst 1, 1) := by decide +kernel
theorem dX12_restore_12 : decode cX12_restore 12 = .ok (.invokestatic 155, 3) := by decide +kernel
theorem dX12_restore_15 : decode cX12_restore 15 = .ok (.ifCond .eq 12, 3) := by decide +kernel
theorem dX12_restore_18 : decode cX12_restore 18 = .ok (.aload_n 0, 1) := by decide +kernel
theorem dX12_restore_19 : decode cX12_restore 19 = .ok (.getfield 28, 3) := by decide +kernel
theorem dX12_restore_22 : decode cX12_restore 22 = .ok (.iload_n 1, 1) := by decide +kernel
theorem dX12_restore_23 : decode cX12_restore 23 = .ok (.baload, 1) := by decide +kernel
theorem dX12_restore_24 : decode cX12_restore 24 = .ok (.ifCond .ne 5, 3) := by decide +kernel
theorem dX12_restore_27 : decode cX12_restore 27 = .ok (.iconst 0, 1) := by decide +kernel
theorem dX12_restore_28 : decode cX12_restore 28 = .ok (.ireturn, 1) := by decide +kernel
theorem dX12_restore_29 : decode cX12_restore 29 = .ok (.iconst 0, 1) := by decide +kernel
theorem dX12_restore_30 : decode cX12_restore 30 = .ok (.istore_n 2, 1) := by decide +kernel
theorem dX12_restore_31 : decode cX12_restore 31 = .ok (.iload_n 2, 1) := by decide +kernel
theorem dX12_restore_32 : decode cX12_restore 32 = .ok (.sipush 2040, 3) := by decide +kernel
theorem dX12_restore_35 : decode cX12_restore 35 = .ok (.if_icmp .ge 27, 3) := by decide +kernel
theorem dX12_restore_38 : decode cX12_restore 38 = .ok (.aload_n 0, 1) := by decide +kernel
theorem dX12_restore_39 : decode cX12_restore 39 = .ok (.getfield 13, 3) := by decide +kernel
theorem dX12_restore_42 : decode cX12_restore 42 = .ok (.iload_n 2, 1) := by decide +kernel
theorem dX12_restore_43 : decode cX12_restore 43 = .ok (.aload_n 0, 1) := by decide +kernel
theorem dX12_restore_44 : decode cX12_restore 44 = .ok (.getfield 19, 3) := by decide +kernel
theorem dX12_restore_47 : decode cX12_restore 47 = .ok (.sipush 2040, 3) := by decide +kernel
theorem dX12_restore_50 : decode cX12_restore 50 = .ok (.iload_n 1, 1) := by decide +kernel
theorem dX12_restore_51 : decode cX12_restore 51 = .ok (.imul, 1) := by decide +kernel
theorem dX12_restore_52 : decode cX12_restore 52 = .ok (.iload_n 2, 1) := by decide +kernel
theorem dX12_restore_53 : decode cX12_restore 53 = .ok (.iadd, 1) := by decide +kernel
theorem dX12_restore_54 : decode cX12_restore 54 = .ok (.iaload, 1) := by decide +kernel
theorem dX12_restore_55 : decode cX12_restore 55 = .ok (.iastore, 1) := by decide +kernel
theorem dX12_restore_56 : decode cX12_restore 56 = .ok (.iinc 2 1, 3) := by decide +kernel
theorem dX12_restore_59 : decode cX12_restore 59 = .ok (.goto (-28), 3) := by decide +kernel
theorem dX12_restore_62 : decode cX12_restore 62 = .ok (.iconst 1, 1) := by decide +kernel
theorem dX12_restore_63 : decode cX12_restore 63 = .ok (.ireturn, 1) := by decide +kernel
theorem hcX12_restore : yX12_restore.cls ≠ "java/lang/invoke/MethodHandle" ∧ yX12_restore.cls ≠ "java/lang/invoke/VarHandle" ∧ (parseMethodDescriptor yX12_restore.desc).map (fun d => d.parameters.length) = some 1 := ⟨by decide +kernel, by decide +kernel, by decide +kernel⟩
def fX12_restore_L31 (x1 : Int) (Q : Int → sg_M → Prop) : Nat → sg_M → Int → Prop
  | 0, _, _ => False
  | n_31 + 1, s_31, x2_31 => ((2040 ≤ x2_31 → Q 1 s_31) ∧ (¬ (2040 ≤ x2_31) → (0 ≤ ((2040 * x1) + x2_31) ∧ ((2040 * x1) + x2_31) < 4080) ∧ (0 ≤ x2_31 ∧ x2_31 < 2040) ∧ ∀ v17 : Int, v17 = (s_31 68 ((2040 * x1) + x2_31)) → ∀ s19 : sg_M, s19 = sg_up s_31 66 x2_31 v17 → sg_R (x2_31 + 1) ∧ (fX12_restore_L31 x1 Q n_31) s19 (x2_31 + 1)))
def fX12_restore (s0 : sg_M) (x1 : Int) (Q : Int → sg_M → Prop) : Prop := ∀ s1 : sg_M, s1 = sg_up s0 64 0 0 → fX12_lay s1 (fun s3 => fX12_isIn x1 0 1 (fun u4 => ((u4 = 0 → Q 0 s3) ∧ (¬ (u4 = 0) → (0 ≤ x1 ∧ x1 < 2) ∧ (((s3 71 x1) ≠ 0 → (∃ n22 : Nat, fX12_restore_L31 x1 Q n22 s3 0)) ∧ ((s3 71 x1) = 0 → Q 0 s3))))))
set_option maxHeartbeats 4000000 in
set_option maxRecDepth 100000 in
theorem CX12_restore {l : Launch} {G : sg_G} {La : sg_L} {s0 : sg_M} (hst : sg_St La) {x1 : Int} (r1 : sg_R x1) {Q : Int → sg_M → Prop} (hf : fX12_restore s0 x1 Q) : sg_C l G yX12_restore cX12_restore 3 (some .boolean) 2 0 0 La s0 [sg_r 64, sg_i x1] (sg_HZ La Q) := by
  refine sg_body (by decide +kernel) (Nat.le_of_ble_eq_true rfl) ?_
  intro p e s m args below meth c F hnm
  unfold fX12_restore at hf
  show sg_W p l e (sg_rm 2 0 0) s m args below meth c (MQ below (sg_Q (some .boolean) G La s.heap.size (sg_HZ La Q)) args s 0 0 (sg_A La s.heap.size)) 3 G (sg_A La s.heap.size) La s0 0 0 0 [(0, sg_r 64), (1, sg_i x1)] []
  refine gw_aload_n F 0 rfl rfl (by decide) dX12_restore_0 ?_
  refine gw_iconst F dX12_restore_1 ?_
  obtain ⟨s1, e2⟩ : ∃ z : sg_M, z = sg_up s0 64 0 0 := ⟨_, rfl⟩
  have hf := hf s1 e2
  refine gw_put0 F (so_64 hst) (by decide) rfl sg_lay_RX12 (j := 0) (by decide) (by decide) e2 tyX12_ok nmX12 rfl (tyX12_ok 0 (by decide)) rfl (host := "") (.inl kw_947) dX12_restore_2 ?_
  refine gw_aload_n F 0 rfl rfl (by decide) dX12_restore_5 ?_
  refine gk_HV F (gc_V F (S := []) (As := []) (T := TX12) (N := 62) (CX12_lay hst hf) (so_64 hst) (by decide) rfl kw_1034 kw_103 kw_1032 kw_1033 kw_41 hcX12_lay ⟨by decide, by decide⟩ rfl rfl (Nat.le_of_ble_eq_true rfl) ⟨by decide, by decide⟩ dX12_restore_6) (fun s3 hf => ?_)
  refine gw_iload_n F 1 rfl rfl dX12_restore_9 ?_
  refine gw_iconst F dX12_restore_10 ?_
  refine gw_iconst F dX12_restore_11 ?_
  refine gk_PZ F (gc_S F (S := []) (As := [sg_i x1, sg_i 0, sg_i 1]) (CX12_isIn r1 (by decide) (by decide) hf) kw_1075 kw_103 kw_1073 kw_1074 hcX12_isIn ⟨by decide, by decide⟩ rfl rfl (Nat.le_of_ble_eq_true rfl) ⟨by decide, by decide⟩ dX12_restore_12) (fun u4 h5 hf => ?_)
  refine gw_if_eq F (tgt := 27) dX12_restore_15 (by decide) (sg_B_R h5) (fun c6 => ?_) (fun c6 => ?_)
  · have hf := hf.1 c6
    refine gw_iconst F dX12_restore_27 ?_
    exact gr_HZ F (by decide) hf (by decide) (by decide) dX12_restore_28
  · have hf := hf.2 c6
    refine gw_aload_n F 0 rfl rfl (by decide) dX12_restore_18 ?_
    refine gw_get7 F (so_64 hst) (by decide) rfl sg_lay_RX12 (j := 19) (by decide) (o1 := 71) (by first | rfl | omega) rfl (host := "") (.inl kw_966) dX12_restore_19 (fun h7 => ?_)
    refine gw_iload_n F 1 rfl rfl dX12_restore_22 ?_
    obtain ⟨⟨b80, b81⟩, hf⟩ := hf
    refine gw_zald F (n := 2) (so_71 hst) (by decide) (by decide) (by decide) b80 b81 dX12_restore_23 (fun h9 => ?_)
    refine gw_if_ne F (tgt := 29) dX12_restore_24 (by decide) (sg_B_R h9) (fun c10 => ?_) (fun c10 => ?_)
    · have hf := hf.1 c10
      refine gw_iconst F dX12_restore_29 ?_
      refine gw_istore_n F rfl (by decide) rfl dX12_restore_30 ?_
      have L31 : ∀ n_31 : Nat, ∀ (s_31 : sg_M) (x2_31 : Int), sg_R x2_31 → fX12_restore_L31 x1 Q n_31 s_31 x2_31 → sg_W p l e (sg_rm 2 0 0) s m args below meth c (MQ below (sg_Q (some .boolean) G La s.heap.size (sg_HZ La Q)) args s 0 0 (sg_A La s.heap.size)) 3 G (sg_A La s.heap.size) La s_31 0 0 31 [(0, sg_r 64), (1, sg_i x1), (2, sg_i x2_31)] [] := by
        intro n_31
        induction n_31 with
        | zero => intro s_31 x2_31 r2_31 hf; exact hf.elim
        | succ n_31 ih =>
          intro s_31 x2_31 r2_31 hf
          unfold fX12_restore_L31 at hf
          refine gw_iload_n F 2 rfl rfl dX12_restore_31 ?_
          refine gw_sipush F rfl dX12_restore_32 ?_
          refine gw_icmp_ge F (tgt := 62) dX12_restore_35 (by decide) r2_31 (by decide) (fun c11 => ?_) (fun c11 => ?_)
          · have hf := hf.1 c11
            refine gw_iconst F dX12_restore_62 ?_
            exact gr_HZ F (by decide) hf (by decide) (by decide) dX12_restore_63
          · have hf := hf.2 c11
            refine gw_aload_n F 0 rfl rfl (by decide) dX12_restore_38 ?_
            refine gw_get7 F (so_64 hst) (by decide) rfl sg_lay_RX12 (j := 14) (by decide) (o1 := 66) (by first | rfl | omega) rfl (host := "") (.inl kw_961) dX12_restore_39 (fun h12 => ?_)
            refine gw_iload_n F 2 rfl rfl dX12_restore_42 ?_
            refine gw_aload_n F 0 rfl rfl (by decide) dX12_restore_43 ?_
            refine gw_get7 F (so_64 hst) (by decide) rfl sg_lay_RX12 (j := 16) (by decide) (o1 := 68) (by first | rfl | omega) rfl (host := "") (.inl kw_963) dX12_restore_44 (fun h13 => ?_)
            refine gw_sipush F rfl dX12_restore_47 ?_
            refine gw_iload_n F 1 rfl rfl dX12_restore_50 ?_
            refine gw_imul F rfl dX12_restore_51 ?_
            refine gw_iload_n F 2 rfl rfl dX12_restore_52 ?_
            refine gw_iadd F rfl dX12_restore_53 ?_
            obtain ⟨⟨b140, b141⟩, hf⟩ := hf
            refine gw_iald F (sa_68 hst) b140 b141 dX12_restore_54 (fun h15 => ?_)
            obtain ⟨⟨b160, b161⟩, hf⟩ := hf
            obtain ⟨v17, e18⟩ : ∃ z : Int, z = (s_31 68 ((2040 * x1) + x2_31)) := ⟨_, rfl⟩
            have hf := hf v17 e18
            refine gw_nmI e18 ?_
            obtain ⟨s19, e20⟩ : ∃ z : sg_M, z = sg_up s_31 66 x2_31 v17 := ⟨_, rfl⟩
            have hf := hf s19 e20
            refine gw_iast F (sa_66 hst) b160 b161 (e18 ▸ h15) e20 dX12_restore_55 ?_
            refine gw_iinc F (z := (x2_31 + 1)) 2 rfl (by omega) (by decide) rfl dX12_restore_56 ?_
            refine gw_goto F (tgt := 31) dX12_restore_59 (by decide) ?_
            obtain ⟨g21, hf⟩ := hf
            refine gw_sub [1, 2, 0] rfl ?_
            exact ih s19 (x2_31 + 1) g21 hf
      obtain ⟨n22, hf⟩ := hf
      refine gw_sub [1, 2, 0] rfl ?_
      refine L31   n22 s3 0 (by decide) hf
    · have hf := hf.2 c10
      refine gw_iconst F dX12_restore_27 ?_
      exact gr_HZ F (by decide) hf (by decide) (by decide) dX12_restore_28

theorem dX12_begin_0 : decode cX12_begin 0 = .ok (.aload_n 0, 1) := by decide +kernel
theorem dX12_begin_1 : decode cX12_begin 1 = .ok (.iconst 0, 1) := by decide +kernel
theorem dX12_begin_2 : decode cX12_begin 2 = .ok (.putfield 84, 3) := by decide +kernel
theorem dX12_begin_5 : decode cX12_begin 5 = .ok (.aload_n 0, 1) := by decide +kernel
theorem dX12_begin_6 : decode cX12_begin 6 = .ok (.invokevirtual 175, 3) := by decide +kernel
theorem dX12_begin_9 : decode cX12_begin 9 = .ok (.aload_n 0, 1) := by decide +kernel
theorem dX12_begin_10 : decode cX12_begin 10 = .ok (.aload_n 0, 1) := by decide +kernel
theorem dX12_begin_11 : decode cX12_begin 11 = .ok (.invokevirtual 178, 3) := by decide +kernel
theorem dX12_begin_14 : decode cX12_begin 14 = .ok (.putfield 94, 3) := by decide +kernel
theorem dX12_begin_17 : decode cX12_begin 17 = .ok (.aload_n 0, 1) := by decide +kernel
theorem dX12_begin_18 : decode cX12_begin 18 = .ok (.iload_n 1, 1) := by decide +kernel
theorem dX12_begin_19 : decode cX12_begin 19 = .ok (.putfield 103, 3) := by decide +kernel
theorem dX12_begin_22 : decode cX12_begin 22 = .ok (.aload_n 0, 1) := by decide +kernel
theorem dX12_begin_23 : decode cX12_begin 23 = .ok (.iconst 0, 1) := by decide +kernel
theorem dX12_begin_24 : decode cX12_begin 24 = .ok (.putfield 146, 3) := by decide +kernel
theorem dX12_begin_27 : decode cX12_begin 27 = .ok (.aload_n 0, 1) := by decide +kernel
theorem dX12_begin_28 : decode cX12_begin 28 = .ok (.iconst 0, 1) := by decide +kernel
theorem dX12_begin_29 : decode cX12_begin 29 = .ok (.putfield 97, 3) := by decide +kernel
theorem dX12_begin_32 : decode cX12_begin 32 = .ok (.aload_n 0, 1) := by decide +kernel
theorem dX12_begin_33 : decode cX12_begin 33 = .ok (.invokevirtual 162, 3) := by decide +kernel
theorem dX12_begin_36 : decode cX12_begin 36 = .ok (.return_, 1) := by decide +kernel
theorem hcX12_begin : yX12_begin.cls ≠ "java/lang/invoke/MethodHandle" ∧ yX12_begin.cls ≠ "java/lang/invoke/VarHandle" ∧ (parseMethodDescriptor yX12_begin.desc).map (fun d => d.parameters.length) = some 1 := ⟨by decide +kernel, by decide +kernel, by decide +kernel⟩
def fX12_begin (s0 : sg_M) (x1 : Int) (Q : sg_M → Prop) : Prop := ∀ s1 : sg_M, s1 = sg_up s0 64 0 0 → fX12_lay s1 (fun s3 => fX12_takeTape s3 (fun u4 s6 => ∀ s7 : sg_M, s7 = sg_up s6 64 3 u4 → ∀ s9 : sg_M, s9 = sg_up s7 64 4 x1 → ∀ s11 : sg_M, s11 = sg_up s9 64 10 0 → ∀ s13 : sg_M, s13 = sg_up s11 64 5 0 → fX12_go s13 (fun s15 => Q s15)))
set_option maxHeartbeats 4000000 in
set_option maxRecDepth 100000 in
theorem CX12_begin {l : Launch} {G : sg_G} {La : sg_L} {s0 : sg_M} (hst : sg_St La) {x1 : Int} (r1 : sg_R x1) {Q : sg_M → Prop} (hf : fX12_begin s0 x1 Q) : sg_C l G yX12_begin cX12_begin 2 (none) 3 0 0 La s0 [sg_r 64, sg_i x1] (sg_HV La Q) := by
  refine sg_body (by decide +kernel) (Nat.le_of_ble_eq_true rfl) ?_
  intro p e s m args below meth c F hnm
  unfold fX12_begin at hf
  show sg_W p l e (sg_rm 3 0 0) s m args below meth c (MQ below (sg_Q (none) G La s.heap.size (sg_HV La Q)) args s 0 0 (sg_A La s.heap.size)) 2 G (sg_A La s.heap.size) La s0 0 0 0 [(0, sg_r 64), (1, sg_i x1)] []
  refine gw_aload_n F 0 rfl rfl (by decide) dX12_begin_0 ?_
  refine gw_iconst F dX12_begin_1 ?_
  obtain ⟨s1, e2⟩ : ∃ z : sg_M, z = sg_up s0 64 0 0 := ⟨_, rfl⟩
  have hf := hf s1 e2
  refine gw_put0 F (so_64 hst) (by decide) rfl sg_lay_RX12 (j := 0) (by decide) (by decide) e2 tyX12_ok nmX12 rfl (tyX12_ok 0 (by decide)) rfl (host := "") (.inl kw_947) dX12_begin_2 ?_
  refine gw_aload_n F 0 rfl rfl (by decide) dX12_begin_5 ?_
  refine gk_HV F (gc_V F (S := []) (As := []) (T := TX12) (N := 62) (CX12_lay hst hf) (so_64 hst) (by decide) rfl kw_1034 kw_103 kw_1032 kw_1033 kw_41 hcX12_lay ⟨by decide, by decide⟩ rfl rfl (Nat.le_of_ble_eq_true rfl) ⟨by decide, by decide⟩ dX12_begin_6) (fun s3 hf => ?_)
  refine gw_aload_n F 0 rfl rfl (by decide) dX12_begin_9 ?_
  refine gw_aload_n F 0 rfl rfl (by decide) dX12_begin_10 ?_
  refine gk_HI F (gc_V F (S := [sg_r 64]) (As := []) (T := TX12) (N := 62) (CX12_takeTape hst hf) (so_64 hst) (by decide) rfl kw_1037 kw_103 kw_1035 kw_1036 kw_42 hcX12_takeTape ⟨by decide, by decide⟩ rfl rfl (Nat.le_of_ble_eq_true rfl) ⟨by decide, by decide⟩ dX12_begin_11) (fun u4 s6 h5 hf => ?_)
  obtain ⟨s7, e8⟩ : ∃ z : sg_M, z = sg_up s6 64 3 u4 := ⟨_, rfl⟩
  have hf := hf s7 e8
  refine gw_put0 F (so_64 hst) (by decide) rfl sg_lay_RX12 (j := 3) (by decide) h5 e8 tyX12_ok nmX12 rfl (tyX12_ok 3 (by decide)) rfl (host := "") (.inl kw_950) dX12_begin_14 ?_
  refine gw_aload_n F 0 rfl rfl (by decide) dX12_begin_17 ?_
  refine gw_iload_n F 1 rfl rfl dX12_begin_18 ?_
  obtain ⟨s9, e10⟩ : ∃ z : sg_M, z = sg_up s7 64 4 x1 := ⟨_, rfl⟩
  have hf := hf s9 e10
  refine gw_put0 F (so_64 hst) (by decide) rfl sg_lay_RX12 (j := 4) (by decide) r1 e10 tyX12_ok nmX12 rfl (tyX12_ok 4 (by decide)) rfl (host := "") (.inl kw_951) dX12_begin_19 ?_
  refine gw_aload_n F 0 rfl rfl (by decide) dX12_begin_22 ?_
  refine gw_iconst F dX12_begin_23 ?_
  obtain ⟨s11, e12⟩ : ∃ z : sg_M, z = sg_up s9 64 10 0 := ⟨_, rfl⟩
  have hf := hf s11 e12
  refine gw_put0 F (so_64 hst) (by decide) rfl sg_lay_RX12 (j := 10) (by decide) (by decide) e12 tyX12_ok nmX12 rfl (tyX12_ok 10 (by decide)) rfl (host := "") (.inl kw_957) dX12_begin_24 ?_
  refine gw_aload_n F 0 rfl rfl (by decide) dX12_begin_27 ?_
  refine gw_iconst F dX12_begin_28 ?_
  obtain ⟨s13, e14⟩ : ∃ z : sg_M, z = sg_up s11 64 5 0 := ⟨_, rfl⟩
  have hf := hf s13 e14
  refine gw_put0 F (so_64 hst) (by decide) rfl sg_lay_RX12 (j := 5) (by decide) (by decide) e14 tyX12_ok nmX12 rfl (tyX12_ok 5 (by decide)) rfl (host := "") (.inl kw_952) dX12_begin_29 ?_
  refine gw_aload_n F 0 rfl rfl (by decide) dX12_begin_32 ?_
  refine gk_HV F (gc_V F (S := []) (As := []) (T := TX12) (N := 62) (CX12_go hst hf) (so_64 hst) (by decide) rfl kw_1040 kw_103 kw_1038 kw_1039 kw_43 hcX12_go ⟨by decide, by decide⟩ rfl rfl (Nat.le_of_ble_eq_true rfl) ⟨by decide, by decide⟩ dX12_begin_33) (fun s15 hf => ?_)
  exact gr_HV F hf (by decide) (by decide) dX12_begin_36

theorem dX12_hand_0 : decode cX12_hand 0 = .ok (.aload_n 0, 1) := by decide +kernel
theorem dX12_hand_1 : decode cX12_hand 1 = .ok (.sipush 300, 3) := by decide +kernel
theorem dX12_hand_4 : decode cX12_hand 4 = .ok (.invokevirtual 196, 3) := by decide +kernel
theorem dX12_hand_7 : decode cX12_hand 7 = .ok (.aload_n 0, 1) := by decide +kernel
theorem dX12_hand_8 : decode cX12_hand 8 = .ok (.iconst 0, 1) := by decide +kernel
theorem dX12_hand_9 : decode cX12_hand 9 = .ok (.putfield 295, 3) := by decide +kernel
theorem dX12_hand_12 : decode cX12_hand 12 = .ok (.aload_n 0, 1) := by decide +kernel
theorem dX12_hand_13 : decode cX12_hand 13 = .ok (.iconst 0, 1) := by decide +kernel
theorem dX12_hand_14 : decode cX12_hand 14 = .ok (.putfield 301, 3) := by decide +kernel
theorem dX12_hand_17 : decode cX12_hand 17 = .ok (.aload_n 0, 1) := by decide +kernel
theorem dX12_hand_18 : decode cX12_hand 18 = .ok (.iconst 0, 1) := by decide +kernel
theorem dX12_hand_19 : decode cX12_hand 19 = .ok (.putfield 304, 3) := by decide +kernel
theorem dX12_hand_22 : decode cX12_hand 22 = .ok (.aload_n 0, 1) := by decide +kernel
theorem dX12_hand_23 : decode cX12_hand 23 = .ok (.getfield 106, 3) := by decide +kernel
theorem dX12_hand_26 : decode cX12_hand 26 = .ok (.ifCond .eq 17, 3) := by decide +kernel
theorem dX12_hand_29 : decode cX12_hand 29 = .ok (.aload_n 0, 1) := by decide +kernel
theorem dX12_hand_30 : decode cX12_hand 30 = .ok (.invokevirtual 314, 3) := by decide +kernel
theorem dX12_hand_33 : decode cX12_hand 33 = .ok (.ifCond .ne (-11), 3) := by decide +kernel
theorem dX12_hand_36 : decode cX12_hand 36 = .ok (.iconst (-1), 1) := by decide +kernel
theorem dX12_hand_37 : decode cX12_hand 37 = .ok (.aload_n 0, 1) := by decide +kernel
theorem dX12_hand_38 : decode cX12_hand 38 = .ok (.getfield 149, 3) := by decide +kernel
theorem dX12_hand_41 : decode cX12_hand 41 = .ok (.isub, 1) := by decide +kernel
theorem dX12_hand_42 : decode cX12_hand 42 = .ok (.ireturn, 1) := by decide +kernel
theorem dX12_hand_43 : decode cX12_hand 43 = .ok (.aload_n 0, 1) := by decide +kernel
theorem dX12_hand_44 : decode cX12_hand 44 = .ok (.getfield 13, 3) := by decide +kernel
theorem dX12_hand_47 : decode cX12_hand 47 = .ok (.sipush 1300, 3) := by decide +kernel
theorem dX12_hand_50 : decode cX12_hand 50 = .ok (.aload_n 0, 1) := by decide +kernel
theorem dX12_hand_51 : decode cX12_hand 51 = .ok (.getfield 295, 3) := by decide +kernel
theorem dX12_hand_54 : decode cX12_hand 54 = .ok (.iastore, 1) := by decide +kernel
theorem dX12_hand_55 : decode cX12_hand 55 = .ok (.iconst 0, 1) := by decide +kernel
theorem dX12_hand_56 : decode cX12_hand 56 = .ok (.istore_n 1, 1) := by decide +kernel
theorem dX12_hand_57 : decode cX12_hand 57 = .ok (.iload_n 1, 1) := by decide +kernel
theorem dX12_hand_58 : decode cX12_hand 58 = .ok (.aload_n 0, 1) := by decide +kernel
theorem dX12_hand_59 : decode cX12_hand 59 = .ok (.getfield 295, 3) := by decide +kernel
theorem dX12_hand_62 : decode cX12_hand 62 = .ok (.if_icmp .ge 41, 3) := by decide +kernel
theorem dX12_hand_65 : decode cX12_hand 65 = .ok (.aload_n 0, 1) := by decide +kernel
theorem dX12_hand_66 : decode cX12_hand 66 = .ok (.getfield 13, 3) := by decide +kernel
theorem dX12_hand_69 : decode cX12_hand 69 = .ok (.sipush 1301, 3) := by decide +kernel
theorem dX12_hand_72 : decode cX12_hand 72 = .ok (.iload_n 1, 1) := by decide +kernel
theorem dX12_hand_73 : decode cX12_hand 73 = .ok (.iadd, 1) := by decide +kernel
theorem dX12_hand_74 : decode cX12_hand 74 = .ok (.aload_n 0, 1) := by decide +kernel
theorem dX12_hand_75 : decode cX12_hand 75 = .ok (.getfield 22, 3) := by decide +kernel
theorem dX12_hand_78 : decode cX12_hand 78 = .ok (.iload_n 1, 1) := by decide +kernel
theorem dX12_hand_79 : decode cX12_hand 79 = .ok (.iaload, 1) := by decide +kernel
theorem dX12_hand_80 : decode cX12_hand 80 = .ok (.iastore, 1) := by decide +kernel
theorem dX12_hand_81 : decode cX12_hand 81 = .ok (.aload_n 0, 1) := by decide +kernel
theorem dX12_hand_82 : decode cX12_hand 82 = .ok (.getfield 13, 3) := by decide +kernel
theorem dX12_hand_85 : decode cX12_hand 85 = .ok (.sipush 1501, 3) := by decide +kernel
theorem dX12_hand_88 : decode cX12_hand 88 = .ok (.iload_n 1, 1) := by decide +kernel
theorem dX12_hand_89 : decode cX12_hand 89 = .ok (.iadd, 1) := by decide +kernel
theorem dX12_hand_90 : decode cX12_hand 90 = .ok (.aload_n 0, 1) := by decide +kernel
theorem dX12_hand_91 : decode cX12_hand 91 = .ok (.getfield 25, 3) := by decide +kernel
theorem dX12_hand_94 : decode cX12_hand 94 = .ok (.iload_n 1, 1) := by decide +kernel
theorem dX12_hand_95 : decode cX12_hand 95 = .ok (.iaload, 1) := by decide +kernel
theorem dX12_hand_96 : decode cX12_hand 96 = .ok (.iastore, 1) := by decide +kernel
theorem dX12_hand_97 : decode cX12_hand 97 = .ok (.iinc 1 1, 3) := by decide +kernel
theorem dX12_hand_100 : decode cX12_hand 100 = .ok (.goto (-43), 3) := by decide +kernel
theorem dX12_hand_103 : decode cX12_hand 103 = .ok (.aload_n 0, 1) := by decide +kernel
theorem dX12_hand_104 : decode cX12_hand 104 = .ok (.getfield 295, 3) := by decide +kernel
theorem dX12_hand_107 : decode cX12_hand 107 = .ok (.ireturn, 1) := by decide +kernel
theorem hcX12_hand : yX12_hand.cls ≠ "java/lang/invoke/MethodHandle" ∧ yX12_hand.cls ≠ "java/lang/invoke/VarHandle" ∧ (parseMethodDescriptor yX12_hand.desc).map (fun d => d.parameters.length) = some 0 := ⟨by decide +kernel, by decide +kernel, by decide +kernel⟩
def fX12_hand_L22  (Q : Int → sg_M → Prop) (k43 : sg_M → Prop) : Nat → sg_M → Prop
  | 0, _ => False
  | n_22 + 1, s_22 => (((s_22 64 7) = 0 → k43 s_22) ∧ (¬ ((s_22 64 7) = 0) → fX12_readStep s_22 (fun u10 s12 => ((u10 ≠ 0 → (fX12_hand_L22  Q k43 n_22) s12) ∧ (u10 = 0 → sg_R ((-1) - (s12 64 11)) ∧ Q ((-1) - (s12 64 11)) s12)))))
def fX12_hand_L57  (Q : Int → sg_M → Prop) : Nat → sg_M → Int → Prop
  | 0, _, _ => False
  | n_57 + 1, s_57, x1_57 => (((s_57 64 43) ≤ x1_57 → Q (s_57 64 43) s_57) ∧ (¬ ((s_57 64 43) ≤ x1_57) → (0 ≤ x1_57 ∧ x1_57 < 200) ∧ (0 ≤ (1301 + x1_57) ∧ (1301 + x1_57) < 2040) ∧ ∀ s29 : sg_M, s29 = sg_up s_57 66 (1301 + x1_57) (s_57 69 x1_57) → (0 ≤ x1_57 ∧ x1_57 < 200) ∧ (0 ≤ (1501 + x1_57) ∧ (1501 + x1_57) < 2040) ∧ ∀ s36 : sg_M, s36 = sg_up s29 66 (1501 + x1_57) (s29 70 x1_57) → sg_R (x1_57 + 1) ∧ (fX12_hand_L57  Q n_57) s36 (x1_57 + 1)))
def fX12_hand (s0 : sg_M) (Q : Int → sg_M → Prop) : Prop := fX12_begin s0 300 (fun s1 => ∀ s2 : sg_M, s2 = sg_up s1 64 43 0 → ∀ s4 : sg_M, s4 = sg_up s2 64 44 0 → ∀ s6 : sg_M, s6 = sg_up s4 64 45 0 → (∃ n16 : Nat, fX12_hand_L22  Q (fun s_43e22 => ∀ s19 : sg_M, s19 = sg_up s_43e22 66 1300 (s_43e22 64 43) → (∃ n39 : Nat, fX12_hand_L57  Q n39 s19 0)) n16 s6))
set_option maxHeartbeats 4000000 in
set_option maxRecDepth 100000 in
theorem CX12_hand {l : Launch} {G : sg_G} {La : sg_L} {s0 : sg_M} (hst : sg_St La) {Q : Int → sg_M → Prop} (hf : fX12_hand s0 Q) : sg_C l G yX12_hand cX12_hand 2 (some .int) 7 0 0 La s0 [sg_r 64] (sg_HI La Q) := by
  refine sg_body (by decide +kernel) (Nat.le_of_ble_eq_true rfl) ?_
  intro p e s m args below meth c F hnm
  unfold fX12_hand at hf
  show sg_W p l e (sg_rm 7 0 0) s m args below meth c (MQ below (sg_Q (some .int) G La s.heap.size (sg_HI La Q)) args s 0 0 (sg_A La s.heap.size)) 2 G (sg_A La s.heap.size) La s0 0 0 0 [(0, sg_r 64)] []
  refine gw_aload_n F 0 rfl rfl (by decide) dX12_hand_0 ?_
  refine gw_sipush F rfl dX12_hand_1 ?_
  refine gk_HV F (gc_V F (S := []) (As := [sg_i 300]) (T := TX12) (N := 62) (CX12_begin hst (by decide) hf) (so_64 hst) (by decide) rfl kw_1031 kw_103 kw_1029 kw_1030 kw_40 hcX12_begin ⟨by decide, by decide⟩ rfl rfl (Nat.le_of_ble_eq_true rfl) ⟨by decide, by decide⟩ dX12_hand_4) (fun s1 hf => ?_)
  refine gw_aload_n F 0 rfl rfl (by decide) dX12_hand_7 ?_
  refine gw_iconst F dX12_hand_8 ?_
  obtain ⟨s2, e3⟩ : ∃ z : sg_M, z = sg_up s1 64 43 0 := ⟨_, rfl⟩
  have hf := hf s2 e3
  refine gw_put0 F (so_64 hst) (by decide) rfl sg_lay_RX12 (j := 43) (by decide) (by decide) e3 tyX12_ok nmX12 rfl (tyX12_ok 43 (by decide)) rfl (host := "") (.inl kw_990) dX12_hand_9 ?_
  refine gw_aload_n F 0 rfl rfl (by decide) dX12_hand_12 ?_
  refine gw_iconst F dX12_hand_13 ?_
  obtain ⟨s4, e5⟩ : ∃ z : sg_M, z = sg_up s2 64 44 0 := ⟨_, rfl⟩
  have hf := hf s4 e5
  refine gw_put0 F (so_64 hst) (by decide) rfl sg_lay_RX12 (j := 44) (by decide) (by decide) e5 tyX12_ok nmX12 rfl (tyX12_ok 44 (by decide)) rfl (host := "") (.inl kw_991) dX12_hand_14 ?_
  refine gw_aload_n F 0 rfl rfl (by decide) dX12_hand_17 ?_
  refine gw_iconst F dX12_hand_18 ?_
  obtain ⟨s6, e7⟩ : ∃ z : sg_M, z = sg_up s4 64 45 0 := ⟨_, rfl⟩
  have hf := hf s6 e7
  refine gw_put0 F (so_64 hst) (by decide) rfl sg_lay_RX12 (j := 45) (by decide) (by decide) e7 tyX12_ok nmX12 rfl (tyX12_ok 45 (by decide)) rfl (host := "") (.inl kw_992) dX12_hand_19 ?_
  have L22 : ∀ (k43 : sg_M → Prop) (hk43 : ∀ (s_43e22 : sg_M), k43 s_43e22 → sg_W p l e (sg_rm 7 0 0) s m args below meth c (MQ below (sg_Q (some .int) G La s.heap.size (sg_HI La Q)) args s 0 0 (sg_A La s.heap.size)) 2 G (sg_A La s.heap.size) La s_43e22 0 0 43 [(0, sg_r 64)] []), ∀ n_22 : Nat, ∀ (s_22 : sg_M), fX12_hand_L22  Q k43 n_22 s_22 → sg_W p l e (sg_rm 7 0 0) s m args below meth c (MQ below (sg_Q (some .int) G La s.heap.size (sg_HI La Q)) args s 0 0 (sg_A La s.heap.size)) 2 G (sg_A La s.heap.size) La s_22 0 0 22 [(0, sg_r 64)] [] := by
    intro k43 hk43 n_22
    induction n_22 with
    | zero => intro s_22 hf; exact hf.elim
    | succ n_22 ih =>
      intro s_22 hf
      unfold fX12_hand_L22 at hf
      refine gw_aload_n F 0 rfl rfl (by decide) dX12_hand_22 ?_
      refine gw_get0 F (so_64 hst) (by decide) rfl sg_lay_RX12 (j := 7) (by decide) rfl (host := "") (.inl kw_954) dX12_hand_23 (fun h8 => ?_)
      refine gw_if_eq F (tgt := 43) dX12_hand_26 (by decide) h8 (fun c9 => ?_) (fun c9 => ?_)
      · have hf := hf.1 c9
        refine gw_sub [0] rfl ?_
        exact hk43 s_22 hf
      · have hf := hf.2 c9
        refine gw_aload_n F 0 rfl rfl (by decide) dX12_hand_29 ?_
        refine gk_HZ F (gc_V F (S := []) (As := []) (T := TX12) (N := 62) (CX12_readStep hst hf) (so_64 hst) (by decide) rfl kw_1171 kw_103 kw_1169 kw_1170 kw_63 hcX12_readStep ⟨by decide, by decide⟩ rfl rfl (Nat.le_of_ble_eq_true rfl) ⟨by decide, by decide⟩ dX12_hand_30) (fun u10 s12 h11 hf => ?_)
        refine gw_if_ne F (tgt := 22) dX12_hand_33 (by decide) (sg_B_R h11) (fun c13 => ?_) (fun c13 => ?_)
        · have hf := hf.1 c13
          refine gw_sub [0] rfl ?_
          exact ih s12 hf
        · have hf := hf.2 c13
          refine gw_iconst F dX12_hand_36 ?_
          refine gw_aload_n F 0 rfl rfl (by decide) dX12_hand_37 ?_
          refine gw_get0 F (so_64 hst) (by decide) rfl sg_lay_RX12 (j := 11) (by decide) rfl (host := "") (.inl kw_958) dX12_hand_38 (fun h14 => ?_)
          refine gw_isub F rfl dX12_hand_41 ?_
          obtain ⟨g15, hf⟩ := hf
          exact gr_HI F g15 hf (by decide) (by decide) dX12_hand_42
  obtain ⟨n16, hf⟩ := hf
  refine gw_sub [0] rfl ?_
  refine L22 _ (fun s_43e22 hf => ?_) n16 s6 hf
  refine gw_aload_n F 0 rfl rfl (by decide) dX12_hand_43 ?_
  refine gw_get7 F (so_64 hst) (by decide) rfl sg_lay_RX12 (j := 14) (by decide) (o1 := 66) (by first | rfl | omega) rfl (host := "") (.inl kw_961) dX12_hand_44 (fun h17 => ?_)
  refine gw_sipush F rfl dX12_hand_47 ?_
  refine gw_aload_n F 0 rfl rfl (by decide) dX12_hand_50 ?_
  refine gw_get0 F (so_64 hst) (by decide) rfl sg_lay_RX12 (j := 43) (by decide) rfl (host := "") (.inl kw_990) dX12_hand_51 (fun h18 => ?_)
  obtain ⟨s19, e20⟩ : ∃ z : sg_M, z = sg_up s_43e22 66 1300 (s_43e22 64 43) := ⟨_, rfl⟩
  have hf := hf s19 e20
  refine gw_iast F (sa_66 hst) (by decide) (by decide) h18 e20 dX12_hand_54 ?_
  refine gw_iconst F dX12_hand_55 ?_
  refine gw_istore_n F rfl (by decide) rfl dX12_hand_56 ?_
  have L57 : ∀ n_57 : Nat, ∀ (s_57 : sg_M) (x1_57 : Int), sg_R x1_57 → fX12_hand_L57  Q n_57 s_57 x1_57 → sg_W p l e (sg_rm 7 0 0) s m args below meth c (MQ below (sg_Q (some .int) G La s.heap.size (sg_HI La Q)) args s 0 0 (sg_A La s.heap.size)) 2 G (sg_A La s.heap.size) La s_57 0 0 57 [(0, sg_r 64), (1, sg_i x1_57)] [] := by
    intro n_57
    induction n_57 with
    | zero => intro s_57 x1_57 r1_57 hf; exact hf.elim
    | succ n_57 ih =>
      intro s_57 x1_57 r1_57 hf
      unfold fX12_hand_L57 at hf
      refine gw_iload_n F 1 rfl rfl dX12_hand_57 ?_
      refine gw_aload_n F 0 rfl rfl (by decide) dX12_hand_58 ?_
      refine gw_get0 F (so_64 hst) (by decide) rfl sg_lay_RX12 (j := 43) (by decide) rfl (host := "") (.inl kw_990) dX12_hand_59 (fun h21 => ?_)
      refine gw_icmp_ge F (tgt := 103) dX12_hand_62 (by decide) r1_57 h21 (fun c22 => ?_) (fun c22 => ?_)
      · have hf := hf.1 c22
        refine gw_aload_n F 0 rfl rfl (by decide) dX12_hand_103 ?_
        refine gw_get0 F (so_64 hst) (by decide) rfl sg_lay_RX12 (j := 43) (by decide) rfl (host := "") (.inl kw_990) dX12_hand_104 (fun h23 => ?_)
        exact gr_HI F h23 hf (by decide) (by decide) dX12_hand_107
      · have hf := hf.2 c22
        refine gw_aload_n F 0 rfl rfl (by decide) dX12_hand_65 ?_
        refine gw_get7 F (so_64 hst) (by decide) rfl sg_lay_RX12 (j := 14) (by decide) (o1 := 66) (by first | rfl | omega) rfl (host := "") (.inl kw_961) dX12_hand_66 (fun h24 => ?_)
        refine gw_sipush F rfl dX12_hand_69 ?_
        refine gw_iload_n F 1 rfl rfl dX12_hand_72 ?_
        refine gw_iadd F rfl dX12_hand_73 ?_
        refine gw_aload_n F 0 rfl rfl (by decide) dX12_hand_74 ?_
        refine gw_get7 F (so_64 hst) (by decide) rfl sg_lay_RX12 (j := 17) (by decide) (o1 := 69) (by first | rfl | omega) rfl (host := "") (.inl kw_964) dX12_hand_75 (fun h25 => ?_)
        refine gw_iload_n F 1 rfl rfl dX12_hand_78 ?_
        obtain ⟨⟨b260, b261⟩, hf⟩ := hf
        refine gw_iald F (sa_69 hst) b260 b261 dX12_hand_79 (fun h27 => ?_)
        obtain ⟨⟨b280, b281⟩, hf⟩ := hf
        obtain ⟨s29, e30⟩ : ∃ z : sg_M, z = sg_up s_57 66 (1301 + x1_57) (s_57 69 x1_57) := ⟨_, rfl⟩
        have hf := hf s29 e30
        refine gw_iast F (sa_66 hst) b280 b281 h27 e30 dX12_hand_80 ?_
        refine gw_aload_n F 0 rfl rfl (by decide) dX12_hand_81 ?_
        refine gw_get7 F (so_64 hst) (by decide) rfl sg_lay_RX12 (j := 14) (by decide) (o1 := 66) (by first | rfl | omega) rfl (host := "") (.inl kw_961) dX12_hand_82 (fun h31 => ?_)
        refine gw_sipush F rfl dX12_hand_85 ?_
        refine gw_iload_n F 1 rfl rfl dX12_hand_88 ?_
        refine gw_iadd F rfl dX12_hand_89 ?_
        refine gw_aload_n F 0 rfl rfl (by decide) dX12_hand_90 ?_
        refine gw_get7 F (so_64 hst) (by decide) rfl sg_lay_RX12 (j := 18) (by decide) (o1 := 70) (by first | rfl | omega) rfl (host := "") (.inl kw_965) dX12_hand_91 (fun h32 => ?_)
        refine gw_iload_n F 1 rfl rfl dX12_hand_94 ?_
        obtain ⟨⟨b330, b331⟩, hf⟩ := hf
        refine gw_iald F (sa_70 hst) b330 b331 dX12_hand_95 (fun h34 => ?_)
        obtain ⟨⟨b350, b351⟩, hf⟩ := hf
        obtain ⟨s36, e37⟩ : ∃ z : sg_M, z = sg_up s29 66 (1501 + x1_57) (s29 70 x1_57) := ⟨_, rfl⟩
        have hf := hf s36 e37
        refine gw_iast F (sa_66 hst) b350 b351 h34 e37 dX12_hand_96 ?_
        refine gw_iinc F (z := (x1_57 + 1)) 1 rfl (by omega) (by decide) rfl dX12_hand_97 ?_
        refine gw_goto F (tgt := 57) dX12_hand_100 (by decide) ?_
        obtain ⟨g38, hf⟩ := hf
        refine gw_sub [1, 0] rfl ?_
        exact ih s36 (x1_57 + 1) g38 hf
  obtain ⟨n39, hf⟩ := hf
  refine gw_sub [1, 0] rfl ?_
  refine L57   n39 s19 0 (by decide) hf

theorem dX12_tone_0 : decode cX12_tone 0 = .ok (.aload_n 0, 1) := by decide +kernel
theorem dX12_tone_1 : decode cX12_tone 1 = .ok (.iconst 0, 1) := by decide +kernel
theorem dX12_tone_2 : decode cX12_tone 2 = .ok (.putfield 84, 3) := by decide +kernel
theorem dX12_tone_5 : decode cX12_tone 5 = .ok (.aload_n 0, 1) := by decide +kernel
theorem dX12_tone_6 : decode cX12_tone 6 = .ok (.invokevirtual 175, 3) := by decide +kernel
theorem dX12_tone_9 : decode cX12_tone 9 = .ok (.iload_n 1, 1) := by decide +kernel
theorem dX12_tone_10 : decode cX12_tone 10 = .ok (.iload_n 2, 1) := by decide +kernel
theorem dX12_tone_11 : decode cX12_tone 11 = .ok (.invokestatic 232, 3) := by decide +kernel
theorem dX12_tone_14 : decode cX12_tone 14 = .ok (.ifCond .eq 17, 3) := by decide +kernel
theorem dX12_tone_17 : decode cX12_tone 17 = .ok (.iload 4, 2) := by decide +kernel
theorem dX12_tone_19 : decode cX12_tone 19 = .ok (.iconst 0, 1) := by decide +kernel
theorem dX12_tone_20 : decode cX12_tone 20 = .ok (.iconst 5, 1) := by decide +kernel
theorem dX12_tone_21 : decode cX12_tone 21 = .ok (.invokestatic 155, 3) := by decide +kernel
theorem dX12_tone_24 : decode cX12_tone 24 = .ok (.ifCond .eq 7, 3) := by decide +kernel
theorem dX12_tone_27 : decode cX12_tone 27 = .ok (.iload_n 3, 1) := by decide +kernel
theorem dX12_tone_28 : decode cX12_tone 28 = .ok (.ifCond .ge 5, 3) := by decide +kernel
theorem dX12_tone_31 : decode cX12_tone 31 = .ok (.iconst (-1), 1) := by decide +kernel
theorem dX12_tone_32 : decode cX12_tone 32 = .ok (.ireturn, 1) := by decide +kernel
theorem dX12_tone_33 : decode cX12_tone 33 = .ok (.aload_n 0, 1) := by decide +kernel
theorem dX12_tone_34 : decode cX12_tone 34 = .ok (.iconst 0, 1) := by decide +kernel
theorem dX12_tone_35 : decode cX12_tone 35 = .ok (.iload_n 1, 1) := by decide +kernel
theorem dX12_tone_36 : decode cX12_tone 36 = .ok (.iload_n 2, 1) := by decide +kernel
theorem dX12_tone_37 : decode cX12_tone 37 = .ok (.iconst 0, 1) := by decide +kernel
theorem dX12_tone_38 : decode cX12_tone 38 = .ok (.iconst 0, 1) := by decide +kernel
theorem dX12_tone_39 : decode cX12_tone 39 = .ok (.invokevirtual 235, 3) := by decide +kernel
theorem dX12_tone_42 : decode cX12_tone 42 = .ok (.iload_n 3, 1) := by decide +kernel
theorem dX12_tone_43 : decode cX12_tone 43 = .ok (.aload_n 0, 1) := by decide +kernel
theorem dX12_tone_44 : decode cX12_tone 44 = .ok (.getfield 226, 3) := by decide +kernel
theorem dX12_tone_47 : decode cX12_tone 47 = .ok (.if_icmp .lt 5, 3) := by decide +kernel
theorem dX12_tone_50 : decode cX12_tone 50 = .ok (.iconst (-1), 1) := by decide +kernel
theorem dX12_tone_51 : decode cX12_tone 51 = .ok (.ireturn, 1) := by decide +kernel
theorem dX12_tone_52 : decode cX12_tone 52 = .ok (.aload_n 0, 1) := by decide +kernel
theorem dX12_tone_53 : decode cX12_tone 53 = .ok (.aload_n 0, 1) := by decide +kernel
theorem dX12_tone_54 : decode cX12_tone 54 = .ok (.getfield 41, 3) := by decide +kernel
theorem dX12_tone_57 : decode cX12_tone 57 = .ok (.iload_n 3, 1) := by decide +kernel
theorem dX12_tone_58 : decode cX12_tone 58 = .ok (.iaload, 1) := by decide +kernel
theorem dX12_tone_59 : decode cX12_tone 59 = .ok (.iload 4, 2) := by decide +kernel
theorem dX12_tone_61 : decode cX12_tone 61 = .ok (.invokevirtual 255, 3) := by decide +kernel
theorem dX12_tone_64 : decode cX12_tone 64 = .ok (.istore 5, 2) := by decide +kernel
theorem dX12_tone_66 : decode cX12_tone 66 = .ok (.iload 5, 2) := by decide +kernel
theorem dX12_tone_68 : decode cX12_tone 68 = .ok (.iconst (-1), 1) := by decide +kernel
theorem dX12_tone_69 : decode cX12_tone 69 = .ok (.if_icmp .ne 5, 3) := by decide +kernel
theorem dX12_tone_72 : decode cX12_tone 72 = .ok (.iconst (-1), 1) := by decide +kernel
theorem dX12_tone_73 : decode cX12_tone 73 = .ok (.ireturn, 1) := by decide +kernel
theorem dX12_tone_74 : decode cX12_tone 74 = .ok (.aload_n 0, 1) := by decide +kernel
theorem dX12_tone_75 : decode cX12_tone 75 = .ok (.getfield 47, 3) := by decide +kernel
theorem dX12_tone_78 : decode cX12_tone 78 = .ok (.iconst 0, 1) := by decide +kernel
theorem dX12_tone_79 : decode cX12_tone 79 = .ok (.aload_n 0, 1) := by decide +kernel
theorem dX12_tone_80 : decode cX12_tone 80 = .ok (.getfield 239, 3) := by decide +kernel
theorem dX12_tone_83 : decode cX12_tone 83 = .ok (.iastore, 1) := by decide +kernel
theorem dX12_tone_84 : decode cX12_tone 84 = .ok (.aload_n 0, 1) := by decide +kernel
theorem dX12_tone_85 : decode cX12_tone 85 = .ok (.getfield 47, 3) := by decide +kernel
theorem dX12_tone_88 : decode cX12_tone 88 = .ok (.iconst 1, 1) := by decide +kernel
theorem dX12_tone_89 : decode cX12_tone 89 = .ok (.aload_n 0, 1) := by decide +kernel
theorem dX12_tone_90 : decode cX12_tone 90 = .ok (.getfield 242, 3) := by decide +kernel
theorem dX12_tone_93 : decode cX12_tone 93 = .ok (.iastore, 1) := by decide +kernel
theorem dX12_tone_94 : decode cX12_tone 94 = .ok (.aload_n 0, 1) := by decide +kernel
theorem dX12_tone_95 : decode cX12_tone 95 = .ok (.getfield 47, 3) := by decide +kernel
theorem dX12_tone_98 : decode cX12_tone 98 = .ok (.iconst 2, 1) := by decide +kernel
theorem dX12_tone_99 : decode cX12_tone 99 = .ok (.aload_n 0, 1) := by decide +kernel
theorem dX12_tone_100 : decode cX12_tone 100 = .ok (.invokevirtual 252, 3) := by decide +kernel
theorem dX12_tone_103 : decode cX12_tone 103 = .ok (.ifCond .eq 7, 3) := by decide +kernel
theorem dX12_tone_106 : decode cX12_tone 106 = .ok (.iconst 1, 1) := by decide +kernel
theorem dX12_tone_107 : decode cX12_tone 107 = .ok (.goto 4, 3) := by decide +kernel
theorem dX12_tone_110 : decode cX12_tone 110 = .ok (.iconst 0, 1) := by decide +kernel
theorem dX12_tone_111 : decode cX12_tone 111 = .ok (.iastore, 1) := by decide +kernel
theorem dX12_tone_112 : decode cX12_tone 112 = .ok (.aload_n 0, 1) := by decide +kernel
theorem dX12_tone_113 : decode cX12_tone 113 = .ok (.getfield 47, 3) := by decide +kernel
theorem dX12_tone_116 : decode cX12_tone 116 = .ok (.iconst 3, 1) := by decide +kernel
theorem dX12_tone_117 : decode cX12_tone 117 = .ok (.aload_n 0, 1) := by decide +kernel
theorem dX12_tone_118 : decode cX12_tone 118 = .ok (.aload_n 0, 1) := by decide +kernel
theorem dX12_tone_119 : decode cX12_tone 119 = .ok (.getfield 41, 3) := by decide +kernel
theorem dX12_tone_122 : decode cX12_tone 122 = .ok (.iload_n 3, 1) := by decide +kernel
theorem dX12_tone_123 : decode cX12_tone 123 = .ok (.iaload, 1) := by decide +kernel
theorem dX12_tone_124 : decode cX12_tone 124 = .ok (.invokevirtual 258, 3) := by decide +kernel
theorem dX12_tone_127 : decode cX12_tone 127 = .ok (.ifCond .eq 7, 3) := by decide +kernel
theorem dX12_tone_130 : decode cX12_tone 130 = .ok (.iconst 1, 1) := by decide +kernel
theorem dX12_tone_131 : decode cX12_tone 131 = .ok (.goto 4, 3) := by decide +kernel
theorem dX12_tone_134 : decode cX12_tone 134 = .ok (.iconst 0, 1) := by decide +kernel
theorem dX12_tone_135 : decode cX12_tone 135 = .ok (.iastore, 1) := by decide +kernel
theorem dX12_tone_136 : decode cX12_tone 136 = .ok (.aload_n 0, 1) := by decide +kernel
theorem dX12_tone_137 : decode cX12_tone 137 = .ok (.getfield 47, 3) := by decide +kernel
theorem dX12_tone_140 : decode cX12_tone 140 = .ok (.iconst 4, 1) := by decide +kernel
theorem dX12_tone_141 : decode cX12_tone 141 = .ok (.aload_n 0, 1) := by decide +kernel
theorem dX12_tone_142 : decode cX12_tone 142 = .ok (.iload 5, 2) := by decide +kernel
theorem dX12_tone_144 : decode cX12_tone 144 = .ok (.invokevirtual 261, 3) := by decide +kernel
theorem dX12_tone_147 : decode cX12_tone 147 = .ok (.iastore, 1) := by decide +kernel
theorem dX12_tone_148 : decode cX12_tone 148 = .ok (.aload_n 0, 1) := by decide +kernel
theorem dX12_tone_149 : decode cX12_tone 149 = .ok (.aload_n 0, 1) := by decide +kernel
theorem dX12_tone_150 : decode cX12_tone 150 = .ok (.getfield 212, 3) := by decide +kernel
theorem dX12_tone_153 : decode cX12_tone 153 = .ok (.putfield 264, 3) := by decide +kernel
theorem dX12_tone_156 : decode cX12_tone 156 = .ok (.iconst 0, 1) := by decide +kernel
theorem dX12_tone_157 : decode cX12_tone 157 = .ok (.istore 6, 2) := by decide +kernel
theorem dX12_tone_159 : decode cX12_tone 159 = .ok (.iload 6, 2) := by decide +kernel
theorem dX12_tone_161 : decode cX12_tone 161 = .ok (.aload_n 0, 1) := by decide +kernel
theorem dX12_tone_162 : decode cX12_tone 162 = .ok (.getfield 212, 3) := by decide +kernel
theorem dX12_tone_165 : decode cX12_tone 165 = .ok (.if_icmp .ge 24, 3) := by decide +kernel
theorem dX12_tone_168 : decode cX12_tone 168 = .ok (.aload_n 0, 1) := by decide +kernel
theorem dX12_tone_169 : decode cX12_tone 169 = .ok (.getfield 50, 3) := by decide +kernel
theorem dX12_tone_172 : decode cX12_tone 172 = .ok (.iload 6, 2) := by decide +kernel
theorem dX12_tone_174 : decode cX12_tone 174 = .ok (.aload_n 0, 1) := by decide +kernel
theorem dX12_tone_175 : decode cX12_tone 175 = .ok (.iload 6, 2) := by decide +kernel
theorem dX12_tone_177 : decode cX12_tone 177 = .ok (.iload 5, 2) := by decide +kernel
theorem dX12_tone_179 : decode cX12_tone 179 = .ok (.invokevirtual 267, 3) := by decide +kernel
theorem dX12_tone_182 : decode cX12_tone 182 = .ok (.iastore, 1) := by decide +kernel
theorem dX12_tone_183 : decode cX12_tone 183 = .ok (.iinc 6 1, 3) := by decide +kernel
theorem dX12_tone_186 : decode cX12_tone 186 = .ok (.goto (-27), 3) := by decide +kernel
theorem dX12_tone_189 : decode cX12_tone 189 = .ok (.iload 5, 2) := by decide +kernel
theorem dX12_tone_191 : decode cX12_tone 191 = .ok (.ireturn, 1) := by decide +kernel
theorem hcX12_tone : yX12_tone.cls ≠ "java/lang/invoke/MethodHandle" ∧ yX12_tone.cls ≠ "java/lang/invoke/VarHandle" ∧ (parseMethodDescriptor yX12_tone.desc).map (fun d => d.parameters.length) = some 4 := ⟨by decide +kernel, by decide +kernel, by decide +kernel⟩
def fX12_tone_L159 (u17 : Int) (Q : Int → sg_M → Prop) : Nat → sg_M → Int → Prop
  | 0, _, _ => False
  | n_159 + 1, s_159, x6_159 => (((s_159 64 27) ≤ x6_159 → Q u17 s_159) ∧ (¬ ((s_159 64 27) ≤ x6_159) → fX12_strengthAt s_159 x6_159 u17 (fun u53 => (0 ≤ x6_159 ∧ x6_159 < 60) ∧ ∀ s56 : sg_M, s56 = sg_up s_159 78 x6_159 u53 → sg_R (x6_159 + 1) ∧ (fX12_tone_L159 u17 Q n_159) s56 (x6_159 + 1))))
def fX12_tone_j135 (u17 : Int) (s32 : sg_M) (Q : Int → sg_M → Prop) (y0_135 : Int) : Prop := ∀ s40 : sg_M, s40 = sg_up s32 77 3 y0_135 → fX12_rings s40 u17 (fun u43 => ∀ s45 : sg_M, s45 = sg_up s40 77 4 u43 → ∀ s48 : sg_M, s48 = sg_up s45 64 37 (s45 64 27) → (∃ n59 : Nat, fX12_tone_L159 u17 Q n59 s48 0))
def fX12_tone_j111 (x3 : Int) (u17 : Int) (s27 : sg_M) (Q : Int → sg_M → Prop) (y0_111 : Int) : Prop := ∀ s32 : sg_M, s32 = sg_up s27 77 2 y0_111 → (0 ≤ x3 ∧ x3 < 60) ∧ fX12_isTwice s32 (s32 75 x3) (fun u38 => ((u38 = 0 → (fX12_tone_j135 u17 s32 Q) 0) ∧ (¬ (u38 = 0) → (fX12_tone_j135 u17 s32 Q) 1)))
def fX12_tone (s0 : sg_M) (x1 : Int) (x2 : Int) (x3 : Int) (x4 : Int) (Q : Int → sg_M → Prop) : Prop := ∀ s1 : sg_M, s1 = sg_up s0 64 0 0 → fX12_lay s1 (fun s3 => fX12_isBend x1 x2 (fun u4 => ((u4 = 0 → Q (-1) s3) ∧ (¬ (u4 = 0) → fX12_isIn x4 0 5 (fun u7 => ((u7 = 0 → Q (-1) s3) ∧ (¬ (u7 = 0) → ((0 ≤ x3 → fX12_layBend s3 0 x1 x2 0 0 (fun s11 => ((x3 < (s11 64 29) → (0 ≤ x3 ∧ x3 < 60) ∧ fX12_toneOf s11 (s11 75 x3) x4 (fun u17 s19 => ((u17 ≠ (-1) → ∀ s23 : sg_M, s23 = sg_up s19 77 0 (s19 64 32) → ∀ s27 : sg_M, s27 = sg_up s23 77 1 (s23 64 33) → fX12_isShut s27 (fun u30 => ((u30 = 0 → (fX12_tone_j111 x3 u17 s27 Q) 0) ∧ (¬ (u30 = 0) → (fX12_tone_j111 x3 u17 s27 Q) 1)))) ∧ (u17 = (-1) → Q (-1) s19)))) ∧ (¬ (x3 < (s11 64 29)) → Q (-1) s11)))) ∧ (¬ (0 ≤ x3) → Q (-1) s3)))))))))
set_option maxHeartbeats 4000000 in
set_option maxRecDepth 100000 in
theorem CX12_tone {l : Launch} {G : sg_G} {La : sg_L} {s0 : sg_M} (hst : sg_St La) {x1 : Int} (r1 : sg_R x1) {x2 : Int} (r2 : sg_R x2) {x3 : Int} (r3 : sg_R x3) {x4 : Int} (r4 : sg_R x4) {Q : Int → sg_M → Prop} (hf : fX12_tone s0 x1 x2 x3 x4 Q) : sg_C l G yX12_tone cX12_tone 7 (some .int) 4 0 0 La s0 [sg_r 64, sg_i x1, sg_i x2, sg_i x3, sg_i x4] (sg_HI La Q) := by
  refine sg_body (by decide +kernel) (Nat.le_of_ble_eq_true rfl) ?_
  intro p e s m args below meth c F hnm
  unfold fX12_tone at hf
  show sg_W p l e (sg_rm 4 0 0) s m args below meth c (MQ below (sg_Q (some .int) G La s.heap.size (sg_HI La Q)) args s 0 0 (sg_A La s.heap.size)) 7 G (sg_A La s.heap.size) La s0 0 0 0 [(0, sg_r 64), (1, sg_i x1), (2, sg_i x2), (3, sg_i x3), (4, sg_i x4)] []
  refine gw_aload_n F 0 rfl rfl (by decide) dX12_tone_0 ?_
  refine gw_iconst F dX12_tone_1 ?_
  obtain ⟨s1, e2⟩ : ∃ z : sg_M, z = sg_up s0 64 0 0 := ⟨_, rfl⟩
  have hf := hf s1 e2
  refine gw_put0 F (so_64 hst) (by decide) rfl sg_lay_RX12 (j := 0) (by decide) (by decide) e2 tyX12_ok nmX12 rfl (tyX12_ok 0 (by decide)) rfl (host := "") (.inl kw_947) dX12_tone_2 ?_
  refine gw_aload_n F 0 rfl rfl (by decide) dX12_tone_5 ?_
  refine gk_HV F (gc_V F (S := []) (As := []) (T := TX12) (N := 62) (CX12_lay hst hf) (so_64 hst) (by decide) rfl kw_1034 kw_103 kw_1032 kw_1033 kw_41 hcX12_lay ⟨by decide, by decide⟩ rfl rfl (Nat.le_of_ble_eq_true rfl) ⟨by decide, by decide⟩ dX12_tone_6) (fun s3 hf => ?_)
  refine gw_iload_n F 1 rfl rfl dX12_tone_9 ?_
  refine gw_iload_n F 2 rfl rfl dX12_tone_10 ?_
  refine gk_PZ F (gc_S F (S := []) (As := [sg_i x1, sg_i x2]) (CX12_isBend r1 r2 hf) kw_1108 kw_103 kw_1106 kw_1107 hcX12_isBend ⟨by decide, by decide⟩ rfl rfl (Nat.le_of_ble_eq_true rfl) ⟨by decide, by decide⟩ dX12_tone_11) (fun u4 h5 hf => ?_)
  refine gw_if_eq F (tgt := 31) dX12_tone_14 (by decide) (sg_B_R h5) (fun c6 => ?_) (fun c6 => ?_)
  · have hf := hf.1 c6
    refine gw_iconst F dX12_tone_31 ?_
    exact gr_HI F (by decide) hf (by decide) (by decide) dX12_tone_32
  · have hf := hf.2 c6
    refine gw_iload F 4 rfl dX12_tone_17 ?_
    refine gw_iconst F dX12_tone_19 ?_
    refine gw_iconst F dX12_tone_20 ?_
    refine gk_PZ F (gc_S F (S := []) (As := [sg_i x4, sg_i 0, sg_i 5]) (CX12_isIn r4 (by decide) (by decide) hf) kw_1075 kw_103 kw_1073 kw_1074 hcX12_isIn ⟨by decide, by decide⟩ rfl rfl (Nat.le_of_ble_eq_true rfl) ⟨by decide, by decide⟩ dX12_tone_21) (fun u7 h8 hf => ?_)
    refine gw_if_eq F (tgt := 31) dX12_tone_24 (by decide) (sg_B_R h8) (fun c9 => ?_) (fun c9 => ?_)
    · have hf := hf.1 c9
      refine gw_iconst F dX12_tone_31 ?_
      exact gr_HI F (by decide) hf (by decide) (by decide) dX12_tone_32
    · have hf := hf.2 c9
      refine gw_iload_n F 3 rfl rfl dX12_tone_27 ?_
      refine gw_if_ge F (tgt := 33) dX12_tone_28 (by decide) r3 (fun c10 => ?_) (fun c10 => ?_)
      · have hf := hf.1 c10
        refine gw_aload_n F 0 rfl rfl (by decide) dX12_tone_33 ?_
        refine gw_iconst F dX12_tone_34 ?_
        refine gw_iload_n F 1 rfl rfl dX12_tone_35 ?_
        refine gw_iload_n F 2 rfl rfl dX12_tone_36 ?_
        refine gw_iconst F dX12_tone_37 ?_
        refine gw_iconst F dX12_tone_38 ?_
        refine gk_HV F (gc_V F (S := []) (As := [sg_i 0, sg_i x1, sg_i x2, sg_i 0, sg_i 0]) (T := TX12) (N := 62) (CX12_layBend hst (by decide) r1 r2 (by decide) (by decide) hf) (so_64 hst) (by decide) rfl kw_1111 kw_103 kw_1109 kw_1110 kw_55 hcX12_layBend ⟨by decide, by decide⟩ rfl rfl (Nat.le_of_ble_eq_true rfl) ⟨by decide, by decide⟩ dX12_tone_39) (fun s11 hf => ?_)
        refine gw_iload_n F 3 rfl rfl dX12_tone_42 ?_
        refine gw_aload_n F 0 rfl rfl (by decide) dX12_tone_43 ?_
        refine gw_get0 F (so_64 hst) (by decide) rfl sg_lay_RX12 (j := 29) (by decide) rfl (host := "") (.inl kw_976) dX12_tone_44 (fun h12 => ?_)
        refine gw_icmp_lt F (tgt := 52) dX12_tone_47 (by decide) r3 h12 (fun c13 => ?_) (fun c13 => ?_)
        · have hf := hf.1 c13
          refine gw_aload_n F 0 rfl rfl (by decide) dX12_tone_52 ?_
          refine gw_aload_n F 0 rfl rfl (by decide) dX12_tone_53 ?_
          refine gw_get7 F (so_64 hst) (by decide) rfl sg_lay_RX12 (j := 25) (by decide) (o1 := 75) (by first | rfl | omega) rfl (host := "") (.inl kw_972) dX12_tone_54 (fun h14 => ?_)
          refine gw_iload_n F 3 rfl rfl dX12_tone_57 ?_
          obtain ⟨⟨b150, b151⟩, hf⟩ := hf
          refine gw_iald F (sa_75 hst) b150 b151 dX12_tone_58 (fun h16 => ?_)
          refine gw_iload F 4 rfl dX12_tone_59 ?_
          refine gk_HI F (gc_V F (S := []) (As := [sg_i (s11 75 x3), sg_i x4]) (T := TX12) (N := 62) (CX12_toneOf hst h16 r4 hf) (so_64 hst) (by decide) rfl kw_1130 kw_103 kw_1128 kw_1129 kw_57 hcX12_toneOf ⟨by decide, by decide⟩ rfl rfl (Nat.le_of_ble_eq_true rfl) ⟨by decide, by decide⟩ dX12_tone_61) (fun u17 s19 h18 hf => ?_)
          refine gw_istore F (by decide) rfl dX12_tone_64 ?_
          refine gw_iload F 0 rfl dX12_tone_66 ?_
          refine gw_iconst F dX12_tone_68 ?_
          refine gw_icmp_ne F (tgt := 74) dX12_tone_69 (by decide) h18 (by decide) (fun c20 => ?_) (fun c20 => ?_)
          · have hf := hf.1 c20
            refine gw_aload_n F 1 rfl rfl (by decide) dX12_tone_74 ?_
            refine gw_get7 F (so_64 hst) (by decide) rfl sg_lay_RX12 (j := 34) (by decide) (o1 := 77) (by first | rfl | omega) rfl (host := "") (.inl kw_981) dX12_tone_75 (fun h21 => ?_)
            refine gw_iconst F dX12_tone_78 ?_
            refine gw_aload_n F 1 rfl rfl (by decide) dX12_tone_79 ?_
            refine gw_get0 F (so_64 hst) (by decide) rfl sg_lay_RX12 (j := 32) (by decide) rfl (host := "") (.inl kw_979) dX12_tone_80 (fun h22 => ?_)
            obtain ⟨s23, e24⟩ : ∃ z : sg_M, z = sg_up s19 77 0 (s19 64 32) := ⟨_, rfl⟩
            have hf := hf s23 e24
            refine gw_iast F (sa_77 hst) (by decide) (by decide) h22 e24 dX12_tone_83 ?_
            refine gw_aload_n F 1 rfl rfl (by decide) dX12_tone_84 ?_
            refine gw_get7 F (so_64 hst) (by decide) rfl sg_lay_RX12 (j := 34) (by decide) (o1 := 77) (by first | rfl | omega) rfl (host := "") (.inl kw_981) dX12_tone_85 (fun h25 => ?_)
            refine gw_iconst F dX12_tone_88 ?_
            refine gw_aload_n F 1 rfl rfl (by decide) dX12_tone_89 ?_
            refine gw_get0 F (so_64 hst) (by decide) rfl sg_lay_RX12 (j := 33) (by decide) rfl (host := "") (.inl kw_980) dX12_tone_90 (fun h26 => ?_)
            obtain ⟨s27, e28⟩ : ∃ z : sg_M, z = sg_up s23 77 1 (s23 64 33) := ⟨_, rfl⟩
            have hf := hf s27 e28
            refine gw_iast F (sa_77 hst) (by decide) (by decide) h26 e28 dX12_tone_93 ?_
            refine gw_aload_n F 1 rfl rfl (by decide) dX12_tone_94 ?_
            refine gw_get7 F (so_64 hst) (by decide) rfl sg_lay_RX12 (j := 34) (by decide) (o1 := 77) (by first | rfl | omega) rfl (host := "") (.inl kw_981) dX12_tone_95 (fun h29 => ?_)
            refine gw_iconst F dX12_tone_98 ?_
            refine gw_aload_n F 1 rfl rfl (by decide) dX12_tone_99 ?_
            refine gk_PZ F (gc_V F (S := [sg_i 2, sg_r 77]) (As := []) (T := TX12) (N := 62) (CX12_isShut hst hf) (so_64 hst) (by decide) rfl kw_1139 kw_103 kw_1137 kw_1138 kw_59 hcX12_isShut ⟨by decide, by decide⟩ rfl rfl (Nat.le_of_ble_eq_true rfl) ⟨by decide, by decide⟩ dX12_tone_100) (fun u30 h31 hf => ?_)
            have J111 : ∀ (y0_111 : Int), sg_R y0_111 → (fX12_tone_j111 x3 u17 s27 Q) y0_111 → sg_W p l e (sg_rm 4 0 0) s m args below meth c (MQ below (sg_Q (some .int) G La s.heap.size (sg_HI La Q)) args s 0 0 (sg_A La s.heap.size)) 7 G (sg_A La s.heap.size) La s27 0 0 111 [(0, sg_r 64), (3, sg_i x3), (5, sg_i u17)] [sg_i y0_111, sg_i 2, sg_r 77] := by
              intro y0_111 ry0_111 hf
              unfold fX12_tone_j111 at hf
              obtain ⟨s32, e33⟩ : ∃ z : sg_M, z = sg_up s27 77 2 y0_111 := ⟨_, rfl⟩
              have hf := hf s32 e33
              refine gw_iast F (sa_77 hst) (by decide) (by decide) ry0_111 e33 dX12_tone_111 ?_
              refine gw_aload_n F 0 rfl rfl (by decide) dX12_tone_112 ?_
              refine gw_get7 F (so_64 hst) (by decide) rfl sg_lay_RX12 (j := 34) (by decide) (o1 := 77) (by first | rfl | omega) rfl (host := "") (.inl kw_981) dX12_tone_113 (fun h34 => ?_)
              refine gw_iconst F dX12_tone_116 ?_
              refine gw_aload_n F 0 rfl rfl (by decide) dX12_tone_117 ?_
              refine gw_aload_n F 0 rfl rfl (by decide) dX12_tone_118 ?_
              refine gw_get7 F (so_64 hst) (by decide) rfl sg_lay_RX12 (j := 25) (by decide) (o1 := 75) (by first | rfl | omega) rfl (host := "") (.inl kw_972) dX12_tone_119 (fun h35 => ?_)
              refine gw_iload_n F 1 rfl rfl dX12_tone_122 ?_
              obtain ⟨⟨b360, b361⟩, hf⟩ := hf
              refine gw_iald F (sa_75 hst) b360 b361 dX12_tone_123 (fun h37 => ?_)
              refine gk_PZ F (gc_V F (S := [sg_i 3, sg_r 77]) (As := [sg_i (s32 75 x3)]) (T := TX12) (N := 62) (CX12_isTwice hst h37 hf) (so_64 hst) (by decide) rfl kw_1142 kw_103 kw_1140 kw_1141 kw_60 hcX12_isTwice ⟨by decide, by decide⟩ rfl rfl (Nat.le_of_ble_eq_true rfl) ⟨by decide, by decide⟩ dX12_tone_124) (fun u38 h39 hf => ?_)
              have J135 : ∀ (y0_135 : Int), sg_R y0_135 → (fX12_tone_j135 u17 s32 Q) y0_135 → sg_W p l e (sg_rm 4 0 0) s m args below meth c (MQ below (sg_Q (some .int) G La s.heap.size (sg_HI La Q)) args s 0 0 (sg_A La s.heap.size)) 7 G (sg_A La s.heap.size) La s32 0 0 135 [(0, sg_r 64), (5, sg_i u17)] [sg_i y0_135, sg_i 3, sg_r 77] := by
                intro y0_135 ry0_135 hf
                unfold fX12_tone_j135 at hf
                obtain ⟨s40, e41⟩ : ∃ z : sg_M, z = sg_up s32 77 3 y0_135 := ⟨_, rfl⟩
                have hf := hf s40 e41
                refine gw_iast F (sa_77 hst) (by decide) (by decide) ry0_135 e41 dX12_tone_135 ?_
                refine gw_aload_n F 0 rfl rfl (by decide) dX12_tone_136 ?_
                refine gw_get7 F (so_64 hst) (by decide) rfl sg_lay_RX12 (j := 34) (by decide) (o1 := 77) (by first | rfl | omega) rfl (host := "") (.inl kw_981) dX12_tone_137 (fun h42 => ?_)
                refine gw_iconst F dX12_tone_140 ?_
                refine gw_aload_n F 0 rfl rfl (by decide) dX12_tone_141 ?_
                refine gw_iload F 1 rfl dX12_tone_142 ?_
                refine gk_PI F (gc_V F (S := [sg_i 4, sg_r 77]) (As := [sg_i u17]) (T := TX12) (N := 62) (CX12_rings hst h18 hf) (so_64 hst) (by decide) rfl kw_1145 kw_103 kw_1143 kw_1144 kw_61 hcX12_rings ⟨by decide, by decide⟩ rfl rfl (Nat.le_of_ble_eq_true rfl) ⟨by decide, by decide⟩ dX12_tone_144) (fun u43 h44 hf => ?_)
                obtain ⟨s45, e46⟩ : ∃ z : sg_M, z = sg_up s40 77 4 u43 := ⟨_, rfl⟩
                have hf := hf s45 e46
                refine gw_iast F (sa_77 hst) (by decide) (by decide) h44 e46 dX12_tone_147 ?_
                refine gw_aload_n F 0 rfl rfl (by decide) dX12_tone_148 ?_
                refine gw_aload_n F 0 rfl rfl (by decide) dX12_tone_149 ?_
                refine gw_get0 F (so_64 hst) (by decide) rfl sg_lay_RX12 (j := 27) (by decide) rfl (host := "") (.inl kw_974) dX12_tone_150 (fun h47 => ?_)
                obtain ⟨s48, e49⟩ : ∃ z : sg_M, z = sg_up s45 64 37 (s45 64 27) := ⟨_, rfl⟩
                have hf := hf s48 e49
                refine gw_put0 F (so_64 hst) (by decide) rfl sg_lay_RX12 (j := 37) (by decide) h47 e49 tyX12_ok nmX12 rfl (tyX12_ok 37 (by decide)) rfl (host := "") (.inl kw_984) dX12_tone_153 ?_
                refine gw_iconst F dX12_tone_156 ?_
                refine gw_istore F (by decide) rfl dX12_tone_157 ?_
                have L159 : ∀ n_159 : Nat, ∀ (s_159 : sg_M) (x6_159 : Int), sg_R x6_159 → fX12_tone_L159 u17 Q n_159 s_159 x6_159 → sg_W p l e (sg_rm 4 0 0) s m args below meth c (MQ below (sg_Q (some .int) G La s.heap.size (sg_HI La Q)) args s 0 0 (sg_A La s.heap.size)) 7 G (sg_A La s.heap.size) La s_159 0 0 159 [(0, sg_r 64), (5, sg_i u17), (6, sg_i x6_159)] [] := by
                  intro n_159
                  induction n_159 with
                  | zero => intro s_159 x6_159 r6_159 hf; exact hf.elim
                  | succ n_159 ih =>
                    intro s_159 x6_159 r6_159 hf
                    unfold fX12_tone_L159 at hf
                    refine gw_iload F 2 rfl dX12_tone_159 ?_
                    refine gw_aload_n F 0 rfl rfl (by decide) dX12_tone_161 ?_
                    refine gw_get0 F (so_64 hst) (by decide) rfl sg_lay_RX12 (j := 27) (by decide) rfl (host := "") (.inl kw_974) dX12_tone_162 (fun h50 => ?_)
                    refine gw_icmp_ge F (tgt := 189) dX12_tone_165 (by decide) r6_159 h50 (fun c51 => ?_) (fun c51 => ?_)
                    · have hf := hf.1 c51
                      refine gw_iload F 1 rfl dX12_tone_189 ?_
                      exact gr_HI F h18 hf (by decide) (by decide) dX12_tone_191
                    · have hf := hf.2 c51
                      refine gw_aload_n F 0 rfl rfl (by decide) dX12_tone_168 ?_
                      refine gw_get7 F (so_64 hst) (by decide) rfl sg_lay_RX12 (j := 35) (by decide) (o1 := 78) (by first | rfl | omega) rfl (host := "") (.inl kw_982) dX12_tone_169 (fun h52 => ?_)
                      refine gw_iload F 2 rfl dX12_tone_172 ?_
                      refine gw_aload_n F 0 rfl rfl (by decide) dX12_tone_174 ?_
                      refine gw_iload F 2 rfl dX12_tone_175 ?_
                      refine gw_iload F 1 rfl dX12_tone_177 ?_
                      refine gk_PI F (gc_V F (S := [sg_i x6_159, sg_r 78]) (As := [sg_i x6_159, sg_i u17]) (T := TX12) (N := 62) (CX12_strengthAt hst r6_159 h18 hf) (so_64 hst) (by decide) rfl kw_1148 kw_103 kw_1146 kw_1147 kw_62 hcX12_strengthAt ⟨by decide, by decide⟩ rfl rfl (Nat.le_of_ble_eq_true rfl) ⟨by decide, by decide⟩ dX12_tone_179) (fun u53 h54 hf => ?_)
                      obtain ⟨⟨b550, b551⟩, hf⟩ := hf
                      obtain ⟨s56, e57⟩ : ∃ z : sg_M, z = sg_up s_159 78 x6_159 u53 := ⟨_, rfl⟩
                      have hf := hf s56 e57
                      refine gw_iast F (sa_78 hst) b550 b551 h54 e57 dX12_tone_182 ?_
                      refine gw_iinc F (z := (x6_159 + 1)) 2 rfl (by omega) (by decide) rfl dX12_tone_183 ?_
                      refine gw_goto F (tgt := 159) dX12_tone_186 (by decide) ?_
                      obtain ⟨g58, hf⟩ := hf
                      refine gw_sub [1, 2, 0] rfl ?_
                      exact ih s56 (x6_159 + 1) g58 hf
                obtain ⟨n59, hf⟩ := hf
                refine gw_sub [1, 2, 0] rfl ?_
                refine L159   n59 s48 0 (by decide) hf
              refine gw_if_eq F (tgt := 134) dX12_tone_127 (by decide) (sg_B_R h39) (fun c60 => ?_) (fun c60 => ?_)
              · have hf := hf.1 c60
                refine gw_iconst F dX12_tone_134 ?_
                refine gw_sub [0, 2] rfl ?_
                exact J135 0 (by decide) hf
              · have hf := hf.2 c60
                refine gw_iconst F dX12_tone_130 ?_
                refine gw_goto F (tgt := 135) dX12_tone_131 (by decide) ?_
                refine gw_sub [0, 2] rfl ?_
                exact J135 1 (by decide) hf
            refine gw_if_eq F (tgt := 110) dX12_tone_103 (by decide) (sg_B_R h31) (fun c61 => ?_) (fun c61 => ?_)
            · have hf := hf.1 c61
              refine gw_iconst F dX12_tone_110 ?_
              refine gw_sub [1, 4, 0] rfl ?_
              exact J111 0 (by decide) hf
            · have hf := hf.2 c61
              refine gw_iconst F dX12_tone_106 ?_
              refine gw_goto F (tgt := 111) dX12_tone_107 (by decide) ?_
              refine gw_sub [1, 4, 0] rfl ?_
              exact J111 1 (by decide) hf
          · have hf := hf.2 c20
            refine gw_iconst F dX12_tone_72 ?_
            exact gr_HI F (by decide) hf (by decide) (by decide) dX12_tone_73
        · have hf := hf.2 c13
          refine gw_iconst F dX12_tone_50 ?_
          exact gr_HI F (by decide) hf (by decide) (by decide) dX12_tone_51
      · have hf := hf.2 c10
        refine gw_iconst F dX12_tone_31 ?_
        exact gr_HI F (by decide) hf (by decide) (by decide) dX12_tone_32

theorem dX12_way_0 : decode cX12_way 0 = .ok (.aload_n 0, 1) := by decide +kernel
theorem dX12_way_1 : decode cX12_way 1 = .ok (.iload_n 1, 1) := by decide +kernel
theorem dX12_way_2 : decode cX12_way 2 = .ok (.invokevirtual 326, 3) := by decide +kernel
theorem dX12_way_5 : decode cX12_way 5 = .ok (.aload_n 0, 1) := by decide +kernel
theorem dX12_way_6 : decode cX12_way 6 = .ok (.iload_n 2, 1) := by decide +kernel
theorem dX12_way_7 : decode cX12_way 7 = .ok (.invokevirtual 326, 3) := by decide +kernel
theorem dX12_way_10 : decode cX12_way 10 = .ok (.isub, 1) := by decide +kernel
theorem dX12_way_11 : decode cX12_way 11 = .ok (.invokestatic 335, 3) := by decide +kernel
theorem dX12_way_14 : decode cX12_way 14 = .ok (.aload_n 0, 1) := by decide +kernel
theorem dX12_way_15 : decode cX12_way 15 = .ok (.iload_n 1, 1) := by decide +kernel
theorem dX12_way_16 : decode cX12_way 16 = .ok (.invokevirtual 329, 3) := by decide +kernel
theorem dX12_way_19 : decode cX12_way 19 = .ok (.aload_n 0, 1) := by decide +kernel
theorem dX12_way_20 : decode cX12_way 20 = .ok (.iload_n 2, 1) := by decide +kernel
theorem dX12_way_21 : decode cX12_way 21 = .ok (.invokevirtual 329, 3) := by decide +kernel
theorem dX12_way_24 : decode cX12_way 24 = .ok (.isub, 1) := by decide +kernel
theorem dX12_way_25 : decode cX12_way 25 = .ok (.invokestatic 335, 3) := by decide +kernel
theorem dX12_way_28 : decode cX12_way 28 = .ok (.iadd, 1) := by decide +kernel
theorem dX12_way_29 : decode cX12_way 29 = .ok (.ireturn, 1) := by decide +kernel
theorem hcX12_way : yX12_way.cls ≠ "java/lang/invoke/MethodHandle" ∧ yX12_way.cls ≠ "java/lang/invoke/VarHandle" ∧ (parseMethodDescriptor yX12_way.desc).map (fun d => d.parameters.length) = some 2 := ⟨by decide +kernel, by decide +kernel, by decide +kernel⟩
def fX12_way (s0 : sg_M) (x1 : Int) (x2 : Int) (Q : Int → Prop) : Prop := fX12_aOf s0 x1 (fun u1 => fX12_aOf s0 x2 (fun u3 => sg_R (u1 - u3) ∧ fX12_size (u1 - u3) (fun u6 => fX12_bOf s0 x1 (fun u8 => fX12_bOf s0 x2 (fun u10 => sg_R (u8 - u10) ∧ fX12_size (u8 - u10) (fun u13 => sg_R (u6 + u13) ∧ Q (u6 + u13)))))))
set_option maxHeartbeats 4000000 in
set_option maxRecDepth 100000 in
theorem CX12_way {l : Launch} {G : sg_G} {La : sg_L} {s0 : sg_M} (hst : sg_St La) {x1 : Int} (r1 : sg_R x1) {x2 : Int} (r2 : sg_R x2) {Q : Int → Prop} (hf : fX12_way s0 x1 x2 Q) : sg_C l G yX12_way cX12_way 3 (some .int) 2 0 0 La s0 [sg_r 64, sg_i x1, sg_i x2] (sg_PI La s0 Q) := by
  refine sg_body (by decide +kernel) (Nat.le_of_ble_eq_true rfl) ?_
  intro p e s m args below meth c F hnm
  unfold fX12_way at hf
  show sg_W p l e (sg_rm 2 0 0) s m args below meth c (MQ below (sg_Q (some .int) G La s.heap.size (sg_PI La s0 Q)) args s 0 0 (sg_A La s.heap.size)) 3 G (sg_A La s.heap.size) La s0 0 0 0 [(0, sg_r 64), (1, sg_i x1), (2, sg_i x2)] []
  refine gw_aload_n F 0 rfl rfl (by decide) dX12_way_0 ?_
  refine gw_iload_n F 1 rfl rfl dX12_way_1 ?_
  refine gk_PI F (gc_V F (S := []) (As := [sg_i x1]) (T := TX12) (N := 62) (CX12_aOf hst r1 hf) (so_64 hst) (by decide) rfl kw_1213 kw_103 kw_1211 kw_1212 kw_72 hcX12_aOf ⟨by decide, by decide⟩ rfl rfl (Nat.le_of_ble_eq_true rfl) ⟨by decide, by decide⟩ dX12_way_2) (fun u1 h2 hf => ?_)
  refine gw_aload_n F 0 rfl rfl (by decide) dX12_way_5 ?_
  refine gw_iload_n F 2 rfl rfl dX12_way_6 ?_
  refine gk_PI F (gc_V F (S := [sg_i u1]) (As := [sg_i x2]) (T := TX12) (N := 62) (CX12_aOf hst r2 hf) (so_64 hst) (by decide) rfl kw_1213 kw_103 kw_1211 kw_1212 kw_72 hcX12_aOf ⟨by decide, by decide⟩ rfl rfl (Nat.le_of_ble_eq_true rfl) ⟨by decide, by decide⟩ dX12_way_7) (fun u3 h4 hf => ?_)
  refine gw_isub F rfl dX12_way_10 ?_
  obtain ⟨g5, hf⟩ := hf
  refine gk_PI F (gc_S F (S := []) (As := [sg_i (u1 - u3)]) (CX12_size g5 hf) kw_1234 kw_103 kw_1232 kw_1233 hcX12_size ⟨by decide, by decide⟩ rfl rfl (Nat.le_of_ble_eq_true rfl) ⟨by decide, by decide⟩ dX12_way_11) (fun u6 h7 hf => ?_)
  refine gw_aload_n F 0 rfl rfl (by decide) dX12_way_14 ?_
  refine gw_iload_n F 1 rfl rfl dX12_way_15 ?_
  refine gk_PI F (gc_V F (S := [sg_i u6]) (As := [sg_i x1]) (T := TX12) (N := 62) (CX12_bOf hst r1 hf) (so_64 hst) (by decide) rfl kw_1216 kw_103 kw_1214 kw_1215 kw_73 hcX12_bOf ⟨by decide, by decide⟩ rfl rfl (Nat.le_of_ble_eq_true rfl) ⟨by decide, by decide⟩ dX12_way_16) (fun u8 h9 hf => ?_)
  refine gw_aload_n F 0 rfl rfl (by decide) dX12_way_19 ?_
  refine gw_iload_n F 2 rfl rfl dX12_way_20 ?_
  refine gk_PI F (gc_V F (S := [sg_i u8, sg_i u6]) (As := [sg_i x2]) (T := TX12) (N := 62) (CX12_bOf hst r2 hf) (so_64 hst) (by decide) rfl kw_1216 kw_103 kw_1214 kw_1215 kw_73 hcX12_bOf ⟨by decide, by decide⟩ rfl rfl (Nat.le_of_ble_eq_true rfl) ⟨by decide, by decide⟩ dX12_way_21) (fun u10 h11 hf => ?_)
  refine gw_isub F rfl dX12_way_24 ?_
  obtain ⟨g12, hf⟩ := hf
  refine gk_PI F (gc_S F (S := [sg_i u6]) (As := [sg_i (u8 - u10)]) (CX12_size g12 hf) kw_1234 kw_103 kw_1232 kw_1233 hcX12_size ⟨by decide, by decide⟩ rfl rfl (Nat.le_of_ble_eq_true rfl) ⟨by decide, by decide⟩ dX12_way_25) (fun u13 h14 hf => ?_)
  refine gw_iadd F rfl dX12_way_28 ?_
  obtain ⟨g15, hf⟩ := hf
  exact gr_PI F g15 hf (by decide) (by decide) dX12_way_29

theorem dX12_end_0 : decode cX12_end 0 = .ok (.aload_n 0, 1) := by decide +kernel
theorem dX12_end_1 : decode cX12_end 1 = .ok (.iconst 0, 1) := by decide +kernel
theorem dX12_end_2 : decode cX12_end 2 = .ok (.putfield 84, 3) := by decide +kernel
theorem dX12_end_5 : decode cX12_end 5 = .ok (.iload_n 1, 1) := by decide +kernel
theorem dX12_end_6 : decode cX12_end 6 = .ok (.ifCond .lt 11, 3) := by decide +kernel
theorem dX12_end_9 : decode cX12_end 9 = .ok (.iload_n 1, 1) := by decide +kernel
theorem dX12_end_10 : decode cX12_end 10 = .ok (.aload_n 0, 1) := by decide +kernel
theorem dX12_end_11 : decode cX12_end 11 = .ok (.getfield 87, 3) := by decide +kernel
theorem dX12_end_14 : decode cX12_end 14 = .ok (.if_icmp .le 5, 3) := by decide +kernel
theorem dX12_end_17 : decode cX12_end 17 = .ok (.iconst 0, 1) := by decide +kernel
theorem dX12_end_18 : decode cX12_end 18 = .ok (.ireturn, 1) := by decide +kernel
theorem dX12_end_19 : decode cX12_end 19 = .ok (.aload_n 0, 1) := by decide +kernel
theorem dX12_end_20 : decode cX12_end 20 = .ok (.iload_n 1, 1) := by decide +kernel
theorem dX12_end_21 : decode cX12_end 21 = .ok (.putfield 87, 3) := by decide +kernel
theorem dX12_end_24 : decode cX12_end 24 = .ok (.iconst 1, 1) := by decide +kernel
theorem dX12_end_25 : decode cX12_end 25 = .ok (.ireturn, 1) := by decide +kernel
theorem hcX12_end : yX12_end.cls ≠ "java/lang/invoke/MethodHandle" ∧ yX12_end.cls ≠ "java/lang/invoke/VarHandle" ∧ (parseMethodDescriptor yX12_end.desc).map (fun d => d.parameters.length) = some 1 := ⟨by decide +kernel, by decide +kernel, by decide +kernel⟩
def fX12_end (s0 : sg_M) (x1 : Int) (Q : Int → sg_M → Prop) : Prop := ∀ s1 : sg_M, s1 = sg_up s0 64 0 0 → ((x1 < 0 → Q 0 s1) ∧ (¬ (x1 < 0) → ((x1 ≤ (s1 64 2) → ∀ s6 : sg_M, s6 = sg_up s1 64 2 x1 → Q 1 s6) ∧ (¬ (x1 ≤ (s1 64 2)) → Q 0 s1))))
set_option maxHeartbeats 4000000 in
set_option maxRecDepth 100000 in
theorem CX12_end {l : Launch} {G : sg_G} {La : sg_L} {s0 : sg_M} (hst : sg_St La) {x1 : Int} (r1 : sg_R x1) {Q : Int → sg_M → Prop} (hf : fX12_end s0 x1 Q) : sg_C l G yX12_end cX12_end 2 (some .boolean) 1 0 0 La s0 [sg_r 64, sg_i x1] (sg_HZ La Q) := by
  refine sg_body (by decide +kernel) (Nat.le_of_ble_eq_true rfl) ?_
  intro p e s m args below meth c F hnm
  unfold fX12_end at hf
  show sg_W p l e (sg_rm 1 0 0) s m args below meth c (MQ below (sg_Q (some .boolean) G La s.heap.size (sg_HZ La Q)) args s 0 0 (sg_A La s.heap.size)) 2 G (sg_A La s.heap.size) La s0 0 0 0 [(0, sg_r 64), (1, sg_i x1)] []
  refine gw_aload_n F 0 rfl rfl (by decide) dX12_end_0 ?_
  refine gw_iconst F dX12_end_1 ?_
  obtain ⟨s1, e2⟩ : ∃ z : sg_M, z = sg_up s0 64 0 0 := ⟨_, rfl⟩
  have hf := hf s1 e2
  refine gw_put0 F (so_64 hst) (by decide) rfl sg_lay_RX12 (j := 0) (by decide) (by decide) e2 tyX12_ok nmX12 rfl (tyX12_ok 0 (by decide)) rfl (host := "") (.inl kw_947) dX12_end_2 ?_
  refine gw_iload_n F 1 rfl rfl dX12_end_5 ?_
  refine gw_if_lt F (tgt := 17) dX12_end_6 (by decide) r1 (fun c3 => ?_) (fun c3 => ?_)
  · have hf := hf.1 c3
    refine gw_iconst F dX12_end_17 ?_
    exact gr_HZ F (by decide) hf (by decide) (by decide) dX12_end_18
  · have hf := hf.2 c3
    refine gw_iload_n F 1 rfl rfl dX12_end_9 ?_
    refine gw_aload_n F 0 rfl rfl (by decide) dX12_end_10 ?_
    refine gw_get0 F (so_64 hst) (by decide) rfl sg_lay_RX12 (j := 2) (by decide) rfl (host := "") (.inl kw_949) dX12_end_11 (fun h4 => ?_)
    refine gw_icmp_le F (tgt := 19) dX12_end_14 (by decide) r1 h4 (fun c5 => ?_) (fun c5 => ?_)
    · have hf := hf.1 c5
      refine gw_aload_n F 0 rfl rfl (by decide) dX12_end_19 ?_
      refine gw_iload_n F 1 rfl rfl dX12_end_20 ?_
      obtain ⟨s6, e7⟩ : ∃ z : sg_M, z = sg_up s1 64 2 x1 := ⟨_, rfl⟩
      have hf := hf s6 e7
      refine gw_put0 F (so_64 hst) (by decide) rfl sg_lay_RX12 (j := 2) (by decide) r1 e7 tyX12_ok nmX12 rfl (tyX12_ok 2 (by decide)) rfl (host := "") (.inl kw_949) dX12_end_21 ?_
      refine gw_iconst F dX12_end_24 ?_
      exact gr_HZ F (by decide) hf (by decide) (by decide) dX12_end_25
    · have hf := hf.2 c5
      refine gw_iconst F dX12_end_17 ?_
      exact gr_HZ F (by decide) hf (by decide) (by decide) dX12_end_18

theorem dX12_run_0 : decode cX12_run 0 = .ok (.aload_n 0, 1) := by decide +kernel
theorem dX12_run_1 : decode cX12_run 1 = .ok (.iconst 0, 1) := by decide +kernel
theorem dX12_run_2 : decode cX12_run 2 = .ok (.putfield 84, 3) := by decide +kernel
theorem dX12_run_5 : decode cX12_run 5 = .ok (.iload_n 1, 1) := by decide +kernel
theorem dX12_run_6 : decode cX12_run 6 = .ok (.iconst 0, 1) := by decide +kernel
theorem dX12_run_7 : decode cX12_run 7 = .ok (.iconst 4, 1) := by decide +kernel
theorem dX12_run_8 : decode cX12_run 8 = .ok (.invokestatic 155, 3) := by decide +kernel
theorem dX12_run_11 : decode cX12_run 11 = .ok (.ifCond .eq 12, 3) := by decide +kernel
theorem dX12_run_14 : decode cX12_run 14 = .ok (.aload_n 0, 1) := by decide +kernel
theorem dX12_run_15 : decode cX12_run 15 = .ok (.getfield 47, 3) := by decide +kernel
theorem dX12_run_18 : decode cX12_run 18 = .ok (.iload_n 1, 1) := by decide +kernel
theorem dX12_run_19 : decode cX12_run 19 = .ok (.iaload, 1) := by decide +kernel
theorem dX12_run_20 : decode cX12_run 20 = .ok (.goto 4, 3) := by decide +kernel
theorem dX12_run_23 : decode cX12_run 23 = .ok (.iconst (-1), 1) := by decide +kernel
theorem dX12_run_24 : decode cX12_run 24 = .ok (.ireturn, 1) := by decide +kernel
theorem hcX12_run : yX12_run.cls ≠ "java/lang/invoke/MethodHandle" ∧ yX12_run.cls ≠ "java/lang/invoke/VarHandle" ∧ (parseMethodDescriptor yX12_run.desc).map (fun d => d.parameters.length) = some 1 := ⟨by decide +kernel, by decide +kernel, by decide +kernel⟩
def fX12_run (s0 : sg_M) (x1 : Int) (Q : Int → sg_M → Prop) : Prop := ∀ s1 : sg_M, s1 = sg_up s0 64 0 0 → fX12_isIn x1 0 4 (fun u3 => ((u3 = 0 → Q (-1) s1) ∧ (¬ (u3 = 0) → (0 ≤ x1 ∧ x1 < 5) ∧ Q (s1 77 x1) s1)))
set_option maxHeartbeats 4000000 in
set_option maxRecDepth 100000 in
theorem CX12_run {l : Launch} {G : sg_G} {La : sg_L} {s0 : sg_M} (hst : sg_St La) {x1 : Int} (r1 : sg_R x1) {Q : Int → sg_M → Prop} (hf : fX12_run s0 x1 Q) : sg_C l G yX12_run cX12_run 2 (some .int) 2 0 0 La s0 [sg_r 64, sg_i x1] (sg_HI La Q) := by
  refine sg_body (by decide +kernel) (Nat.le_of_ble_eq_true rfl) ?_
  intro p e s m args below meth c F hnm
  unfold fX12_run at hf
  show sg_W p l e (sg_rm 2 0 0) s m args below meth c (MQ below (sg_Q (some .int) G La s.heap.size (sg_HI La Q)) args s 0 0 (sg_A La s.heap.size)) 2 G (sg_A La s.heap.size) La s0 0 0 0 [(0, sg_r 64), (1, sg_i x1)] []
  refine gw_aload_n F 0 rfl rfl (by decide) dX12_run_0 ?_
  refine gw_iconst F dX12_run_1 ?_
  obtain ⟨s1, e2⟩ : ∃ z : sg_M, z = sg_up s0 64 0 0 := ⟨_, rfl⟩
  have hf := hf s1 e2
  refine gw_put0 F (so_64 hst) (by decide) rfl sg_lay_RX12 (j := 0) (by decide) (by decide) e2 tyX12_ok nmX12 rfl (tyX12_ok 0 (by decide)) rfl (host := "") (.inl kw_947) dX12_run_2 ?_
  refine gw_iload_n F 1 rfl rfl dX12_run_5 ?_
  refine gw_iconst F dX12_run_6 ?_
  refine gw_iconst F dX12_run_7 ?_
  refine gk_PZ F (gc_S F (S := []) (As := [sg_i x1, sg_i 0, sg_i 4]) (CX12_isIn r1 (by decide) (by decide) hf) kw_1075 kw_103 kw_1073 kw_1074 hcX12_isIn ⟨by decide, by decide⟩ rfl rfl (Nat.le_of_ble_eq_true rfl) ⟨by decide, by decide⟩ dX12_run_8) (fun u3 h4 hf => ?_)
  refine gw_if_eq F (tgt := 23) dX12_run_11 (by decide) (sg_B_R h4) (fun c5 => ?_) (fun c5 => ?_)
  · have hf := hf.1 c5
    refine gw_iconst F dX12_run_23 ?_
    exact gr_HI F (by decide) hf (by decide) (by decide) dX12_run_24
  · have hf := hf.2 c5
    refine gw_aload_n F 0 rfl rfl (by decide) dX12_run_14 ?_
    refine gw_get7 F (so_64 hst) (by decide) rfl sg_lay_RX12 (j := 34) (by decide) (o1 := 77) (by first | rfl | omega) rfl (host := "") (.inl kw_981) dX12_run_15 (fun h6 => ?_)
    refine gw_iload_n F 1 rfl rfl dX12_run_18 ?_
    obtain ⟨⟨b70, b71⟩, hf⟩ := hf
    refine gw_iald F (sa_77 hst) b70 b71 dX12_run_19 (fun h8 => ?_)
    refine gw_goto F (tgt := 24) dX12_run_20 (by decide) ?_
    exact gr_HI F h8 hf (by decide) (by decide) dX12_run_24

theorem dX12_readLine_0 : decode cX12_readLine 0 = .ok (.aload_n 0, 1) := by decide +kernel
theorem dX12_readLine_1 : decode cX12_readLine 1 = .ok (.iconst 3, 1) := by decide +kernel
theorem dX12_readLine_2 : decode cX12_readLine 2 = .ok (.invokevirtual 172, 3) := by decide +kernel
theorem dX12_readLine_5 : decode cX12_readLine 5 = .ok (.ifCond .ne 11, 3) := by decide +kernel
theorem dX12_readLine_8 : decode cX12_readLine 8 = .ok (.aload_n 0, 1) := by decide +kernel
theorem dX12_readLine_9 : decode cX12_readLine 9 = .ok (.iconst 4, 1) := by decide +kernel
theorem dX12_readLine_10 : decode cX12_readLine 10 = .ok (.invokevirtual 172, 3) := by decide +kernel
theorem dX12_readLine_13 : decode cX12_readLine 13 = .ok (.ifCond .eq 79, 3) := by decide +kernel
theorem dX12_readLine_16 : decode cX12_readLine 16 = .ok (.aload_n 0, 1) := by decide +kernel
theorem dX12_readLine_17 : decode cX12_readLine 17 = .ok (.iconst 3, 1) := by decide +kernel
theorem dX12_readLine_18 : decode cX12_readLine 18 = .ok (.invokevirtual 172, 3) := by decide +kernel
theorem dX12_readLine_21 : decode cX12_readLine 21 = .ok (.ifCond .eq 7, 3) := by decide +kernel
theorem dX12_readLine_24 : decode cX12_readLine 24 = .ok (.iconst 1, 1) := by decide +kernel
theorem dX12_readLine_25 : decode cX12_readLine 25 = .ok (.goto 4, 3) := by decide +kernel
theorem dX12_readLine_28 : decode cX12_readLine 28 = .ok (.iconst 2, 1) := by decide +kernel
theorem dX12_readLine_29 : decode cX12_readLine 29 = .ok (.istore_n 1, 1) := by decide +kernel
theorem dX12_readLine_30 : decode cX12_readLine 30 = .ok (.aload_n 0, 1) := by decide +kernel
theorem dX12_readLine_31 : decode cX12_readLine 31 = .ok (.getfield 186, 3) := by decide +kernel
theorem dX12_readLine_34 : decode cX12_readLine 34 = .ok (.iload_n 1, 1) := by decide +kernel
theorem dX12_readLine_35 : decode cX12_readLine 35 = .ok (.ishr, 1) := by decide +kernel
theorem dX12_readLine_36 : decode cX12_readLine 36 = .ok (.iconst 1, 1) := by decide +kernel
theorem dX12_readLine_37 : decode cX12_readLine 37 = .ok (.iand, 1) := by decide +kernel
theorem dX12_readLine_38 : decode cX12_readLine 38 = .ok (.iconst 1, 1) := by decide +kernel
theorem dX12_readLine_39 : decode cX12_readLine 39 = .ok (.if_icmp .ne 9, 3) := by decide +kernel
theorem dX12_readLine_42 : decode cX12_readLine 42 = .ok (.aload_n 0, 1) := by decide +kernel
theorem dX12_readLine_43 : decode cX12_readLine 43 = .ok (.iconst 3, 1) := by decide +kernel
theorem dX12_readLine_44 : decode cX12_readLine 44 = .ok (.invokevirtual 152, 3) := by decide +kernel
theorem dX12_readLine_47 : decode cX12_readLine 47 = .ok (.ireturn, 1) := by decide +kernel
theorem dX12_readLine_48 : decode cX12_readLine 48 = .ok (.aload_n 0, 1) := by decide +kernel
theorem dX12_readLine_49 : decode cX12_readLine 49 = .ok (.dup, 1) := by decide +kernel
theorem dX12_readLine_50 : decode cX12_readLine 50 = .ok (.getfield 186, 3) := by decide +kernel
theorem dX12_readLine_53 : decode cX12_readLine 53 = .ok (.iconst 1, 1) := by decide +kernel
theorem dX12_readLine_54 : decode cX12_readLine 54 = .ok (.iload_n 1, 1) := by decide +kernel
theorem dX12_readLine_55 : decode cX12_readLine 55 = .ok (.ishl, 1) := by decide +kernel
theorem dX12_readLine_56 : decode cX12_readLine 56 = .ok (.ior, 1) := by decide +kernel
theorem dX12_readLine_57 : decode cX12_readLine 57 = .ok (.putfield 186, 3) := by decide +kernel
theorem dX12_readLine_60 : decode cX12_readLine 60 = .ok (.aload_n 0, 1) := by decide +kernel
theorem dX12_readLine_61 : decode cX12_readLine 61 = .ok (.invokevirtual 162, 3) := by decide +kernel
theorem dX12_readLine_64 : decode cX12_readLine 64 = .ok (.aload_n 0, 1) := by decide +kernel
theorem dX12_readLine_65 : decode cX12_readLine 65 = .ok (.iconst 1, 1) := by decide +kernel
theorem dX12_readLine_66 : decode cX12_readLine 66 = .ok (.sipush 9999, 3) := by decide +kernel
theorem dX12_readLine_69 : decode cX12_readLine 69 = .ok (.invokevirtual 168, 3) := by decide +kernel
theorem dX12_readLine_72 : decode cX12_readLine 72 = .ok (.ifCond .ne 5, 3) := by decide +kernel
theorem dX12_readLine_75 : decode cX12_readLine 75 = .ok (.iconst 0, 1) := by decide +kernel
theorem dX12_readLine_76 : decode cX12_readLine 76 = .ok (.ireturn, 1) := by decide +kernel
theorem dX12_readLine_77 : decode cX12_readLine 77 = .ok (.aload_n 0, 1) := by decide +kernel
theorem dX12_readLine_78 : decode cX12_readLine 78 = .ok (.getfield 16, 3) := by decide +kernel
theorem dX12_readLine_81 : decode cX12_readLine 81 = .ok (.iload_n 1, 1) := by decide +kernel
theorem dX12_readLine_82 : decode cX12_readLine 82 = .ok (.aload_n 0, 1) := by decide +kernel
theorem dX12_readLine_83 : decode cX12_readLine 83 = .ok (.getfield 159, 3) := by decide +kernel
theorem dX12_readLine_86 : decode cX12_readLine 86 = .ok (.iastore, 1) := by decide +kernel
theorem dX12_readLine_87 : decode cX12_readLine 87 = .ok (.aload_n 0, 1) := by decide +kernel
theorem dX12_readLine_88 : decode cX12_readLine 88 = .ok (.invokevirtual 189, 3) := by decide +kernel
theorem dX12_readLine_91 : decode cX12_readLine 91 = .ok (.ireturn, 1) := by decide +kernel
theorem dX12_readLine_92 : decode cX12_readLine 92 = .ok (.aload_n 0, 1) := by decide +kernel
theorem dX12_readLine_93 : decode cX12_readLine 93 = .ok (.iconst 0, 1) := by decide +kernel
theorem dX12_readLine_94 : decode cX12_readLine 94 = .ok (.invokevirtual 172, 3) := by decide +kernel
theorem dX12_readLine_97 : decode cX12_readLine 97 = .ok (.ifCond .ne 9, 3) := by decide +kernel
theorem dX12_readLine_100 : decode cX12_readLine 100 = .ok (.aload_n 0, 1) := by decide +kernel
theorem dX12_readLine_101 : decode cX12_readLine 101 = .ok (.iconst 1, 1) := by decide +kernel
theorem dX12_readLine_102 : decode cX12_readLine 102 = .ok (.invokevirtual 152, 3) := by decide +kernel
theorem dX12_readLine_105 : decode cX12_readLine 105 = .ok (.ireturn, 1) := by decide +kernel
theorem dX12_readLine_106 : decode cX12_readLine 106 = .ok (.aload_n 0, 1) := by decide +kernel
theorem dX12_readLine_107 : decode cX12_readLine 107 = .ok (.invokevirtual 162, 3) := by decide +kernel
theorem dX12_readLine_110 : decode cX12_readLine 110 = .ok (.aload_n 0, 1) := by decide +kernel
theorem dX12_readLine_111 : decode cX12_readLine 111 = .ok (.getfield 106, 3) := by decide +kernel
theorem dX12_readLine_114 : decode cX12_readLine 114 = .ok (.iconst 3, 1) := by decide +kernel
theorem dX12_readLine_115 : decode cX12_readLine 115 = .ok (.if_icmp .eq 9, 3) := by decide +kernel
theorem dX12_readLine_118 : decode cX12_readLine 118 = .ok (.aload_n 0, 1) := by decide +kernel
theorem dX12_readLine_119 : decode cX12_readLine 119 = .ok (.iconst 1, 1) := by decide +kernel
theorem dX12_readLine_120 : decode cX12_readLine 120 = .ok (.invokevirtual 152, 3) := by decide +kernel
theorem dX12_readLine_123 : decode cX12_readLine 123 = .ok (.ireturn, 1) := by decide +kernel
theorem dX12_readLine_124 : decode cX12_readLine 124 = .ok (.aload_n 0, 1) := by decide +kernel
theorem dX12_readLine_125 : decode cX12_readLine 125 = .ok (.getfield 123, 3) := by decide +kernel
theorem dX12_readLine_128 : decode cX12_readLine 128 = .ok (.iconst 1, 1) := by decide +kernel
theorem dX12_readLine_129 : decode cX12_readLine 129 = .ok (.bipush 60, 2) := by decide +kernel
theorem dX12_readLine_131 : decode cX12_readLine 131 = .ok (.invokestatic 155, 3) := by decide +kernel
theorem dX12_readLine_134 : decode cX12_readLine 134 = .ok (.ifCond .ne 9, 3) := by decide +kernel
theorem dX12_readLine_137 : decode cX12_readLine 137 = .ok (.aload_n 0, 1) := by decide +kernel
theorem dX12_readLine_138 : decode cX12_readLine 138 = .ok (.iconst 2, 1) := by decide +kernel
theorem dX12_readLine_139 : decode cX12_readLine 139 = .ok (.invokevirtual 152, 3) := by decide +kernel
theorem dX12_readLine_142 : decode cX12_readLine 142 = .ok (.ireturn, 1) := by decide +kernel
theorem dX12_readLine_143 : decode cX12_readLine 143 = .ok (.aload_n 0, 1) := by decide +kernel
theorem dX12_readLine_144 : decode cX12_readLine 144 = .ok (.getfield 16, 3) := by decide +kernel
theorem dX12_readLine_147 : decode cX12_readLine 147 = .ok (.iconst 0, 1) := by decide +kernel
theorem dX12_readLine_148 : decode cX12_readLine 148 = .ok (.iaload, 1) := by decide +kernel
theorem dX12_readLine_149 : decode cX12_readLine 149 = .ok (.aload_n 0, 1) := by decide +kernel
theorem dX12_readLine_150 : decode cX12_readLine 150 = .ok (.getfield 123, 3) := by decide +kernel
theorem dX12_readLine_153 : decode cX12_readLine 153 = .ok (.iadd, 1) := by decide +kernel
theorem dX12_readLine_154 : decode cX12_readLine 154 = .ok (.bipush 60, 2) := by decide +kernel
theorem dX12_readLine_156 : decode cX12_readLine 156 = .ok (.if_icmp .le 9, 3) := by decide +kernel
theorem dX12_readLine_159 : decode cX12_readLine 159 = .ok (.aload_n 0, 1) := by decide +kernel
theorem dX12_readLine_160 : decode cX12_readLine 160 = .ok (.iconst 4, 1) := by decide +kernel
theorem dX12_readLine_161 : decode cX12_readLine 161 = .ok (.invokevirtual 152, 3) := by decide +kernel
theorem dX12_readLine_164 : decode cX12_readLine 164 = .ok (.ireturn, 1) := by decide +kernel
theorem dX12_readLine_165 : decode cX12_readLine 165 = .ok (.aload_n 0, 1) := by decide +kernel
theorem dX12_readLine_166 : decode cX12_readLine 166 = .ok (.getfield 123, 3) := by decide +kernel
theorem dX12_readLine_169 : decode cX12_readLine 169 = .ok (.istore_n 1, 1) := by decide +kernel
theorem dX12_readLine_170 : decode cX12_readLine 170 = .ok (.aload_n 0, 1) := by decide +kernel
theorem dX12_readLine_171 : decode cX12_readLine 171 = .ok (.invokevirtual 162, 3) := by decide +kernel
theorem dX12_readLine_174 : decode cX12_readLine 174 = .ok (.aload_n 0, 1) := by decide +kernel
theorem dX12_readLine_175 : decode cX12_readLine 175 = .ok (.iconst 1, 1) := by decide +kernel
theorem dX12_readLine_176 : decode cX12_readLine 176 = .ok (.bipush 99, 2) := by decide +kernel
theorem dX12_readLine_178 : decode cX12_readLine 178 = .ok (.invokevirtual 168, 3) := by decide +kernel
theorem dX12_readLine_181 : decode cX12_readLine 181 = .ok (.ifCond .ne 5, 3) := by decide +kernel
theorem dX12_readLine_184 : decode cX12_readLine 184 = .ok (.iconst 0, 1) := by decide +kernel
theorem dX12_readLine_185 : decode cX12_readLine 185 = .ok (.ireturn, 1) := by decide +kernel
theorem dX12_readLine_186 : decode cX12_readLine 186 = .ok (.aload_n 0, 1) := by decide +kernel
theorem dX12_readLine_187 : decode cX12_readLine 187 = .ok (.getfield 159, 3) := by decide +kernel
theorem dX12_readLine_190 : decode cX12_readLine 190 = .ok (.istore_n 2, 1) := by decide +kernel
theorem dX12_readLine_191 : decode cX12_readLine 191 = .ok (.aload_n 0, 1) := by decide +kernel
theorem dX12_readLine_192 : decode cX12_readLine 192 = .ok (.iconst 1, 1) := by decide +kernel
theorem dX12_readLine_193 : decode cX12_readLine 193 = .ok (.bipush 20, 2) := by decide +kernel
theorem dX12_readLine_195 : decode cX12_readLine 195 = .ok (.invokevirtual 168, 3) := by decide +kernel
theorem dX12_readLine_198 : decode cX12_readLine 198 = .ok (.ifCond .ne 5, 3) := by decide +kernel
theorem dX12_readLine_201 : decode cX12_readLine 201 = .ok (.iconst 0, 1) := by decide +kernel
theorem dX12_readLine_202 : decode cX12_readLine 202 = .ok (.ireturn, 1) := by decide +kernel
theorem dX12_readLine_203 : decode cX12_readLine 203 = .ok (.aload_n 0, 1) := by decide +kernel
theorem dX12_readLine_204 : decode cX12_readLine 204 = .ok (.getfield 159, 3) := by decide +kernel
theorem dX12_readLine_207 : decode cX12_readLine 207 = .ok (.istore_n 3, 1) := by decide +kernel
theorem dX12_readLine_208 : decode cX12_readLine 208 = .ok (.iconst 0, 1) := by decide +kernel
theorem dX12_readLine_209 : decode cX12_readLine 209 = .ok (.istore 4, 2) := by decide +kernel
theorem dX12_readLine_211 : decode cX12_readLine 211 = .ok (.iconst 0, 1) := by decide +kernel
theorem dX12_readLine_212 : decode cX12_readLine 212 = .ok (.istore 5, 2) := by decide +kernel
theorem dX12_readLine_214 : decode cX12_readLine 214 = .ok (.aload_n 0, 1) := by decide +kernel
theorem dX12_readLine_215 : decode cX12_readLine 215 = .ok (.iconst 1, 1) := by decide +kernel
theorem dX12_readLine_216 : decode cX12_readLine 216 = .ok (.invokevirtual 172, 3) := by decide +kernel
theorem dX12_readLine_219 : decode cX12_readLine 219 = .ok (.ifCond .eq 37, 3) := by decide +kernel
theorem dX12_readLine_222 : decode cX12_readLine 222 = .ok (.aload_n 0, 1) := by decide +kernel
theorem dX12_readLine_223 : decode cX12_readLine 223 = .ok (.invokevirtual 162, 3) := by decide +kernel
theorem dX12_readLine_226 : decode cX12_readLine 226 = .ok (.aload_n 0, 1) := by decide +kernel
theorem dX12_readLine_227 : decode cX12_readLine 227 = .ok (.iconst 0, 1) := by decide +kernel
theorem dX12_readLine_228 : decode cX12_readLine 228 = .ok (.iload_n 2, 1) := by decide +kernel
theorem dX12_readLine_229 : decode cX12_readLine 229 = .ok (.bipush 9, 2) := by decide +kernel
theorem dX12_readLine_231 : decode cX12_readLine 231 = .ok (.if_icmp .le 8, 3) := by decide +kernel
theorem dX12_readLine_234 : decode cX12_readLine 234 = .ok (.bipush 9, 2) := by decide +kernel
theorem dX12_readLine_236 : decode cX12_readLine 236 = .ok (.goto 6, 3) := by decide +kernel
theorem dX12_readLine_239 : decode cX12_readLine 239 = .ok (.iload_n 2, 1) := by decide +kernel
theorem dX12_readLine_240 : decode cX12_readLine 240 = .ok (.iconst 1, 1) := by decide +kernel
theorem dX12_readLine_241 : decode cX12_readLine 241 = .ok (.isub, 1) := by decide +kernel
theorem dX12_readLine_242 : decode cX12_readLine 242 = .ok (.invokevirtual 168, 3) := by decide +kernel
theorem dX12_readLine_245 : decode cX12_readLine 245 = .ok (.ifCond .ne 5, 3) := by decide +kernel
theorem dX12_readLine_248 : decode cX12_readLine 248 = .ok (.iconst 0, 1) := by decide +kernel
theorem dX12_readLine_249 : decode cX12_readLine 249 = .ok (.ireturn, 1) := by decide +kernel
theorem dX12_readLine_250 : decode cX12_readLine 250 = .ok (.aload_n 0, 1) := by decide +kernel
theorem dX12_readLine_251 : decode cX12_readLine 251 = .ok (.getfield 159, 3) := by decide +kernel
theorem dX12_readLine_254 : decode cX12_readLine 254 = .ok (.istore 4, 2) := by decide +kernel
theorem dX12_readLine_256 : decode cX12_readLine 256 = .ok (.aload_n 0, 1) := by decide +kernel
theorem dX12_readLine_257 : decode cX12_readLine 257 = .ok (.iconst 2, 1) := by decide +kernel
theorem dX12_readLine_258 : decode cX12_readLine 258 = .ok (.invokevirtual 172, 3) := by decide +kernel
theorem dX12_readLine_261 : decode cX12_readLine 261 = .ok (.ifCond .eq 24, 3) := by decide +kernel
theorem dX12_readLine_264 : decode cX12_readLine 264 = .ok (.aload_n 0, 1) := by decide +kernel
theorem dX12_readLine_265 : decode cX12_readLine 265 = .ok (.invokevirtual 162, 3) := by decide +kernel
theorem dX12_readLine_268 : decode cX12_readLine 268 = .ok (.aload_n 0, 1) := by decide +kernel
theorem dX12_readLine_269 : decode cX12_readLine 269 = .ok (.bipush 99, 2) := by decide +kernel
theorem dX12_readLine_271 : decode cX12_readLine 271 = .ok (.invokevirtual 193, 3) := by decide +kernel
theorem dX12_readLine_274 : decode cX12_readLine 274 = .ok (.ifCond .ne 5, 3) := by decide +kernel
theorem dX12_readLine_277 : decode cX12_readLine 277 = .ok (.iconst 0, 1) := by decide +kernel
theorem dX12_readLine_278 : decode cX12_readLine 278 = .ok (.ireturn, 1) := by decide +kernel
theorem dX12_readLine_279 : decode cX12_readLine 279 = .ok (.aload_n 0, 1) := by decide +kernel
theorem dX12_readLine_280 : decode cX12_readLine 280 = .ok (.getfield 159, 3) := by decide +kernel
theorem dX12_readLine_283 : decode cX12_readLine 283 = .ok (.istore 5, 2) := by decide +kernel
theorem dX12_readLine_285 : decode cX12_readLine 285 = .ok (.iconst 0, 1) := by decide +kernel
theorem dX12_readLine_286 : decode cX12_readLine 286 = .ok (.istore 6, 2) := by decide +kernel
theorem dX12_readLine_288 : decode cX12_readLine 288 = .ok (.iload 6, 2) := by decide +kernel
theorem dX12_readLine_290 : decode cX12_readLine 290 = .ok (.iload_n 1, 1) := by decide +kernel
theorem dX12_readLine_291 : decode cX12_readLine 291 = .ok (.if_icmp .ge 74, 3) := by decide +kernel
theorem dX12_readLine_294 : decode cX12_readLine 294 = .ok (.bipush 10, 2) := by decide +kernel
theorem dX12_readLine_296 : decode cX12_readLine 296 = .ok (.iconst 4, 1) := by decide +kernel
theorem dX12_readLine_297 : decode cX12_readLine 297 = .ok (.aload_n 0, 1) := by decide +kernel
theorem dX12_readLine_298 : decode cX12_readLine 298 = .ok (.getfield 16, 3) := by decide +kernel
theorem dX12_readLine_301 : decode cX12_readLine 301 = .ok (.iconst 0, 1) := by decide +kernel
theorem dX12_readLine_302 : decode cX12_readLine 302 = .ok (.iaload, 1) := by decide +kernel
theorem dX12_readLine_303 : decode cX12_readLine 303 = .ok (.imul, 1) := by decide +kernel
theorem dX12_readLine_304 : decode cX12_readLine 304 = .ok (.iadd, 1) := by decide +kernel
theorem dX12_readLine_305 : decode cX12_readLine 305 = .ok (.istore 7, 2) := by decide +kernel
theorem dX12_readLine_307 : decode cX12_readLine 307 = .ok (.aload_n 0, 1) := by decide +kernel
theorem dX12_readLine_308 : decode cX12_readLine 308 = .ok (.getfield 16, 3) := by decide +kernel
theorem dX12_readLine_311 : decode cX12_readLine 311 = .ok (.iload 7, 2) := by decide +kernel
theorem dX12_readLine_313 : decode cX12_readLine 313 = .ok (.iconst 0, 1) := by decide +kernel
theorem dX12_readLine_314 : decode cX12_readLine 314 = .ok (.iadd, 1) := by decide +kernel
theorem dX12_readLine_315 : decode cX12_readLine 315 = .ok (.iload_n 2, 1) := by decide +kernel
theorem dX12_readLine_316 : decode cX12_readLine 316 = .ok (.iastore, 1) := by decide +kernel
theorem dX12_readLine_317 : decode cX12_readLine 317 = .ok (.aload_n 0, 1) := by decide +kernel
theorem dX12_readLine_318 : decode cX12_readLine 318 = .ok (.getfield 16, 3) := by decide +kernel
theorem dX12_readLine_321 : decode cX12_readLine 321 = .ok (.iload 7, 2) := by decide +kernel
theorem dX12_readLine_323 : decode cX12_readLine 323 = .ok (.iconst 1, 1) := by decide +kernel
theorem dX12_readLine_324 : decode cX12_readLine 324 = .ok (.iadd, 1) := by decide +kernel
theorem dX12_readLine_325 : decode cX12_readLine 325 = .ok (.iload_n 3, 1) := by decide +kernel
theorem dX12_readLine_326 : decode cX12_readLine 326 = .ok (.iastore, 1) := by decide +kernel
theorem dX12_readLine_327 : decode cX12_readLine 327 = .ok (.aload_n 0, 1) := by decide +kernel
theorem dX12_readLine_328 : decode cX12_readLine 328 = .ok (.getfield 16, 3) := by decide +kernel
theorem dX12_readLine_331 : decode cX12_readLine 331 = .ok (.iload 7, 2) := by decide +kernel
theorem dX12_readLine_333 : decode cX12_readLine 333 = .ok (.iconst 2, 1) := by decide +kernel
theorem dX12_readLine_334 : decode cX12_readLine 334 = .ok (.iadd, 1) := by decide +kernel
theorem dX12_readLine_335 : decode cX12_readLine 335 = .ok (.iload 4, 2) := by decide +kernel
theorem dX12_readLine_337 : decode cX12_readLine 337 = .ok (.iastore, 1) := by decide +kernel
theorem dX12_readLine_338 : decode cX12_readLine 338 = .ok (.aload_n 0, 1) := by decide +kernel
theorem dX12_readLine_339 : decode cX12_readLine 339 = .ok (.getfield 16, 3) := by decide +kernel
theorem dX12_readLine_342 : decode cX12_readLine 342 = .ok (.iload 7, 2) := by decide +kernel
theorem dX12_readLine_344 : decode cX12_readLine 344 = .ok (.iconst 3, 1) := by decide +kernel
theorem dX12_readLine_345 : decode cX12_readLine 345 = .ok (.iadd, 1) := by decide +kernel
theorem dX12_readLine_346 : decode cX12_readLine 346 = .ok (.iload 5, 2) := by decide +kernel
theorem dX12_readLine_348 : decode cX12_readLine 348 = .ok (.iastore, 1) := by decide +kernel
theorem dX12_readLine_349 : decode cX12_readLine 349 = .ok (.aload_n 0, 1) := by decide +kernel
theorem dX12_readLine_350 : decode cX12_readLine 350 = .ok (.getfield 16, 3) := by decide +kernel
theorem dX12_readLine_353 : decode cX12_readLine 353 = .ok (.iconst 0, 1) := by decide +kernel
theorem dX12_readLine_354 : decode cX12_readLine 354 = .ok (.dup2, 1) := by decide +kernel
theorem dX12_readLine_355 : decode cX12_readLine 355 = .ok (.iaload, 1) := by decide +kernel
theorem dX12_readLine_356 : decode cX12_readLine 356 = .ok (.iconst 1, 1) := by decide +kernel
theorem dX12_readLine_357 : decode cX12_readLine 357 = .ok (.iadd, 1) := by decide +kernel
theorem dX12_readLine_358 : decode cX12_readLine 358 = .ok (.iastore, 1) := by decide +kernel
theorem dX12_readLine_359 : decode cX12_readLine 359 = .ok (.iinc 6 1, 3) := by decide +kernel
theorem dX12_readLine_362 : decode cX12_readLine 362 = .ok (.goto (-74), 3) := by decide +kernel
theorem dX12_readLine_365 : decode cX12_readLine 365 = .ok (.aload_n 0, 1) := by decide +kernel
theorem dX12_readLine_366 : decode cX12_readLine 366 = .ok (.invokevirtual 189, 3) := by decide +kernel
theorem dX12_readLine_369 : decode cX12_readLine 369 = .ok (.ireturn, 1) := by decide +kernel
theorem hcX12_readLine : yX12_readLine.cls ≠ "java/lang/invoke/MethodHandle" ∧ yX12_readLine.cls ≠ "java/lang/invoke/VarHandle" ∧ (parseMethodDescriptor yX12_readLine.desc).map (fun d => d.parameters.length) = some 0 := ⟨by decide +kernel, by decide +kernel, by decide +kernel⟩
def fX12_readLine_j29 (s0 : sg_M) (Q : Int → sg_M → Prop) (y0_29 : Int) : Prop := (((sg_and (sg_shr (s0 64 21) y0_29) 1) ≠ 1 → ∀ v8 : Int, v8 = (sg_or (s0 64 21) (sg_shl 1 y0_29)) → ∀ s10 : sg_M, s10 = sg_up s0 64 21 v8 → fX12_go s10 (fun s12 => fX12_readNumber s12 1 9999 (fun u13 s15 => ((u13 ≠ 0 → (0 ≤ y0_29 ∧ y0_29 < 260) ∧ ∀ s20 : sg_M, s20 = sg_up s15 67 y0_29 (s15 64 13) → fX12_readEnd s20 (fun u22 s24 => Q u22 s24)) ∧ (u13 = 0 → Q 0 s15))))) ∧ ((sg_and (sg_shr (s0 64 21) y0_29) 1) = 1 → fX12_bad s0 3 (fun u25 s27 => Q u25 s27)))
def fX12_readLine_j16 (s0 : sg_M) (Q : Int → sg_M → Prop)  : Prop := fX12_isWord s0 3 (fun u3 => ((u3 = 0 → (fX12_readLine_j29 s0 Q) 2) ∧ (¬ (u3 = 0) → (fX12_readLine_j29 s0 Q) 1)))
def fX12_readLine_L288 (s36 : sg_M) (s52 : sg_M) (s57 : sg_M) (x4_256 : Int) (x5_285 : Int) (Q : Int → sg_M → Prop) : Nat → sg_M → Int → Prop
  | 0, _, _ => False
  | n_288 + 1, s_288, x6_288 => (((s36 64 8) ≤ x6_288 → fX12_readEnd s_288 (fun u65 s67 => Q u65 s67)) ∧ (¬ ((s36 64 8) ≤ x6_288) → (0 ≤ ((10 + (4 * (s_288 67 0))) + 0) ∧ ((10 + (4 * (s_288 67 0))) + 0) < 260) ∧ ∀ s72 : sg_M, s72 = sg_up s_288 67 ((10 + (4 * (s_288 67 0))) + 0) (s52 64 13) → (0 ≤ ((10 + (4 * (s_288 67 0))) + 1) ∧ ((10 + (4 * (s_288 67 0))) + 1) < 260) ∧ ∀ s76 : sg_M, s76 = sg_up s72 67 ((10 + (4 * (s_288 67 0))) + 1) (s57 64 13) → (0 ≤ ((10 + (4 * (s_288 67 0))) + 2) ∧ ((10 + (4 * (s_288 67 0))) + 2) < 260) ∧ ∀ s80 : sg_M, s80 = sg_up s76 67 ((10 + (4 * (s_288 67 0))) + 2) x4_256 → (0 ≤ ((10 + (4 * (s_288 67 0))) + 3) ∧ ((10 + (4 * (s_288 67 0))) + 3) < 260) ∧ ∀ s84 : sg_M, s84 = sg_up s80 67 ((10 + (4 * (s_288 67 0))) + 3) x5_285 → sg_R ((s84 67 0) + 1) ∧ ∀ s89 : sg_M, s89 = sg_up s84 67 0 ((s84 67 0) + 1) → sg_R (x6_288 + 1) ∧ (fX12_readLine_L288 s36 s52 s57 x4_256 x5_285 Q n_288) s89 (x6_288 + 1)))
def fX12_readLine_j285 (s36 : sg_M) (s52 : sg_M) (s57 : sg_M) (x4_256 : Int) (Q : Int → sg_M → Prop) (s_285 : sg_M) (x5_285 : Int) : Prop := (∃ n92 : Nat, fX12_readLine_L288 s36 s52 s57 x4_256 x5_285 Q n92 s_285 0)
def fX12_readLine_j256 (s36 : sg_M) (s52 : sg_M) (s57 : sg_M) (Q : Int → sg_M → Prop) (s_256 : sg_M) (x4_256 : Int) : Prop := fX12_isWord s_256 2 (fun u62 => ((u62 = 0 → (fX12_readLine_j285 s36 s52 s57 x4_256 Q) s_256 0) ∧ (¬ (u62 = 0) → fX12_go s_256 (fun s94 => fX12_readSigned s94 99 (fun u95 s97 => ((u95 ≠ 0 → (fX12_readLine_j285 s36 s52 s57 x4_256 Q) s97 (s97 64 13)) ∧ (u95 = 0 → Q 0 s97)))))))
def fX12_readLine_j242 (s101 : sg_M) (Q : Int → sg_M → Prop) (k256 : sg_M → Int → Prop) (y0_242 : Int) : Prop := fX12_readNumber s101 0 y0_242 (fun u102 s104 => ((u102 ≠ 0 → k256 s104 (s104 64 13)) ∧ (u102 = 0 → Q 0 s104)))
def fX12_readLine (s0 : sg_M) (Q : Int → sg_M → Prop) : Prop := fX12_isWord s0 3 (fun u1 => ((u1 ≠ 0 → (fX12_readLine_j16 s0 Q)) ∧ (u1 = 0 → fX12_isWord s0 4 (fun u30 => ((u30 = 0 → fX12_isWord s0 0 (fun u33 => ((u33 ≠ 0 → fX12_go s0 (fun s36 => (((s36 64 7) = 3 → fX12_isIn (s36 64 8) 1 60 (fun u40 => ((u40 ≠ 0 → sg_R ((s36 67 0) + (s36 64 8)) ∧ ((((s36 67 0) + (s36 64 8)) ≤ 60 → fX12_go s36 (fun s49 => fX12_readNumber s49 1 99 (fun u50 s52 => ((u50 ≠ 0 → fX12_readNumber s52 1 20 (fun u55 s57 => ((u55 ≠ 0 → fX12_isWord s57 1 (fun u60 => ((u60 = 0 → (fX12_readLine_j256 s36 s52 s57 Q) s57 0) ∧ (¬ (u60 = 0) → fX12_go s57 (fun s101 => (((s52 64 13) ≤ 9 → sg_R ((s52 64 13) - 1) ∧ (fX12_readLine_j242 s101 Q (fX12_readLine_j256 s36 s52 s57 Q)) ((s52 64 13) - 1)) ∧ (¬ ((s52 64 13) ≤ 9) → (fX12_readLine_j242 s101 Q (fX12_readLine_j256 s36 s52 s57 Q)) 9))))))) ∧ (u55 = 0 → Q 0 s57)))) ∧ (u50 = 0 → Q 0 s52))))) ∧ (¬ (((s36 67 0) + (s36 64 8)) ≤ 60) → fX12_bad s36 4 (fun u109 s111 => Q u109 s111)))) ∧ (u40 = 0 → fX12_bad s36 2 (fun u112 s114 => Q u112 s114))))) ∧ (¬ ((s36 64 7) = 3) → fX12_bad s36 1 (fun u115 s117 => Q u115 s117))))) ∧ (u33 = 0 → fX12_bad s0 1 (fun u118 s120 => Q u118 s120))))) ∧ (¬ (u30 = 0) → (fX12_readLine_j16 s0 Q)))))))
set_option maxHeartbeats 4000000 in
set_option maxRecDepth 100000 in
theorem CX12_readLine {l : Launch} {G : sg_G} {La : sg_L} {s0 : sg_M} (hst : sg_St La) {Q : Int → sg_M → Prop} (hf : fX12_readLine s0 Q) : sg_C l G yX12_readLine cX12_readLine 8 (some .boolean) 5 0 0 La s0 [sg_r 64] (sg_HZ La Q) := by
  refine sg_body (by decide +kernel) (Nat.le_of_ble_eq_true rfl) ?_
  intro p e s m args below meth c F hnm
  unfold fX12_readLine at hf
  show sg_W p l e (sg_rm 5 0 0) s m args below meth c (MQ below (sg_Q (some .boolean) G La s.heap.size (sg_HZ La Q)) args s 0 0 (sg_A La s.heap.size)) 8 G (sg_A La s.heap.size) La s0 0 0 0 [(0, sg_r 64)] []
  refine gw_aload_n F 0 rfl rfl (by decide) dX12_readLine_0 ?_
  refine gw_iconst F dX12_readLine_1 ?_
  refine gk_PZ F (gc_V F (S := []) (As := [sg_i 3]) (T := TX12) (N := 62) (CX12_isWord hst (by decide) hf) (so_64 hst) (by decide) rfl kw_1057 kw_103 kw_1055 kw_1056 kw_46 hcX12_isWord ⟨by decide, by decide⟩ rfl rfl (Nat.le_of_ble_eq_true rfl) ⟨by decide, by decide⟩ dX12_readLine_2) (fun u1 h2 hf => ?_)
  have J16 : (fX12_readLine_j16 s0 Q) → sg_W p l e (sg_rm 5 0 0) s m args below meth c (MQ below (sg_Q (some .boolean) G La s.heap.size (sg_HZ La Q)) args s 0 0 (sg_A La s.heap.size)) 8 G (sg_A La s.heap.size) La s0 0 0 16 [(0, sg_r 64)] [] := by
    intro hf
    unfold fX12_readLine_j16 at hf
    refine gw_aload_n F 0 rfl rfl (by decide) dX12_readLine_16 ?_
    refine gw_iconst F dX12_readLine_17 ?_
    refine gk_PZ F (gc_V F (S := []) (As := [sg_i 3]) (T := TX12) (N := 62) (CX12_isWord hst (by decide) hf) (so_64 hst) (by decide) rfl kw_1057 kw_103 kw_1055 kw_1056 kw_46 hcX12_isWord ⟨by decide, by decide⟩ rfl rfl (Nat.le_of_ble_eq_true rfl) ⟨by decide, by decide⟩ dX12_readLine_18) (fun u3 h4 hf => ?_)
    have J29 : ∀ (y0_29 : Int), sg_R y0_29 → (fX12_readLine_j29 s0 Q) y0_29 → sg_W p l e (sg_rm 5 0 0) s m args below meth c (MQ below (sg_Q (some .boolean) G La s.heap.size (sg_HZ La Q)) args s 0 0 (sg_A La s.heap.size)) 8 G (sg_A La s.heap.size) La s0 0 0 29 [(0, sg_r 64)] [sg_i y0_29] := by
      intro y0_29 ry0_29 hf
      unfold fX12_readLine_j29 at hf
      refine gw_istore_n F rfl (by decide) rfl dX12_readLine_29 ?_
      refine gw_aload_n F 1 rfl rfl (by decide) dX12_readLine_30 ?_
      refine gw_get0 F (so_64 hst) (by decide) rfl sg_lay_RX12 (j := 21) (by decide) rfl (host := "") (.inl kw_968) dX12_readLine_31 (fun h5 => ?_)
      refine gw_iload_n F 0 rfl rfl dX12_readLine_34 ?_
      refine gw_ishr F rfl dX12_readLine_35 ?_
      refine gw_iconst F dX12_readLine_36 ?_
      refine gw_iand F rfl dX12_readLine_37 ?_
      refine gw_iconst F dX12_readLine_38 ?_
      refine gw_icmp_ne F (tgt := 48) dX12_readLine_39 (by decide) (sg_and_R _ _) (by decide) (fun c6 => ?_) (fun c6 => ?_)
      · have hf := hf.1 c6
        refine gw_aload_n F 1 rfl rfl (by decide) dX12_readLine_48 ?_
        refine gw_dup F rfl dX12_readLine_49 ?_
        refine gw_get0 F (so_64 hst) (by decide) rfl sg_lay_RX12 (j := 21) (by decide) rfl (host := "") (.inl kw_968) dX12_readLine_50 (fun h7 => ?_)
        refine gw_iconst F dX12_readLine_53 ?_
        refine gw_iload_n F 0 rfl rfl dX12_readLine_54 ?_
        refine gw_ishl F rfl dX12_readLine_55 ?_
        refine gw_ior F rfl dX12_readLine_56 ?_
        obtain ⟨v8, e9⟩ : ∃ z : Int, z = (sg_or (s0 64 21) (sg_shl 1 y0_29)) := ⟨_, rfl⟩
        have hf := hf v8 e9
        refine gw_nmI e9 ?_
        obtain ⟨s10, e11⟩ : ∃ z : sg_M, z = sg_up s0 64 21 v8 := ⟨_, rfl⟩
        have hf := hf s10 e11
        refine gw_put0 F (so_64 hst) (by decide) rfl sg_lay_RX12 (j := 21) (by decide) (e9 ▸ (sg_or_R _ _)) e11 tyX12_ok nmX12 rfl (tyX12_ok 21 (by decide)) rfl (host := "") (.inl kw_968) dX12_readLine_57 ?_
        refine gw_aload_n F 1 rfl rfl (by decide) dX12_readLine_60 ?_
        refine gk_HV F (gc_V F (S := []) (As := []) (T := TX12) (N := 62) (CX12_go hst hf) (so_64 hst) (by decide) rfl kw_1040 kw_103 kw_1038 kw_1039 kw_43 hcX12_go ⟨by decide, by decide⟩ rfl rfl (Nat.le_of_ble_eq_true rfl) ⟨by decide, by decide⟩ dX12_readLine_61) (fun s12 hf => ?_)
        refine gw_aload_n F 1 rfl rfl (by decide) dX12_readLine_64 ?_
        refine gw_iconst F dX12_readLine_65 ?_
        refine gw_sipush F rfl dX12_readLine_66 ?_
        refine gk_HZ F (gc_V F (S := []) (As := [sg_i 1, sg_i 9999]) (T := TX12) (N := 62) (CX12_readNumber hst (by decide) (by decide) hf) (so_64 hst) (by decide) rfl kw_1072 kw_103 kw_1070 kw_1071 kw_48 hcX12_readNumber ⟨by decide, by decide⟩ rfl rfl (Nat.le_of_ble_eq_true rfl) ⟨by decide, by decide⟩ dX12_readLine_69) (fun u13 s15 h14 hf => ?_)
        refine gw_if_ne F (tgt := 77) dX12_readLine_72 (by decide) (sg_B_R h14) (fun c16 => ?_) (fun c16 => ?_)
        · have hf := hf.1 c16
          refine gw_aload_n F 1 rfl rfl (by decide) dX12_readLine_77 ?_
          refine gw_get7 F (so_64 hst) (by decide) rfl sg_lay_RX12 (j := 15) (by decide) (o1 := 67) (by first | rfl | omega) rfl (host := "") (.inl kw_962) dX12_readLine_78 (fun h17 => ?_)
          refine gw_iload_n F 0 rfl rfl dX12_readLine_81 ?_
          refine gw_aload_n F 1 rfl rfl (by decide) dX12_readLine_82 ?_
          refine gw_get0 F (so_64 hst) (by decide) rfl sg_lay_RX12 (j := 13) (by decide) rfl (host := "") (.inl kw_960) dX12_readLine_83 (fun h18 => ?_)
          obtain ⟨⟨b190, b191⟩, hf⟩ := hf
          obtain ⟨s20, e21⟩ : ∃ z : sg_M, z = sg_up s15 67 y0_29 (s15 64 13) := ⟨_, rfl⟩
          have hf := hf s20 e21
          refine gw_iast F (sa_67 hst) b190 b191 h18 e21 dX12_readLine_86 ?_
          refine gw_aload_n F 1 rfl rfl (by decide) dX12_readLine_87 ?_
          refine gk_HZ F (gc_V F (S := []) (As := []) (T := TX12) (N := 62) (CX12_readEnd hst hf) (so_64 hst) (by decide) rfl kw_1078 kw_103 kw_1076 kw_1077 kw_49 hcX12_readEnd ⟨by decide, by decide⟩ rfl rfl (Nat.le_of_ble_eq_true rfl) ⟨by decide, by decide⟩ dX12_readLine_88) (fun u22 s24 h23 hf => ?_)
          exact gr_HZ F h23 hf (by decide) (by decide) dX12_readLine_91
        · have hf := hf.2 c16
          refine gw_iconst F dX12_readLine_75 ?_
          exact gr_HZ F (by decide) hf (by decide) (by decide) dX12_readLine_76
      · have hf := hf.2 c6
        refine gw_aload_n F 1 rfl rfl (by decide) dX12_readLine_42 ?_
        refine gw_iconst F dX12_readLine_43 ?_
        refine gk_HZ F (gc_V F (S := []) (As := [sg_i 3]) (T := TX12) (N := 62) (CX12_bad hst (by decide) hf) (so_64 hst) (by decide) rfl kw_1069 kw_103 kw_1067 kw_1068 kw_47 hcX12_bad ⟨by decide, by decide⟩ rfl rfl (Nat.le_of_ble_eq_true rfl) ⟨by decide, by decide⟩ dX12_readLine_44) (fun u25 s27 h26 hf => ?_)
        exact gr_HZ F h26 hf (by decide) (by decide) dX12_readLine_47
    refine gw_if_eq F (tgt := 28) dX12_readLine_21 (by decide) (sg_B_R h4) (fun c28 => ?_) (fun c28 => ?_)
    · have hf := hf.1 c28
      refine gw_iconst F dX12_readLine_28 ?_
      refine gw_sub [0] rfl ?_
      exact J29 2 (by decide) hf
    · have hf := hf.2 c28
      refine gw_iconst F dX12_readLine_24 ?_
      refine gw_goto F (tgt := 29) dX12_readLine_25 (by decide) ?_
      refine gw_sub [0] rfl ?_
      exact J29 1 (by decide) hf
  refine gw_if_ne F (tgt := 16) dX12_readLine_5 (by decide) (sg_B_R h2) (fun c29 => ?_) (fun c29 => ?_)
  · have hf := hf.1 c29
    refine gw_sub [0] rfl ?_
    exact J16  hf
  · have hf := hf.2 c29
    refine gw_aload_n F 0 rfl rfl (by decide) dX12_readLine_8 ?_
    refine gw_iconst F dX12_readLine_9 ?_
    refine gk_PZ F (gc_V F (S := []) (As := [sg_i 4]) (T := TX12) (N := 62) (CX12_isWord hst (by decide) hf) (so_64 hst) (by decide) rfl kw_1057 kw_103 kw_1055 kw_1056 kw_46 hcX12_isWord ⟨by decide, by decide⟩ rfl rfl (Nat.le_of_ble_eq_true rfl) ⟨by decide, by decide⟩ dX12_readLine_10) (fun u30 h31 hf => ?_)
    refine gw_if_eq F (tgt := 92) dX12_readLine_13 (by decide) (sg_B_R h31) (fun c32 => ?_) (fun c32 => ?_)
    · have hf := hf.1 c32
      refine gw_aload_n F 0 rfl rfl (by decide) dX12_readLine_92 ?_
      refine gw_iconst F dX12_readLine_93 ?_
      refine gk_PZ F (gc_V F (S := []) (As := [sg_i 0]) (T := TX12) (N := 62) (CX12_isWord hst (by decide) hf) (so_64 hst) (by decide) rfl kw_1057 kw_103 kw_1055 kw_1056 kw_46 hcX12_isWord ⟨by decide, by decide⟩ rfl rfl (Nat.le_of_ble_eq_true rfl) ⟨by decide, by decide⟩ dX12_readLine_94) (fun u33 h34 hf => ?_)
      refine gw_if_ne F (tgt := 106) dX12_readLine_97 (by decide) (sg_B_R h34) (fun c35 => ?_) (fun c35 => ?_)
      · have hf := hf.1 c35
        refine gw_aload_n F 0 rfl rfl (by decide) dX12_readLine_106 ?_
        refine gk_HV F (gc_V F (S := []) (As := []) (T := TX12) (N := 62) (CX12_go hst hf) (so_64 hst) (by decide) rfl kw_1040 kw_103 kw_1038 kw_1039 kw_43 hcX12_go ⟨by decide, by decide⟩ rfl rfl (Nat.le_of_ble_eq_true rfl) ⟨by decide, by decide⟩ dX12_readLine_107) (fun s36 hf => ?_)
        refine gw_aload_n F 0 rfl rfl (by decide) dX12_readLine_110 ?_
        refine gw_get0 F (so_64 hst) (by decide) rfl sg_lay_RX12 (j := 7) (by decide) rfl (host := "") (.inl kw_954) dX12_readLine_111 (fun h37 => ?_)
        refine gw_iconst F dX12_readLine_114 ?_
        refine gw_icmp_eq F (tgt := 124) dX12_readLine_115 (by decide) h37 (by decide) (fun c38 => ?_) (fun c38 => ?_)
        · have hf := hf.1 c38
          refine gw_aload_n F 0 rfl rfl (by decide) dX12_readLine_124 ?_
          refine gw_get0 F (so_64 hst) (by decide) rfl sg_lay_RX12 (j := 8) (by decide) rfl (host := "") (.inl kw_955) dX12_readLine_125 (fun h39 => ?_)
          refine gw_iconst F dX12_readLine_128 ?_
          refine gw_bipush F rfl dX12_readLine_129 ?_
          refine gk_PZ F (gc_S F (S := []) (As := [sg_i (s36 64 8), sg_i 1, sg_i 60]) (CX12_isIn h39 (by decide) (by decide) hf) kw_1075 kw_103 kw_1073 kw_1074 hcX12_isIn ⟨by decide, by decide⟩ rfl rfl (Nat.le_of_ble_eq_true rfl) ⟨by decide, by decide⟩ dX12_readLine_131) (fun u40 h41 hf => ?_)
          refine gw_if_ne F (tgt := 143) dX12_readLine_134 (by decide) (sg_B_R h41) (fun c42 => ?_) (fun c42 => ?_)
          · have hf := hf.1 c42
            refine gw_aload_n F 0 rfl rfl (by decide) dX12_readLine_143 ?_
            refine gw_get7 F (so_64 hst) (by decide) rfl sg_lay_RX12 (j := 15) (by decide) (o1 := 67) (by first | rfl | omega) rfl (host := "") (.inl kw_962) dX12_readLine_144 (fun h43 => ?_)
            refine gw_iconst F dX12_readLine_147 ?_
            refine gw_iald F (sa_67 hst) (by decide) (by decide) dX12_readLine_148 (fun h44 => ?_)
            refine gw_aload_n F 0 rfl rfl (by decide) dX12_readLine_149 ?_
            refine gw_get0 F (so_64 hst) (by decide) rfl sg_lay_RX12 (j := 8) (by decide) rfl (host := "") (.inl kw_955) dX12_readLine_150 (fun h45 => ?_)
            refine gw_iadd F rfl dX12_readLine_153 ?_
            refine gw_bipush F rfl dX12_readLine_154 ?_
            obtain ⟨g46, hf⟩ := hf
            refine gw_icmp_le F (tgt := 165) dX12_readLine_156 (by decide) g46 (by decide) (fun c47 => ?_) (fun c47 => ?_)
            · have hf := hf.1 c47
              refine gw_aload_n F 0 rfl rfl (by decide) dX12_readLine_165 ?_
              refine gw_get0 F (so_64 hst) (by decide) rfl sg_lay_RX12 (j := 8) (by decide) rfl (host := "") (.inl kw_955) dX12_readLine_166 (fun h48 => ?_)
              refine gw_istore_n F rfl (by decide) rfl dX12_readLine_169 ?_
              refine gw_aload_n F 1 rfl rfl (by decide) dX12_readLine_170 ?_
              refine gk_HV F (gc_V F (S := []) (As := []) (T := TX12) (N := 62) (CX12_go hst hf) (so_64 hst) (by decide) rfl kw_1040 kw_103 kw_1038 kw_1039 kw_43 hcX12_go ⟨by decide, by decide⟩ rfl rfl (Nat.le_of_ble_eq_true rfl) ⟨by decide, by decide⟩ dX12_readLine_171) (fun s49 hf => ?_)
              refine gw_aload_n F 1 rfl rfl (by decide) dX12_readLine_174 ?_
              refine gw_iconst F dX12_readLine_175 ?_
              refine gw_bipush F rfl dX12_readLine_176 ?_
              refine gk_HZ F (gc_V F (S := []) (As := [sg_i 1, sg_i 99]) (T := TX12) (N := 62) (CX12_readNumber hst (by decide) (by decide) hf) (so_64 hst) (by decide) rfl kw_1072 kw_103 kw_1070 kw_1071 kw_48 hcX12_readNumber ⟨by decide, by decide⟩ rfl rfl (Nat.le_of_ble_eq_true rfl) ⟨by decide, by decide⟩ dX12_readLine_178) (fun u50 s52 h51 hf => ?_)
              refine gw_if_ne F (tgt := 186) dX12_readLine_181 (by decide) (sg_B_R h51) (fun c53 => ?_) (fun c53 => ?_)
              · have hf := hf.1 c53
                refine gw_aload_n F 1 rfl rfl (by decide) dX12_readLine_186 ?_
                refine gw_get0 F (so_64 hst) (by decide) rfl sg_lay_RX12 (j := 13) (by decide) rfl (host := "") (.inl kw_960) dX12_readLine_187 (fun h54 => ?_)
                refine gw_istore_n F rfl (by decide) rfl dX12_readLine_190 ?_
                refine gw_aload_n F 2 rfl rfl (by decide) dX12_readLine_191 ?_
                refine gw_iconst F dX12_readLine_192 ?_
                refine gw_bipush F rfl dX12_readLine_193 ?_
                refine gk_HZ F (gc_V F (S := []) (As := [sg_i 1, sg_i 20]) (T := TX12) (N := 62) (CX12_readNumber hst (by decide) (by decide) hf) (so_64 hst) (by decide) rfl kw_1072 kw_103 kw_1070 kw_1071 kw_48 hcX12_readNumber ⟨by decide, by decide⟩ rfl rfl (Nat.le_of_ble_eq_true rfl) ⟨by decide, by decide⟩ dX12_readLine_195) (fun u55 s57 h56 hf => ?_)
                refine gw_if_ne F (tgt := 203) dX12_readLine_198 (by decide) (sg_B_R h56) (fun c58 => ?_) (fun c58 => ?_)
                · have hf := hf.1 c58
                  refine gw_aload_n F 2 rfl rfl (by decide) dX12_readLine_203 ?_
                  refine gw_get0 F (so_64 hst) (by decide) rfl sg_lay_RX12 (j := 13) (by decide) rfl (host := "") (.inl kw_960) dX12_readLine_204 (fun h59 => ?_)
                  refine gw_istore_n F rfl (by decide) rfl dX12_readLine_207 ?_
                  refine gw_iconst F dX12_readLine_208 ?_
                  refine gw_istore F (by decide) rfl dX12_readLine_209 ?_
                  refine gw_iconst F dX12_readLine_211 ?_
                  refine gw_istore F (by decide) rfl dX12_readLine_212 ?_
                  refine gw_aload_n F 5 rfl rfl (by decide) dX12_readLine_214 ?_
                  refine gw_iconst F dX12_readLine_215 ?_
                  refine gk_PZ F (gc_V F (S := []) (As := [sg_i 1]) (T := TX12) (N := 62) (CX12_isWord hst (by decide) hf) (so_64 hst) (by decide) rfl kw_1057 kw_103 kw_1055 kw_1056 kw_46 hcX12_isWord ⟨by decide, by decide⟩ rfl rfl (Nat.le_of_ble_eq_true rfl) ⟨by decide, by decide⟩ dX12_readLine_216) (fun u60 h61 hf => ?_)
                  have J256 : ∀ (s_256 : sg_M) (x4_256 : Int), sg_R x4_256 → (fX12_readLine_j256 s36 s52 s57 Q) s_256 x4_256 → sg_W p l e (sg_rm 5 0 0) s m args below meth c (MQ below (sg_Q (some .boolean) G La s.heap.size (sg_HZ La Q)) args s 0 0 (sg_A La s.heap.size)) 8 G (sg_A La s.heap.size) La s_256 0 0 256 [(0, sg_r 64), (1, sg_i (s36 64 8)), (2, sg_i (s52 64 13)), (3, sg_i (s57 64 13)), (4, sg_i x4_256), (5, sg_i 0)] [] := by
                    intro s_256 x4_256 r4_256 hf
                    unfold fX12_readLine_j256 at hf
                    refine gw_aload_n F 0 rfl rfl (by decide) dX12_readLine_256 ?_
                    refine gw_iconst F dX12_readLine_257 ?_
                    refine gk_PZ F (gc_V F (S := []) (As := [sg_i 2]) (T := TX12) (N := 62) (CX12_isWord hst (by decide) hf) (so_64 hst) (by decide) rfl kw_1057 kw_103 kw_1055 kw_1056 kw_46 hcX12_isWord ⟨by decide, by decide⟩ rfl rfl (Nat.le_of_ble_eq_true rfl) ⟨by decide, by decide⟩ dX12_readLine_258) (fun u62 h63 hf => ?_)
                    have J285 : ∀ (s_285 : sg_M) (x5_285 : Int), sg_R x5_285 → (fX12_readLine_j285 s36 s52 s57 x4_256 Q) s_285 x5_285 → sg_W p l e (sg_rm 5 0 0) s m args below meth c (MQ below (sg_Q (some .boolean) G La s.heap.size (sg_HZ La Q)) args s 0 0 (sg_A La s.heap.size)) 8 G (sg_A La s.heap.size) La s_285 0 0 285 [(0, sg_r 64), (1, sg_i (s36 64 8)), (2, sg_i (s52 64 13)), (3, sg_i (s57 64 13)), (4, sg_i x4_256), (5, sg_i x5_285)] [] := by
                      intro s_285 x5_285 r5_285 hf
                      unfold fX12_readLine_j285 at hf
                      refine gw_iconst F dX12_readLine_285 ?_
                      refine gw_istore F (by decide) rfl dX12_readLine_286 ?_
                      have L288 : ∀ n_288 : Nat, ∀ (s_288 : sg_M) (x6_288 : Int), sg_R x6_288 → fX12_readLine_L288 s36 s52 s57 x4_256 x5_285 Q n_288 s_288 x6_288 → sg_W p l e (sg_rm 5 0 0) s m args below meth c (MQ below (sg_Q (some .boolean) G La s.heap.size (sg_HZ La Q)) args s 0 0 (sg_A La s.heap.size)) 8 G (sg_A La s.heap.size) La s_288 0 0 288 [(0, sg_r 64), (1, sg_i (s36 64 8)), (2, sg_i (s52 64 13)), (3, sg_i (s57 64 13)), (4, sg_i x4_256), (5, sg_i x5_285), (6, sg_i x6_288)] [] := by
                        intro n_288
                        induction n_288 with
                        | zero => intro s_288 x6_288 r6_288 hf; exact hf.elim
                        | succ n_288 ih =>
                          intro s_288 x6_288 r6_288 hf
                          unfold fX12_readLine_L288 at hf
                          refine gw_iload F 6 rfl dX12_readLine_288 ?_
                          refine gw_iload_n F 1 rfl rfl dX12_readLine_290 ?_
                          refine gw_icmp_ge F (tgt := 365) dX12_readLine_291 (by decide) r6_288 h48 (fun c64 => ?_) (fun c64 => ?_)
                          · have hf := hf.1 c64
                            refine gw_aload_n F 0 rfl rfl (by decide) dX12_readLine_365 ?_
                            refine gk_HZ F (gc_V F (S := []) (As := []) (T := TX12) (N := 62) (CX12_readEnd hst hf) (so_64 hst) (by decide) rfl kw_1078 kw_103 kw_1076 kw_1077 kw_49 hcX12_readEnd ⟨by decide, by decide⟩ rfl rfl (Nat.le_of_ble_eq_true rfl) ⟨by decide, by decide⟩ dX12_readLine_366) (fun u65 s67 h66 hf => ?_)
                            exact gr_HZ F h66 hf (by decide) (by decide) dX12_readLine_369
                          · have hf := hf.2 c64
                            refine gw_bipush F rfl dX12_readLine_294 ?_
                            refine gw_iconst F dX12_readLine_296 ?_
                            refine gw_aload_n F 0 rfl rfl (by decide) dX12_readLine_297 ?_
                            refine gw_get7 F (so_64 hst) (by decide) rfl sg_lay_RX12 (j := 15) (by decide) (o1 := 67) (by first | rfl | omega) rfl (host := "") (.inl kw_962) dX12_readLine_298 (fun h68 => ?_)
                            refine gw_iconst F dX12_readLine_301 ?_
                            refine gw_iald F (sa_67 hst) (by decide) (by decide) dX12_readLine_302 (fun h69 => ?_)
                            refine gw_imul F rfl dX12_readLine_303 ?_
                            refine gw_iadd F rfl dX12_readLine_304 ?_
                            refine gw_istore F (by decide) rfl dX12_readLine_305 ?_
                            refine gw_aload_n F 1 rfl rfl (by decide) dX12_readLine_307 ?_
                            refine gw_get7 F (so_64 hst) (by decide) rfl sg_lay_RX12 (j := 15) (by decide) (o1 := 67) (by first | rfl | omega) rfl (host := "") (.inl kw_962) dX12_readLine_308 (fun h70 => ?_)
                            refine gw_iload F 0 rfl dX12_readLine_311 ?_
                            refine gw_iconst F dX12_readLine_313 ?_
                            refine gw_iadd F rfl dX12_readLine_314 ?_
                            refine gw_iload_n F 3 rfl rfl dX12_readLine_315 ?_
                            obtain ⟨⟨b710, b711⟩, hf⟩ := hf
                            obtain ⟨s72, e73⟩ : ∃ z : sg_M, z = sg_up s_288 67 ((10 + (4 * (s_288 67 0))) + 0) (s52 64 13) := ⟨_, rfl⟩
                            have hf := hf s72 e73
                            refine gw_iast F (sa_67 hst) b710 b711 h54 e73 dX12_readLine_316 ?_
                            refine gw_aload_n F 1 rfl rfl (by decide) dX12_readLine_317 ?_
                            refine gw_get7 F (so_64 hst) (by decide) rfl sg_lay_RX12 (j := 15) (by decide) (o1 := 67) (by first | rfl | omega) rfl (host := "") (.inl kw_962) dX12_readLine_318 (fun h74 => ?_)
                            refine gw_iload F 0 rfl dX12_readLine_321 ?_
                            refine gw_iconst F dX12_readLine_323 ?_
                            refine gw_iadd F rfl dX12_readLine_324 ?_
                            refine gw_iload_n F 4 rfl rfl dX12_readLine_325 ?_
                            obtain ⟨⟨b750, b751⟩, hf⟩ := hf
                            obtain ⟨s76, e77⟩ : ∃ z : sg_M, z = sg_up s72 67 ((10 + (4 * (s_288 67 0))) + 1) (s57 64 13) := ⟨_, rfl⟩
                            have hf := hf s76 e77
                            refine gw_iast F (sa_67 hst) b750 b751 h59 e77 dX12_readLine_326 ?_
                            refine gw_aload_n F 1 rfl rfl (by decide) dX12_readLine_327 ?_
                            refine gw_get7 F (so_64 hst) (by decide) rfl sg_lay_RX12 (j := 15) (by decide) (o1 := 67) (by first | rfl | omega) rfl (host := "") (.inl kw_962) dX12_readLine_328 (fun h78 => ?_)
                            refine gw_iload F 0 rfl dX12_readLine_331 ?_
                            refine gw_iconst F dX12_readLine_333 ?_
                            refine gw_iadd F rfl dX12_readLine_334 ?_
                            refine gw_iload F 5 rfl dX12_readLine_335 ?_
                            obtain ⟨⟨b790, b791⟩, hf⟩ := hf
                            obtain ⟨s80, e81⟩ : ∃ z : sg_M, z = sg_up s76 67 ((10 + (4 * (s_288 67 0))) + 2) x4_256 := ⟨_, rfl⟩
                            have hf := hf s80 e81
                            refine gw_iast F (sa_67 hst) b790 b791 r4_256 e81 dX12_readLine_337 ?_
                            refine gw_aload_n F 1 rfl rfl (by decide) dX12_readLine_338 ?_
                            refine gw_get7 F (so_64 hst) (by decide) rfl sg_lay_RX12 (j := 15) (by decide) (o1 := 67) (by first | rfl | omega) rfl (host := "") (.inl kw_962) dX12_readLine_339 (fun h82 => ?_)
                            refine gw_iload F 0 rfl dX12_readLine_342 ?_
                            refine gw_iconst F dX12_readLine_344 ?_
                            refine gw_iadd F rfl dX12_readLine_345 ?_
                            refine gw_iload F 6 rfl dX12_readLine_346 ?_
                            obtain ⟨⟨b830, b831⟩, hf⟩ := hf
                            obtain ⟨s84, e85⟩ : ∃ z : sg_M, z = sg_up s80 67 ((10 + (4 * (s_288 67 0))) + 3) x5_285 := ⟨_, rfl⟩
                            have hf := hf s84 e85
                            refine gw_iast F (sa_67 hst) b830 b831 r5_285 e85 dX12_readLine_348 ?_
                            refine gw_aload_n F 1 rfl rfl (by decide) dX12_readLine_349 ?_
                            refine gw_get7 F (so_64 hst) (by decide) rfl sg_lay_RX12 (j := 15) (by decide) (o1 := 67) (by first | rfl | omega) rfl (host := "") (.inl kw_962) dX12_readLine_350 (fun h86 => ?_)
                            refine gw_iconst F dX12_readLine_353 ?_
                            refine gw_dup2 F rfl rfl dX12_readLine_354 ?_
                            refine gw_iald F (sa_67 hst) (by decide) (by decide) dX12_readLine_355 (fun h87 => ?_)
                            refine gw_iconst F dX12_readLine_356 ?_
                            refine gw_iadd F rfl dX12_readLine_357 ?_
                            obtain ⟨g88, hf⟩ := hf
                            obtain ⟨s89, e90⟩ : ∃ z : sg_M, z = sg_up s84 67 0 ((s84 67 0) + 1) := ⟨_, rfl⟩
                            have hf := hf s89 e90
                            refine gw_iast F (sa_67 hst) (by decide) (by decide) g88 e90 dX12_readLine_358 ?_
                            refine gw_iinc F (z := (x6_288 + 1)) 7 rfl (by omega) (by decide) rfl dX12_readLine_359 ?_
                            refine gw_goto F (tgt := 288) dX12_readLine_362 (by decide) ?_
                            obtain ⟨g91, hf⟩ := hf
                            refine gw_sub [2, 3, 4, 5, 6, 7, 0] rfl ?_
                            exact ih s89 (x6_288 + 1) g91 hf
                      obtain ⟨n92, hf⟩ := hf
                      refine gw_sub [1, 2, 3, 4, 5, 6, 0] rfl ?_
                      refine L288   n92 s_285 0 (by decide) hf
                    refine gw_if_eq F (tgt := 285) dX12_readLine_261 (by decide) (sg_B_R h63) (fun c93 => ?_) (fun c93 => ?_)
                    · have hf := hf.1 c93
                      refine gw_sub [0, 1, 2, 3, 4, 5] rfl ?_
                      exact J285 s_256 0 (by decide) hf
                    · have hf := hf.2 c93
                      refine gw_aload_n F 0 rfl rfl (by decide) dX12_readLine_264 ?_
                      refine gk_HV F (gc_V F (S := []) (As := []) (T := TX12) (N := 62) (CX12_go hst hf) (so_64 hst) (by decide) rfl kw_1040 kw_103 kw_1038 kw_1039 kw_43 hcX12_go ⟨by decide, by decide⟩ rfl rfl (Nat.le_of_ble_eq_true rfl) ⟨by decide, by decide⟩ dX12_readLine_265) (fun s94 hf => ?_)
                      refine gw_aload_n F 0 rfl rfl (by decide) dX12_readLine_268 ?_
                      refine gw_bipush F rfl dX12_readLine_269 ?_
                      refine gk_HZ F (gc_V F (S := []) (As := [sg_i 99]) (T := TX12) (N := 62) (CX12_readSigned hst (by decide) hf) (so_64 hst) (by decide) rfl kw_1084 kw_103 kw_1082 kw_1083 kw_51 hcX12_readSigned ⟨by decide, by decide⟩ rfl rfl (Nat.le_of_ble_eq_true rfl) ⟨by decide, by decide⟩ dX12_readLine_271) (fun u95 s97 h96 hf => ?_)
                      refine gw_if_ne F (tgt := 279) dX12_readLine_274 (by decide) (sg_B_R h96) (fun c98 => ?_) (fun c98 => ?_)
                      · have hf := hf.1 c98
                        refine gw_aload_n F 0 rfl rfl (by decide) dX12_readLine_279 ?_
                        refine gw_get0 F (so_64 hst) (by decide) rfl sg_lay_RX12 (j := 13) (by decide) rfl (host := "") (.inl kw_960) dX12_readLine_280 (fun h99 => ?_)
                        refine gw_istore F (by decide) rfl dX12_readLine_283 ?_
                        refine gw_sub [1, 2, 3, 4, 5, 0] rfl ?_
                        exact J285 s97 (s97 64 13) h99 hf
                      · have hf := hf.2 c98
                        refine gw_iconst F dX12_readLine_277 ?_
                        exact gr_HZ F (by decide) hf (by decide) (by decide) dX12_readLine_278
                  refine gw_if_eq F (tgt := 256) dX12_readLine_219 (by decide) (sg_B_R h61) (fun c100 => ?_) (fun c100 => ?_)
                  · have hf := hf.1 c100
                    refine gw_sub [5, 4, 3, 2, 1, 0] rfl ?_
                    exact J256 s57 0 (by decide) hf
                  · have hf := hf.2 c100
                    refine gw_aload_n F 5 rfl rfl (by decide) dX12_readLine_222 ?_
                    refine gk_HV F (gc_V F (S := []) (As := []) (T := TX12) (N := 62) (CX12_go hst hf) (so_64 hst) (by decide) rfl kw_1040 kw_103 kw_1038 kw_1039 kw_43 hcX12_go ⟨by decide, by decide⟩ rfl rfl (Nat.le_of_ble_eq_true rfl) ⟨by decide, by decide⟩ dX12_readLine_223) (fun s101 hf => ?_)
                    refine gw_aload_n F 5 rfl rfl (by decide) dX12_readLine_226 ?_
                    refine gw_iconst F dX12_readLine_227 ?_
                    refine gw_iload_n F 3 rfl rfl dX12_readLine_228 ?_
                    refine gw_bipush F rfl dX12_readLine_229 ?_
                    have J242 : ∀ (y0_242 : Int), sg_R y0_242 → (fX12_readLine_j242 s101 Q (fX12_readLine_j256 s36 s52 s57 Q)) y0_242 → sg_W p l e (sg_rm 5 0 0) s m args below meth c (MQ below (sg_Q (some .boolean) G La s.heap.size (sg_HZ La Q)) args s 0 0 (sg_A La s.heap.size)) 8 G (sg_A La s.heap.size) La s101 0 0 242 [(0, sg_r 64), (1, sg_i (s36 64 8)), (2, sg_i (s52 64 13)), (3, sg_i (s57 64 13)), (5, sg_i 0)] [sg_i y0_242, sg_i 0, sg_r 64] := by
                      intro y0_242 ry0_242 hf
                      unfold fX12_readLine_j242 at hf
                      refine gk_HZ F (gc_V F (S := []) (As := [sg_i 0, sg_i y0_242]) (T := TX12) (N := 62) (CX12_readNumber hst (by decide) ry0_242 hf) (so_64 hst) (by decide) rfl kw_1072 kw_103 kw_1070 kw_1071 kw_48 hcX12_readNumber ⟨by decide, by decide⟩ rfl rfl (Nat.le_of_ble_eq_true rfl) ⟨by decide, by decide⟩ dX12_readLine_242) (fun u102 s104 h103 hf => ?_)
                      refine gw_if_ne F (tgt := 250) dX12_readLine_245 (by decide) (sg_B_R h103) (fun c105 => ?_) (fun c105 => ?_)
                      · have hf := hf.1 c105
                        refine gw_aload_n F 0 rfl rfl (by decide) dX12_readLine_250 ?_
                        refine gw_get0 F (so_64 hst) (by decide) rfl sg_lay_RX12 (j := 13) (by decide) rfl (host := "") (.inl kw_960) dX12_readLine_251 (fun h106 => ?_)
                        refine gw_istore F (by decide) rfl dX12_readLine_254 ?_
                        refine gw_sub [1, 2, 3, 4, 0, 5] rfl ?_
                        exact J256 s104 (s104 64 13) h106 hf
                      · have hf := hf.2 c105
                        refine gw_iconst F dX12_readLine_248 ?_
                        exact gr_HZ F (by decide) hf (by decide) (by decide) dX12_readLine_249
                    refine gw_icmp_le F (tgt := 239) dX12_readLine_231 (by decide) h54 (by decide) (fun c107 => ?_) (fun c107 => ?_)
                    · have hf := hf.1 c107
                      refine gw_iload_n F 3 rfl rfl dX12_readLine_239 ?_
                      refine gw_iconst F dX12_readLine_240 ?_
                      refine gw_isub F rfl dX12_readLine_241 ?_
                      obtain ⟨g108, hf⟩ := hf
                      refine gw_sub [5, 4, 3, 2, 0] rfl ?_
                      exact J242 ((s52 64 13) - 1) g108 hf
                    · have hf := hf.2 c107
                      refine gw_bipush F rfl dX12_readLine_234 ?_
                      refine gw_goto F (tgt := 242) dX12_readLine_236 (by decide) ?_
                      refine gw_sub [5, 4, 3, 2, 0] rfl ?_
                      exact J242 9 (by decide) hf
                · have hf := hf.2 c58
                  refine gw_iconst F dX12_readLine_201 ?_
                  exact gr_HZ F (by decide) hf (by decide) (by decide) dX12_readLine_202
              · have hf := hf.2 c53
                refine gw_iconst F dX12_readLine_184 ?_
                exact gr_HZ F (by decide) hf (by decide) (by decide) dX12_readLine_185
            · have hf := hf.2 c47
              refine gw_aload_n F 0 rfl rfl (by decide) dX12_readLine_159 ?_
              refine gw_iconst F dX12_readLine_160 ?_
              refine gk_HZ F (gc_V F (S := []) (As := [sg_i 4]) (T := TX12) (N := 62) (CX12_bad hst (by decide) hf) (so_64 hst) (by decide) rfl kw_1069 kw_103 kw_1067 kw_1068 kw_47 hcX12_bad ⟨by decide, by decide⟩ rfl rfl (Nat.le_of_ble_eq_true rfl) ⟨by decide, by decide⟩ dX12_readLine_161) (fun u109 s111 h110 hf => ?_)
              exact gr_HZ F h110 hf (by decide) (by decide) dX12_readLine_164
          · have hf := hf.2 c42
            refine gw_aload_n F 0 rfl rfl (by decide) dX12_readLine_137 ?_
            refine gw_iconst F dX12_readLine_138 ?_
            refine gk_HZ F (gc_V F (S := []) (As := [sg_i 2]) (T := TX12) (N := 62) (CX12_bad hst (by decide) hf) (so_64 hst) (by decide) rfl kw_1069 kw_103 kw_1067 kw_1068 kw_47 hcX12_bad ⟨by decide, by decide⟩ rfl rfl (Nat.le_of_ble_eq_true rfl) ⟨by decide, by decide⟩ dX12_readLine_139) (fun u112 s114 h113 hf => ?_)
            exact gr_HZ F h113 hf (by decide) (by decide) dX12_readLine_142
        · have hf := hf.2 c38
          refine gw_aload_n F 0 rfl rfl (by decide) dX12_readLine_118 ?_
          refine gw_iconst F dX12_readLine_119 ?_
          refine gk_HZ F (gc_V F (S := []) (As := [sg_i 1]) (T := TX12) (N := 62) (CX12_bad hst (by decide) hf) (so_64 hst) (by decide) rfl kw_1069 kw_103 kw_1067 kw_1068 kw_47 hcX12_bad ⟨by decide, by decide⟩ rfl rfl (Nat.le_of_ble_eq_true rfl) ⟨by decide, by decide⟩ dX12_readLine_120) (fun u115 s117 h116 hf => ?_)
          exact gr_HZ F h116 hf (by decide) (by decide) dX12_readLine_123
      · have hf := hf.2 c35
        refine gw_aload_n F 0 rfl rfl (by decide) dX12_readLine_100 ?_
        refine gw_iconst F dX12_readLine_101 ?_
        refine gk_HZ F (gc_V F (S := []) (As := [sg_i 1]) (T := TX12) (N := 62) (CX12_bad hst (by decide) hf) (so_64 hst) (by decide) rfl kw_1069 kw_103 kw_1067 kw_1068 kw_47 hcX12_bad ⟨by decide, by decide⟩ rfl rfl (Nat.le_of_ble_eq_true rfl) ⟨by decide, by decide⟩ dX12_readLine_102) (fun u118 s120 h119 hf => ?_)
        exact gr_HZ F h119 hf (by decide) (by decide) dX12_readLine_105
    · have hf := hf.2 c32
      refine gw_sub [0] rfl ?_
      exact J16  hf

theorem dX12_pieces_0 : decode cX12_pieces 0 = .ok (.aload_n 0, 1) := by decide +kernel
theorem dX12_pieces_1 : decode cX12_pieces 1 = .ok (.getfield 13, 3) := by decide +kernel
theorem dX12_pieces_4 : decode cX12_pieces 4 = .ok (.iconst 0, 1) := by decide +kernel
theorem dX12_pieces_5 : decode cX12_pieces 5 = .ok (.iaload, 1) := by decide +kernel
theorem dX12_pieces_6 : decode cX12_pieces 6 = .ok (.ireturn, 1) := by decide +kernel
theorem hcX12_pieces : yX12_pieces.cls ≠ "java/lang/invoke/MethodHandle" ∧ yX12_pieces.cls ≠ "java/lang/invoke/VarHandle" ∧ (parseMethodDescriptor yX12_pieces.desc).map (fun d => d.parameters.length) = some 0 := ⟨by decide +kernel, by decide +kernel, by decide +kernel⟩
def fX12_pieces (s0 : sg_M) (Q : Int → Prop) : Prop := Q (s0 66 0)
set_option maxHeartbeats 4000000 in
set_option maxRecDepth 100000 in
theorem CX12_pieces {l : Launch} {G : sg_G} {La : sg_L} {s0 : sg_M} (hst : sg_St La) {Q : Int → Prop} (hf : fX12_pieces s0 Q) : sg_C l G yX12_pieces cX12_pieces 1 (some .int) 1 0 0 La s0 [sg_r 64] (sg_PI La s0 Q) := by
  refine sg_body (by decide +kernel) (Nat.le_of_ble_eq_true rfl) ?_
  intro p e s m args below meth c F hnm
  unfold fX12_pieces at hf
  show sg_W p l e (sg_rm 1 0 0) s m args below meth c (MQ below (sg_Q (some .int) G La s.heap.size (sg_PI La s0 Q)) args s 0 0 (sg_A La s.heap.size)) 1 G (sg_A La s.heap.size) La s0 0 0 0 [(0, sg_r 64)] []
  refine gw_aload_n F 0 rfl rfl (by decide) dX12_pieces_0 ?_
  refine gw_get7 F (so_64 hst) (by decide) rfl sg_lay_RX12 (j := 14) (by decide) (o1 := 66) (by first | rfl | omega) rfl (host := "") (.inl kw_961) dX12_pieces_1 (fun h1 => ?_)
  refine gw_iconst F dX12_pieces_4 ?_
  refine gw_iald F (sa_66 hst) (by decide) (by decide) dX12_pieces_5 (fun h2 => ?_)
  exact gr_PI F h2 hf (by decide) (by decide) dX12_pieces_6

theorem dX12_songAt_0 : decode cX12_songAt 0 = .ok (.aload_n 0, 1) := by decide +kernel
theorem dX12_songAt_1 : decode cX12_songAt 1 = .ok (.iconst 0, 1) := by decide +kernel
theorem dX12_songAt_2 : decode cX12_songAt 2 = .ok (.putfield 84, 3) := by decide +kernel
theorem dX12_songAt_5 : decode cX12_songAt 5 = .ok (.iload_n 1, 1) := by decide +kernel
theorem dX12_songAt_6 : decode cX12_songAt 6 = .ok (.ifCond .lt 20, 3) := by decide +kernel
theorem dX12_songAt_9 : decode cX12_songAt 9 = .ok (.iload_n 1, 1) := by decide +kernel
theorem dX12_songAt_10 : decode cX12_songAt 10 = .ok (.aload_n 0, 1) := by decide +kernel
theorem dX12_songAt_11 : decode cX12_songAt 11 = .ok (.getfield 344, 3) := by decide +kernel
theorem dX12_songAt_14 : decode cX12_songAt 14 = .ok (.if_icmp .ge 12, 3) := by decide +kernel
theorem dX12_songAt_17 : decode cX12_songAt 17 = .ok (.aload_n 0, 1) := by decide +kernel
theorem dX12_songAt_18 : decode cX12_songAt 18 = .ok (.getfield 65, 3) := by decide +kernel
theorem dX12_songAt_21 : decode cX12_songAt 21 = .ok (.iload_n 1, 1) := by decide +kernel
theorem dX12_songAt_22 : decode cX12_songAt 22 = .ok (.iaload, 1) := by decide +kernel
theorem dX12_songAt_23 : decode cX12_songAt 23 = .ok (.goto 4, 3) := by decide +kernel
theorem dX12_songAt_26 : decode cX12_songAt 26 = .ok (.iconst (-1), 1) := by decide +kernel
theorem dX12_songAt_27 : decode cX12_songAt 27 = .ok (.ireturn, 1) := by decide +kernel
theorem hcX12_songAt : yX12_songAt.cls ≠ "java/lang/invoke/MethodHandle" ∧ yX12_songAt.cls ≠ "java/lang/invoke/VarHandle" ∧ (parseMethodDescriptor yX12_songAt.desc).map (fun d => d.parameters.length) = some 1 := ⟨by decide +kernel, by decide +kernel, by decide +kernel⟩
def fX12_songAt (s0 : sg_M) (x1 : Int) (Q : Int → sg_M → Prop) : Prop := ∀ s1 : sg_M, s1 = sg_up s0 64 0 0 → ((x1 < 0 → Q (-1) s1) ∧ (¬ (x1 < 0) → (((s1 64 50) ≤ x1 → Q (-1) s1) ∧ (¬ ((s1 64 50) ≤ x1) → (0 ≤ x1 ∧ x1 < 60) ∧ Q (s1 83 x1) s1))))
set_option maxHeartbeats 4000000 in
set_option maxRecDepth 100000 in
theorem CX12_songAt {l : Launch} {G : sg_G} {La : sg_L} {s0 : sg_M} (hst : sg_St La) {x1 : Int} (r1 : sg_R x1) {Q : Int → sg_M → Prop} (hf : fX12_songAt s0 x1 Q) : sg_C l G yX12_songAt cX12_songAt 2 (some .int) 1 0 0 La s0 [sg_r 64, sg_i x1] (sg_HI La Q) := by
  refine sg_body (by decide +kernel) (Nat.le_of_ble_eq_true rfl) ?_
  intro p e s m args below meth c F hnm
  unfold fX12_songAt at hf
  show sg_W p l e (sg_rm 1 0 0) s m args below meth c (MQ below (sg_Q (some .int) G La s.heap.size (sg_HI La Q)) args s 0 0 (sg_A La s.heap.size)) 2 G (sg_A La s.heap.size) La s0 0 0 0 [(0, sg_r 64), (1, sg_i x1)] []
  refine gw_aload_n F 0 rfl rfl (by decide) dX12_songAt_0 ?_
  refine gw_iconst F dX12_songAt_1 ?_
  obtain ⟨s1, e2⟩ : ∃ z : sg_M, z = sg_up s0 64 0 0 := ⟨_, rfl⟩
  have hf := hf s1 e2
  refine gw_put0 F (so_64 hst) (by decide) rfl sg_lay_RX12 (j := 0) (by decide) (by decide) e2 tyX12_ok nmX12 rfl (tyX12_ok 0 (by decide)) rfl (host := "") (.inl kw_947) dX12_songAt_2 ?_
  refine gw_iload_n F 1 rfl rfl dX12_songAt_5 ?_
  refine gw_if_lt F (tgt := 26) dX12_songAt_6 (by decide) r1 (fun c3 => ?_) (fun c3 => ?_)
  · have hf := hf.1 c3
    refine gw_iconst F dX12_songAt_26 ?_
    exact gr_HI F (by decide) hf (by decide) (by decide) dX12_songAt_27
  · have hf := hf.2 c3
    refine gw_iload_n F 1 rfl rfl dX12_songAt_9 ?_
    refine gw_aload_n F 0 rfl rfl (by decide) dX12_songAt_10 ?_
    refine gw_get0 F (so_64 hst) (by decide) rfl sg_lay_RX12 (j := 50) (by decide) rfl (host := "") (.inl kw_997) dX12_songAt_11 (fun h4 => ?_)
    refine gw_icmp_ge F (tgt := 26) dX12_songAt_14 (by decide) r1 h4 (fun c5 => ?_) (fun c5 => ?_)
    · have hf := hf.1 c5
      refine gw_iconst F dX12_songAt_26 ?_
      exact gr_HI F (by decide) hf (by decide) (by decide) dX12_songAt_27
    · have hf := hf.2 c5
      refine gw_aload_n F 0 rfl rfl (by decide) dX12_songAt_17 ?_
      refine gw_get7 F (so_64 hst) (by decide) rfl sg_lay_RX12 (j := 49) (by decide) (o1 := 83) (by first | rfl | omega) rfl (host := "") (.inl kw_996) dX12_songAt_18 (fun h6 => ?_)
      refine gw_iload_n F 1 rfl rfl dX12_songAt_21 ?_
      obtain ⟨⟨b70, b71⟩, hf⟩ := hf
      refine gw_iald F (sa_83 hst) b70 b71 dX12_songAt_22 (fun h8 => ?_)
      refine gw_goto F (tgt := 27) dX12_songAt_23 (by decide) ?_
      exact gr_HI F h8 hf (by decide) (by decide) dX12_songAt_27

theorem dX12_tremble_0 : decode cX12_tremble 0 = .ok (.aload_n 0, 1) := by decide +kernel
theorem dX12_tremble_1 : decode cX12_tremble 1 = .ok (.iconst 0, 1) := by decide +kernel
theorem dX12_tremble_2 : decode cX12_tremble 2 = .ok (.putfield 84, 3) := by decide +kernel
theorem dX12_tremble_5 : decode cX12_tremble 5 = .ok (.aload_n 0, 1) := by decide +kernel
theorem dX12_tremble_6 : decode cX12_tremble 6 = .ok (.invokevirtual 175, 3) := by decide +kernel
theorem dX12_tremble_9 : decode cX12_tremble 9 = .ok (.iload_n 1, 1) := by decide +kernel
theorem dX12_tremble_10 : decode cX12_tremble 10 = .ok (.iload_n 2, 1) := by decide +kernel
theorem dX12_tremble_11 : decode cX12_tremble 11 = .ok (.invokestatic 232, 3) := by decide +kernel
theorem dX12_tremble_14 : decode cX12_tremble 14 = .ok (.ifCond .eq 14, 3) := by decide +kernel
theorem dX12_tremble_17 : decode cX12_tremble 17 = .ok (.iload_n 3, 1) := by decide +kernel
theorem dX12_tremble_18 : decode cX12_tremble 18 = .ok (.iconst 0, 1) := by decide +kernel
theorem dX12_tremble_19 : decode cX12_tremble 19 = .ok (.sipush 999, 3) := by decide +kernel
theorem dX12_tremble_22 : decode cX12_tremble 22 = .ok (.invokestatic 155, 3) := by decide +kernel
theorem dX12_tremble_25 : decode cX12_tremble 25 = .ok (.ifCond .ne 5, 3) := by decide +kernel
theorem dX12_tremble_28 : decode cX12_tremble 28 = .ok (.iconst (-1), 1) := by decide +kernel
theorem dX12_tremble_29 : decode cX12_tremble 29 = .ok (.ireturn, 1) := by decide +kernel
theorem dX12_tremble_30 : decode cX12_tremble 30 = .ok (.aload_n 0, 1) := by decide +kernel
theorem dX12_tremble_31 : decode cX12_tremble 31 = .ok (.iload_n 1, 1) := by decide +kernel
theorem dX12_tremble_32 : decode cX12_tremble 32 = .ok (.iload_n 2, 1) := by decide +kernel
theorem dX12_tremble_33 : decode cX12_tremble 33 = .ok (.iload_n 3, 1) := by decide +kernel
theorem dX12_tremble_34 : decode cX12_tremble 34 = .ok (.isub, 1) := by decide +kernel
theorem dX12_tremble_35 : decode cX12_tremble 35 = .ok (.invokestatic 311, 3) := by decide +kernel
theorem dX12_tremble_38 : decode cX12_tremble 38 = .ok (.invokevirtual 317, 3) := by decide +kernel
theorem dX12_tremble_41 : decode cX12_tremble 41 = .ok (.istore 4, 2) := by decide +kernel
theorem dX12_tremble_43 : decode cX12_tremble 43 = .ok (.aload_n 0, 1) := by decide +kernel
theorem dX12_tremble_44 : decode cX12_tremble 44 = .ok (.iload_n 1, 1) := by decide +kernel
theorem dX12_tremble_45 : decode cX12_tremble 45 = .ok (.iload_n 2, 1) := by decide +kernel
theorem dX12_tremble_46 : decode cX12_tremble 46 = .ok (.invokevirtual 317, 3) := by decide +kernel
theorem dX12_tremble_49 : decode cX12_tremble 49 = .ok (.istore 5, 2) := by decide +kernel
theorem dX12_tremble_51 : decode cX12_tremble 51 = .ok (.aload_n 0, 1) := by decide +kernel
theorem dX12_tremble_52 : decode cX12_tremble 52 = .ok (.iload_n 1, 1) := by decide +kernel
theorem dX12_tremble_53 : decode cX12_tremble 53 = .ok (.iload_n 2, 1) := by decide +kernel
theorem dX12_tremble_54 : decode cX12_tremble 54 = .ok (.iload_n 3, 1) := by decide +kernel
theorem dX12_tremble_55 : decode cX12_tremble 55 = .ok (.iadd, 1) := by decide +kernel
theorem dX12_tremble_56 : decode cX12_tremble 56 = .ok (.invokestatic 311, 3) := by decide +kernel
theorem dX12_tremble_59 : decode cX12_tremble 59 = .ok (.invokevirtual 317, 3) := by decide +kernel
theorem dX12_tremble_62 : decode cX12_tremble 62 = .ok (.istore 6, 2) := by decide +kernel
theorem dX12_tremble_64 : decode cX12_tremble 64 = .ok (.iload 4, 2) := by decide +kernel
theorem dX12_tremble_66 : decode cX12_tremble 66 = .ok (.ifCond .eq 13, 3) := by decide +kernel
theorem dX12_tremble_69 : decode cX12_tremble 69 = .ok (.iload 5, 2) := by decide +kernel
theorem dX12_tremble_71 : decode cX12_tremble 71 = .ok (.ifCond .eq 8, 3) := by decide +kernel
theorem dX12_tremble_74 : decode cX12_tremble 74 = .ok (.iload 6, 2) := by decide +kernel
theorem dX12_tremble_76 : decode cX12_tremble 76 = .ok (.ifCond .ne 5, 3) := by decide +kernel
theorem dX12_tremble_79 : decode cX12_tremble 79 = .ok (.iconst (-1), 1) := by decide +kernel
theorem dX12_tremble_80 : decode cX12_tremble 80 = .ok (.ireturn, 1) := by decide +kernel
theorem dX12_tremble_81 : decode cX12_tremble 81 = .ok (.iload 4, 2) := by decide +kernel
theorem dX12_tremble_83 : decode cX12_tremble 83 = .ok (.iload 5, 2) := by decide +kernel
theorem dX12_tremble_85 : decode cX12_tremble 85 = .ok (.if_icmp .ge 8, 3) := by decide +kernel
theorem dX12_tremble_88 : decode cX12_tremble 88 = .ok (.iload 4, 2) := by decide +kernel
theorem dX12_tremble_90 : decode cX12_tremble 90 = .ok (.goto 5, 3) := by decide +kernel
theorem dX12_tremble_93 : decode cX12_tremble 93 = .ok (.iload 5, 2) := by decide +kernel
theorem dX12_tremble_95 : decode cX12_tremble 95 = .ok (.istore 7, 2) := by decide +kernel
theorem dX12_tremble_97 : decode cX12_tremble 97 = .ok (.iload 4, 2) := by decide +kernel
theorem dX12_tremble_99 : decode cX12_tremble 99 = .ok (.iload 5, 2) := by decide +kernel
theorem dX12_tremble_101 : decode cX12_tremble 101 = .ok (.if_icmp .ge 8, 3) := by decide +kernel
theorem dX12_tremble_104 : decode cX12_tremble 104 = .ok (.iload 5, 2) := by decide +kernel
theorem dX12_tremble_106 : decode cX12_tremble 106 = .ok (.goto 5, 3) := by decide +kernel
theorem dX12_tremble_109 : decode cX12_tremble 109 = .ok (.iload 4, 2) := by decide +kernel
theorem dX12_tremble_111 : decode cX12_tremble 111 = .ok (.istore 8, 2) := by decide +kernel
theorem dX12_tremble_113 : decode cX12_tremble 113 = .ok (.iload 6, 2) := by decide +kernel
theorem dX12_tremble_115 : decode cX12_tremble 115 = .ok (.iload 7, 2) := by decide +kernel
theorem dX12_tremble_117 : decode cX12_tremble 117 = .ok (.if_icmp .ge 7, 3) := by decide +kernel
theorem dX12_tremble_120 : decode cX12_tremble 120 = .ok (.iload 6, 2) := by decide +kernel
theorem dX12_tremble_122 : decode cX12_tremble 122 = .ok (.istore 7, 2) := by decide +kernel
theorem dX12_tremble_124 : decode cX12_tremble 124 = .ok (.iload 6, 2) := by decide +kernel
theorem dX12_tremble_126 : decode cX12_tremble 126 = .ok (.iload 8, 2) := by decide +kernel
theorem dX12_tremble_128 : decode cX12_tremble 128 = .ok (.if_icmp .le 8, 3) := by decide +kernel
theorem dX12_tremble_131 : decode cX12_tremble 131 = .ok (.iload 6, 2) := by decide +kernel
theorem dX12_tremble_133 : decode cX12_tremble 133 = .ok (.goto 5, 3) := by decide +kernel
theorem dX12_tremble_136 : decode cX12_tremble 136 = .ok (.iload 8, 2) := by decide +kernel
theorem dX12_tremble_138 : decode cX12_tremble 138 = .ok (.iload 7, 2) := by decide +kernel
theorem dX12_tremble_140 : decode cX12_tremble 140 = .ok (.isub, 1) := by decide +kernel
theorem dX12_tremble_141 : decode cX12_tremble 141 = .ok (.ireturn, 1) := by decide +kernel
theorem hcX12_tremble : yX12_tremble.cls ≠ "java/lang/invoke/MethodHandle" ∧ yX12_tremble.cls ≠ "java/lang/invoke/VarHandle" ∧ (parseMethodDescriptor yX12_tremble.desc).map (fun d => d.parameters.length) = some 3 := ⟨by decide +kernel, by decide +kernel, by decide +kernel⟩
def fX12_tremble_j124 (u22 : Int) (s24 : sg_M) (y0_111 : Int) (Q : Int → sg_M → Prop) (x7_124 : Int) : Prop := ((u22 ≤ y0_111 → sg_R (y0_111 - x7_124) ∧ Q (y0_111 - x7_124) s24) ∧ (¬ (u22 ≤ y0_111) → sg_R (u22 - x7_124) ∧ Q (u22 - x7_124) s24))
def fX12_tremble_j111 (u22 : Int) (s24 : sg_M) (y0_95 : Int) (Q : Int → sg_M → Prop) (y0_111 : Int) : Prop := ((y0_95 ≤ u22 → (fX12_tremble_j124 u22 s24 y0_111 Q) y0_95) ∧ (¬ (y0_95 ≤ u22) → (fX12_tremble_j124 u22 s24 y0_111 Q) u22))
def fX12_tremble_j95 (u13 : Int) (u16 : Int) (u22 : Int) (s24 : sg_M) (Q : Int → sg_M → Prop) (y0_95 : Int) : Prop := ((u16 ≤ u13 → (fX12_tremble_j111 u22 s24 y0_95 Q) u13) ∧ (¬ (u16 ≤ u13) → (fX12_tremble_j111 u22 s24 y0_95 Q) u16))
def fX12_tremble (s0 : sg_M) (x1 : Int) (x2 : Int) (x3 : Int) (Q : Int → sg_M → Prop) : Prop := ∀ s1 : sg_M, s1 = sg_up s0 64 0 0 → fX12_lay s1 (fun s3 => fX12_isBend x1 x2 (fun u4 => ((u4 = 0 → Q (-1) s3) ∧ (¬ (u4 = 0) → fX12_isIn x3 0 999 (fun u7 => ((u7 ≠ 0 → sg_R (x2 - x3) ∧ fX12_cut (x2 - x3) (fun u11 => fX12_voiceOf s3 x1 u11 (fun u13 s15 => fX12_voiceOf s15 x1 x2 (fun u16 s18 => sg_R (x2 + x3) ∧ fX12_cut (x2 + x3) (fun u20 => fX12_voiceOf s18 x1 u20 (fun u22 s24 => ((u13 = 0 → Q (-1) s24) ∧ (¬ (u13 = 0) → ((u16 = 0 → Q (-1) s24) ∧ (¬ (u16 = 0) → ((u22 ≠ 0 → ((u16 ≤ u13 → (fX12_tremble_j95 u13 u16 u22 s24 Q) u16) ∧ (¬ (u16 ≤ u13) → (fX12_tremble_j95 u13 u16 u22 s24 Q) u13))) ∧ (u22 = 0 → Q (-1) s24)))))))))))) ∧ (u7 = 0 → Q (-1) s3)))))))
set_option maxHeartbeats 4000000 in
set_option maxRecDepth 100000 in
theorem CX12_tremble {l : Launch} {G : sg_G} {La : sg_L} {s0 : sg_M} (hst : sg_St La) {x1 : Int} (r1 : sg_R x1) {x2 : Int} (r2 : sg_R x2) {x3 : Int} (r3 : sg_R x3) {Q : Int → sg_M → Prop} (hf : fX12_tremble s0 x1 x2 x3 Q) : sg_C l G yX12_tremble cX12_tremble 9 (some .int) 6 0 0 La s0 [sg_r 64, sg_i x1, sg_i x2, sg_i x3] (sg_HI La Q) := by
  refine sg_body (by decide +kernel) (Nat.le_of_ble_eq_true rfl) ?_
  intro p e s m args below meth c F hnm
  unfold fX12_tremble at hf
  show sg_W p l e (sg_rm 6 0 0) s m args below meth c (MQ below (sg_Q (some .int) G La s.heap.size (sg_HI La Q)) args s 0 0 (sg_A La s.heap.size)) 9 G (sg_A La s.heap.size) La s0 0 0 0 [(0, sg_r 64), (1, sg_i x1), (2, sg_i x2), (3, sg_i x3)] []
  refine gw_aload_n F 0 rfl rfl (by decide) dX12_tremble_0 ?_
  refine gw_iconst F dX12_tremble_1 ?_
  obtain ⟨s1, e2⟩ : ∃ z : sg_M, z = sg_up s0 64 0 0 := ⟨_, rfl⟩
  have hf := hf s1 e2
  refine gw_put0 F (so_64 hst) (by decide) rfl sg_lay_RX12 (j := 0) (by decide) (by decide) e2 tyX12_ok nmX12 rfl (tyX12_ok 0 (by decide)) rfl (host := "") (.inl kw_947) dX12_tremble_2 ?_
  refine gw_aload_n F 0 rfl rfl (by decide) dX12_tremble_5 ?_
  refine gk_HV F (gc_V F (S := []) (As := []) (T := TX12) (N := 62) (CX12_lay hst hf) (so_64 hst) (by decide) rfl kw_1034 kw_103 kw_1032 kw_1033 kw_41 hcX12_lay ⟨by decide, by decide⟩ rfl rfl (Nat.le_of_ble_eq_true rfl) ⟨by decide, by decide⟩ dX12_tremble_6) (fun s3 hf => ?_)
  refine gw_iload_n F 1 rfl rfl dX12_tremble_9 ?_
  refine gw_iload_n F 2 rfl rfl dX12_tremble_10 ?_
  refine gk_PZ F (gc_S F (S := []) (As := [sg_i x1, sg_i x2]) (CX12_isBend r1 r2 hf) kw_1108 kw_103 kw_1106 kw_1107 hcX12_isBend ⟨by decide, by decide⟩ rfl rfl (Nat.le_of_ble_eq_true rfl) ⟨by decide, by decide⟩ dX12_tremble_11) (fun u4 h5 hf => ?_)
  refine gw_if_eq F (tgt := 28) dX12_tremble_14 (by decide) (sg_B_R h5) (fun c6 => ?_) (fun c6 => ?_)
  · have hf := hf.1 c6
    refine gw_iconst F dX12_tremble_28 ?_
    exact gr_HI F (by decide) hf (by decide) (by decide) dX12_tremble_29
  · have hf := hf.2 c6
    refine gw_iload_n F 3 rfl rfl dX12_tremble_17 ?_
    refine gw_iconst F dX12_tremble_18 ?_
    refine gw_sipush F rfl dX12_tremble_19 ?_
    refine gk_PZ F (gc_S F (S := []) (As := [sg_i x3, sg_i 0, sg_i 999]) (CX12_isIn r3 (by decide) (by decide) hf) kw_1075 kw_103 kw_1073 kw_1074 hcX12_isIn ⟨by decide, by decide⟩ rfl rfl (Nat.le_of_ble_eq_true rfl) ⟨by decide, by decide⟩ dX12_tremble_22) (fun u7 h8 hf => ?_)
    refine gw_if_ne F (tgt := 30) dX12_tremble_25 (by decide) (sg_B_R h8) (fun c9 => ?_) (fun c9 => ?_)
    · have hf := hf.1 c9
      refine gw_aload_n F 0 rfl rfl (by decide) dX12_tremble_30 ?_
      refine gw_iload_n F 1 rfl rfl dX12_tremble_31 ?_
      refine gw_iload_n F 2 rfl rfl dX12_tremble_32 ?_
      refine gw_iload_n F 3 rfl rfl dX12_tremble_33 ?_
      refine gw_isub F rfl dX12_tremble_34 ?_
      obtain ⟨g10, hf⟩ := hf
      refine gk_PI F (gc_S F (S := [sg_i x1, sg_r 64]) (As := [sg_i (x2 - x3)]) (CX12_cut g10 hf) kw_1186 kw_103 kw_1184 kw_1185 hcX12_cut ⟨by decide, by decide⟩ rfl rfl (Nat.le_of_ble_eq_true rfl) ⟨by decide, by decide⟩ dX12_tremble_35) (fun u11 h12 hf => ?_)
      refine gk_HI F (gc_V F (S := []) (As := [sg_i x1, sg_i u11]) (T := TX12) (N := 62) (CX12_voiceOf hst r1 h12 hf) (so_64 hst) (by decide) rfl kw_1193 kw_103 kw_1191 kw_1192 kw_68 hcX12_voiceOf ⟨by decide, by decide⟩ rfl rfl (Nat.le_of_ble_eq_true rfl) ⟨by decide, by decide⟩ dX12_tremble_38) (fun u13 s15 h14 hf => ?_)
      refine gw_istore F (by decide) rfl dX12_tremble_41 ?_
      refine gw_aload_n F 1 rfl rfl (by decide) dX12_tremble_43 ?_
      refine gw_iload_n F 2 rfl rfl dX12_tremble_44 ?_
      refine gw_iload_n F 3 rfl rfl dX12_tremble_45 ?_
      refine gk_HI F (gc_V F (S := []) (As := [sg_i x1, sg_i x2]) (T := TX12) (N := 62) (CX12_voiceOf hst r1 r2 hf) (so_64 hst) (by decide) rfl kw_1193 kw_103 kw_1191 kw_1192 kw_68 hcX12_voiceOf ⟨by decide, by decide⟩ rfl rfl (Nat.le_of_ble_eq_true rfl) ⟨by decide, by decide⟩ dX12_tremble_46) (fun u16 s18 h17 hf => ?_)
      refine gw_istore F (by decide) rfl dX12_tremble_49 ?_
      refine gw_aload_n F 2 rfl rfl (by decide) dX12_tremble_51 ?_
      refine gw_iload_n F 3 rfl rfl dX12_tremble_52 ?_
      refine gw_iload_n F 4 rfl rfl dX12_tremble_53 ?_
      refine gw_iload_n F 5 rfl rfl dX12_tremble_54 ?_
      refine gw_iadd F rfl dX12_tremble_55 ?_
      obtain ⟨g19, hf⟩ := hf
      refine gk_PI F (gc_S F (S := [sg_i x1, sg_r 64]) (As := [sg_i (x2 + x3)]) (CX12_cut g19 hf) kw_1186 kw_103 kw_1184 kw_1185 hcX12_cut ⟨by decide, by decide⟩ rfl rfl (Nat.le_of_ble_eq_true rfl) ⟨by decide, by decide⟩ dX12_tremble_56) (fun u20 h21 hf => ?_)
      refine gk_HI F (gc_V F (S := []) (As := [sg_i x1, sg_i u20]) (T := TX12) (N := 62) (CX12_voiceOf hst r1 h21 hf) (so_64 hst) (by decide) rfl kw_1193 kw_103 kw_1191 kw_1192 kw_68 hcX12_voiceOf ⟨by decide, by decide⟩ rfl rfl (Nat.le_of_ble_eq_true rfl) ⟨by decide, by decide⟩ dX12_tremble_59) (fun u22 s24 h23 hf => ?_)
      refine gw_istore F (by decide) rfl dX12_tremble_62 ?_
      refine gw_iload F 2 rfl dX12_tremble_64 ?_
      refine gw_if_eq F (tgt := 79) dX12_tremble_66 (by decide) h14 (fun c25 => ?_) (fun c25 => ?_)
      · have hf := hf.1 c25
        refine gw_iconst F dX12_tremble_79 ?_
        exact gr_HI F (by decide) hf (by decide) (by decide) dX12_tremble_80
      · have hf := hf.2 c25
        refine gw_iload F 1 rfl dX12_tremble_69 ?_
        refine gw_if_eq F (tgt := 79) dX12_tremble_71 (by decide) h17 (fun c26 => ?_) (fun c26 => ?_)
        · have hf := hf.1 c26
          refine gw_iconst F dX12_tremble_79 ?_
          exact gr_HI F (by decide) hf (by decide) (by decide) dX12_tremble_80
        · have hf := hf.2 c26
          refine gw_iload F 0 rfl dX12_tremble_74 ?_
          refine gw_if_ne F (tgt := 81) dX12_tremble_76 (by decide) h23 (fun c27 => ?_) (fun c27 => ?_)
          · have hf := hf.1 c27
            refine gw_iload F 2 rfl dX12_tremble_81 ?_
            refine gw_iload F 1 rfl dX12_tremble_83 ?_
            have J95 : ∀ (y0_95 : Int), sg_R y0_95 → (fX12_tremble_j95 u13 u16 u22 s24 Q) y0_95 → sg_W p l e (sg_rm 6 0 0) s m args below meth c (MQ below (sg_Q (some .int) G La s.heap.size (sg_HI La Q)) args s 0 0 (sg_A La s.heap.size)) 9 G (sg_A La s.heap.size) La s24 0 0 95 [(4, sg_i u13), (5, sg_i u16), (6, sg_i u22)] [sg_i y0_95] := by
              intro y0_95 ry0_95 hf
              unfold fX12_tremble_j95 at hf
              refine gw_istore F (by decide) rfl dX12_tremble_95 ?_
              refine gw_iload F 1 rfl dX12_tremble_97 ?_
              refine gw_iload F 2 rfl dX12_tremble_99 ?_
              have J111 : ∀ (y0_111 : Int), sg_R y0_111 → (fX12_tremble_j111 u22 s24 y0_95 Q) y0_111 → sg_W p l e (sg_rm 6 0 0) s m args below meth c (MQ below (sg_Q (some .int) G La s.heap.size (sg_HI La Q)) args s 0 0 (sg_A La s.heap.size)) 9 G (sg_A La s.heap.size) La s24 0 0 111 [(6, sg_i u22), (7, sg_i y0_95)] [sg_i y0_111] := by
                intro y0_111 ry0_111 hf
                unfold fX12_tremble_j111 at hf
                refine gw_istore F (by decide) rfl dX12_tremble_111 ?_
                refine gw_iload F 1 rfl dX12_tremble_113 ?_
                refine gw_iload F 2 rfl dX12_tremble_115 ?_
                have J124 : ∀ (x7_124 : Int), sg_R x7_124 → (fX12_tremble_j124 u22 s24 y0_111 Q) x7_124 → sg_W p l e (sg_rm 6 0 0) s m args below meth c (MQ below (sg_Q (some .int) G La s.heap.size (sg_HI La Q)) args s 0 0 (sg_A La s.heap.size)) 9 G (sg_A La s.heap.size) La s24 0 0 124 [(6, sg_i u22), (7, sg_i x7_124), (8, sg_i y0_111)] [] := by
                  intro x7_124 r7_124 hf
                  unfold fX12_tremble_j124 at hf
                  refine gw_iload F 0 rfl dX12_tremble_124 ?_
                  refine gw_iload F 2 rfl dX12_tremble_126 ?_
                  refine gw_icmp_le F (tgt := 136) dX12_tremble_128 (by decide) h23 ry0_111 (fun c28 => ?_) (fun c28 => ?_)
                  · have hf := hf.1 c28
                    refine gw_iload F 2 rfl dX12_tremble_136 ?_
                    refine gw_iload F 1 rfl dX12_tremble_138 ?_
                    refine gw_isub F rfl dX12_tremble_140 ?_
                    obtain ⟨g29, hf⟩ := hf
                    exact gr_HI F g29 hf (by decide) (by decide) dX12_tremble_141
                  · have hf := hf.2 c28
                    refine gw_iload F 0 rfl dX12_tremble_131 ?_
                    refine gw_goto F (tgt := 138) dX12_tremble_133 (by decide) ?_
                    refine gw_iload F 1 rfl dX12_tremble_138 ?_
                    refine gw_isub F rfl dX12_tremble_140 ?_
                    obtain ⟨g30, hf⟩ := hf
                    exact gr_HI F g30 hf (by decide) (by decide) dX12_tremble_141
                refine gw_icmp_ge F (tgt := 124) dX12_tremble_117 (by decide) h23 ry0_95 (fun c31 => ?_) (fun c31 => ?_)
                · have hf := hf.1 c31
                  refine gw_sub [1, 2, 0] rfl ?_
                  exact J124 y0_95 ry0_95 hf
                · have hf := hf.2 c31
                  refine gw_iload F 1 rfl dX12_tremble_120 ?_
                  refine gw_istore F (by decide) rfl dX12_tremble_122 ?_
                  refine gw_sub [2, 0, 1] rfl ?_
                  exact J124 u22 h23 hf
              refine gw_icmp_ge F (tgt := 109) dX12_tremble_101 (by decide) h14 h17 (fun c32 => ?_) (fun c32 => ?_)
              · have hf := hf.1 c32
                refine gw_iload F 1 rfl dX12_tremble_109 ?_
                refine gw_sub [3, 0] rfl ?_
                exact J111 u13 h14 hf
              · have hf := hf.2 c32
                refine gw_iload F 2 rfl dX12_tremble_104 ?_
                refine gw_goto F (tgt := 111) dX12_tremble_106 (by decide) ?_
                refine gw_sub [3, 0] rfl ?_
                exact J111 u16 h17 hf
            refine gw_icmp_ge F (tgt := 93) dX12_tremble_85 (by decide) h14 h17 (fun c33 => ?_) (fun c33 => ?_)
            · have hf := hf.1 c33
              refine gw_iload F 1 rfl dX12_tremble_93 ?_
              refine gw_sub [2, 1, 0] rfl ?_
              exact J95 u16 h17 hf
            · have hf := hf.2 c33
              refine gw_iload F 2 rfl dX12_tremble_88 ?_
              refine gw_goto F (tgt := 95) dX12_tremble_90 (by decide) ?_
              refine gw_sub [2, 1, 0] rfl ?_
              exact J95 u13 h14 hf
          · have hf := hf.2 c27
            refine gw_iconst F dX12_tremble_79 ?_
            exact gr_HI F (by decide) hf (by decide) (by decide) dX12_tremble_80
    · have hf := hf.2 c9
      refine gw_iconst F dX12_tremble_28 ?_
      exact gr_HI F (by decide) hf (by decide) (by decide) dX12_tremble_29

theorem dX12_place_0 : decode cX12_place 0 = .ok (.aload_n 0, 1) := by decide +kernel
theorem dX12_place_1 : decode cX12_place 1 = .ok (.iconst 0, 1) := by decide +kernel
theorem dX12_place_2 : decode cX12_place 2 = .ok (.putfield 84, 3) := by decide +kernel
theorem dX12_place_5 : decode cX12_place 5 = .ok (.aload_n 0, 1) := by decide +kernel
theorem dX12_place_6 : decode cX12_place 6 = .ok (.invokevirtual 175, 3) := by decide +kernel
theorem dX12_place_9 : decode cX12_place 9 = .ok (.iload_n 1, 1) := by decide +kernel
theorem dX12_place_10 : decode cX12_place 10 = .ok (.iload_n 2, 1) := by decide +kernel
theorem dX12_place_11 : decode cX12_place 11 = .ok (.invokestatic 232, 3) := by decide +kernel
theorem dX12_place_14 : decode cX12_place 14 = .ok (.ifCond .eq 8, 3) := by decide +kernel
theorem dX12_place_17 : decode cX12_place 17 = .ok (.iload_n 3, 1) := by decide +kernel
theorem dX12_place_18 : decode cX12_place 18 = .ok (.iconst (-1), 1) := by decide +kernel
theorem dX12_place_19 : decode cX12_place 19 = .ok (.if_icmp .ge 5, 3) := by decide +kernel
theorem dX12_place_22 : decode cX12_place 22 = .ok (.iconst (-1), 1) := by decide +kernel
theorem dX12_place_23 : decode cX12_place 23 = .ok (.ireturn, 1) := by decide +kernel
theorem dX12_place_24 : decode cX12_place 24 = .ok (.aload_n 0, 1) := by decide +kernel
theorem dX12_place_25 : decode cX12_place 25 = .ok (.iconst 0, 1) := by decide +kernel
theorem dX12_place_26 : decode cX12_place 26 = .ok (.iload_n 1, 1) := by decide +kernel
theorem dX12_place_27 : decode cX12_place 27 = .ok (.iload_n 2, 1) := by decide +kernel
theorem dX12_place_28 : decode cX12_place 28 = .ok (.iconst 0, 1) := by decide +kernel
theorem dX12_place_29 : decode cX12_place 29 = .ok (.iconst 0, 1) := by decide +kernel
theorem dX12_place_30 : decode cX12_place 30 = .ok (.invokevirtual 235, 3) := by decide +kernel
theorem dX12_place_33 : decode cX12_place 33 = .ok (.iload_n 3, 1) := by decide +kernel
theorem dX12_place_34 : decode cX12_place 34 = .ok (.iconst (-1), 1) := by decide +kernel
theorem dX12_place_35 : decode cX12_place 35 = .ok (.if_icmp .ne 10, 3) := by decide +kernel
theorem dX12_place_38 : decode cX12_place 38 = .ok (.aload_n 0, 1) := by decide +kernel
theorem dX12_place_39 : decode cX12_place 39 = .ok (.getfield 226, 3) := by decide +kernel
theorem dX12_place_42 : decode cX12_place 42 = .ok (.goto 21, 3) := by decide +kernel
theorem dX12_place_45 : decode cX12_place 45 = .ok (.iload_n 3, 1) := by decide +kernel
theorem dX12_place_46 : decode cX12_place 46 = .ok (.aload_n 0, 1) := by decide +kernel
theorem dX12_place_47 : decode cX12_place 47 = .ok (.getfield 226, 3) := by decide +kernel
theorem dX12_place_50 : decode cX12_place 50 = .ok (.if_icmp .ge 12, 3) := by decide +kernel
theorem dX12_place_53 : decode cX12_place 53 = .ok (.aload_n 0, 1) := by decide +kernel
theorem dX12_place_54 : decode cX12_place 54 = .ok (.getfield 41, 3) := by decide +kernel
theorem dX12_place_57 : decode cX12_place 57 = .ok (.iload_n 3, 1) := by decide +kernel
theorem dX12_place_58 : decode cX12_place 58 = .ok (.iaload, 1) := by decide +kernel
theorem dX12_place_59 : decode cX12_place 59 = .ok (.goto 4, 3) := by decide +kernel
theorem dX12_place_62 : decode cX12_place 62 = .ok (.iconst (-1), 1) := by decide +kernel
theorem dX12_place_63 : decode cX12_place 63 = .ok (.ireturn, 1) := by decide +kernel
theorem hcX12_place : yX12_place.cls ≠ "java/lang/invoke/MethodHandle" ∧ yX12_place.cls ≠ "java/lang/invoke/VarHandle" ∧ (parseMethodDescriptor yX12_place.desc).map (fun d => d.parameters.length) = some 3 := ⟨by decide +kernel, by decide +kernel, by decide +kernel⟩
def fX12_place (s0 : sg_M) (x1 : Int) (x2 : Int) (x3 : Int) (Q : Int → sg_M → Prop) : Prop := ∀ s1 : sg_M, s1 = sg_up s0 64 0 0 → fX12_lay s1 (fun s3 => fX12_isBend x1 x2 (fun u4 => ((u4 = 0 → Q (-1) s3) ∧ (¬ (u4 = 0) → (((-1) ≤ x3 → fX12_layBend s3 0 x1 x2 0 0 (fun s8 => ((x3 ≠ (-1) → (((s8 64 29) ≤ x3 → Q (-1) s8) ∧ (¬ ((s8 64 29) ≤ x3) → (0 ≤ x3 ∧ x3 < 60) ∧ Q (s8 75 x3) s8))) ∧ (x3 = (-1) → Q (s8 64 29) s8)))) ∧ (¬ ((-1) ≤ x3) → Q (-1) s3))))))
set_option maxHeartbeats 4000000 in
set_option maxRecDepth 100000 in
theorem CX12_place {l : Launch} {G : sg_G} {La : sg_L} {s0 : sg_M} (hst : sg_St La) {x1 : Int} (r1 : sg_R x1) {x2 : Int} (r2 : sg_R x2) {x3 : Int} (r3 : sg_R x3) {Q : Int → sg_M → Prop} (hf : fX12_place s0 x1 x2 x3 Q) : sg_C l G yX12_place cX12_place 4 (some .int) 3 0 0 La s0 [sg_r 64, sg_i x1, sg_i x2, sg_i x3] (sg_HI La Q) := by
  refine sg_body (by decide +kernel) (Nat.le_of_ble_eq_true rfl) ?_
  intro p e s m args below meth c F hnm
  unfold fX12_place at hf
  show sg_W p l e (sg_rm 3 0 0) s m args below meth c (MQ below (sg_Q (some .int) G La s.heap.size (sg_HI La Q)) args s 0 0 (sg_A La s.heap.size)) 4 G (sg_A La s.heap.size) La s0 0 0 0 [(0, sg_r 64), (1, sg_i x1), (2, sg_i x2), (3, sg_i x3)] []
  refine gw_aload_n F 0 rfl rfl (by decide) dX12_place_0 ?_
  refine gw_iconst F dX12_place_1 ?_
  obtain ⟨s1, e2⟩ : ∃ z : sg_M, z = sg_up s0 64 0 0 := ⟨_, rfl⟩
  have hf := hf s1 e2
  refine gw_put0 F (so_64 hst) (by decide) rfl sg_lay_RX12 (j := 0) (by decide) (by decide) e2 tyX12_ok nmX12 rfl (tyX12_ok 0 (by decide)) rfl (host := "") (.inl kw_947) dX12_place_2 ?_
  refine gw_aload_n F 0 rfl rfl (by decide) dX12_place_5 ?_
  refine gk_HV F (gc_V F (S := []) (As := []) (T := TX12) (N := 62) (CX12_lay hst hf) (so_64 hst) (by decide) rfl kw_1034 kw_103 kw_1032 kw_1033 kw_41 hcX12_lay ⟨by decide, by decide⟩ rfl rfl (Nat.le_of_ble_eq_true rfl) ⟨by decide, by decide⟩ dX12_place_6) (fun s3 hf => ?_)
  refine gw_iload_n F 1 rfl rfl dX12_place_9 ?_
  refine gw_iload_n F 2 rfl rfl dX12_place_10 ?_
  refine gk_PZ F (gc_S F (S := []) (As := [sg_i x1, sg_i x2]) (CX12_isBend r1 r2 hf) kw_1108 kw_103 kw_1106 kw_1107 hcX12_isBend ⟨by decide, by decide⟩ rfl rfl (Nat.le_of_ble_eq_true rfl) ⟨by decide, by decide⟩ dX12_place_11) (fun u4 h5 hf => ?_)
  refine gw_if_eq F (tgt := 22) dX12_place_14 (by decide) (sg_B_R h5) (fun c6 => ?_) (fun c6 => ?_)
  · have hf := hf.1 c6
    refine gw_iconst F dX12_place_22 ?_
    exact gr_HI F (by decide) hf (by decide) (by decide) dX12_place_23
  · have hf := hf.2 c6
    refine gw_iload_n F 3 rfl rfl dX12_place_17 ?_
    refine gw_iconst F dX12_place_18 ?_
    refine gw_icmp_ge F (tgt := 24) dX12_place_19 (by decide) r3 (by decide) (fun c7 => ?_) (fun c7 => ?_)
    · have hf := hf.1 c7
      refine gw_aload_n F 0 rfl rfl (by decide) dX12_place_24 ?_
      refine gw_iconst F dX12_place_25 ?_
      refine gw_iload_n F 1 rfl rfl dX12_place_26 ?_
      refine gw_iload_n F 2 rfl rfl dX12_place_27 ?_
      refine gw_iconst F dX12_place_28 ?_
      refine gw_iconst F dX12_place_29 ?_
      refine gk_HV F (gc_V F (S := []) (As := [sg_i 0, sg_i x1, sg_i x2, sg_i 0, sg_i 0]) (T := TX12) (N := 62) (CX12_layBend hst (by decide) r1 r2 (by decide) (by decide) hf) (so_64 hst) (by decide) rfl kw_1111 kw_103 kw_1109 kw_1110 kw_55 hcX12_layBend ⟨by decide, by decide⟩ rfl rfl (Nat.le_of_ble_eq_true rfl) ⟨by decide, by decide⟩ dX12_place_30) (fun s8 hf => ?_)
      refine gw_iload_n F 3 rfl rfl dX12_place_33 ?_
      refine gw_iconst F dX12_place_34 ?_
      refine gw_icmp_ne F (tgt := 45) dX12_place_35 (by decide) r3 (by decide) (fun c9 => ?_) (fun c9 => ?_)
      · have hf := hf.1 c9
        refine gw_iload_n F 3 rfl rfl dX12_place_45 ?_
        refine gw_aload_n F 0 rfl rfl (by decide) dX12_place_46 ?_
        refine gw_get0 F (so_64 hst) (by decide) rfl sg_lay_RX12 (j := 29) (by decide) rfl (host := "") (.inl kw_976) dX12_place_47 (fun h10 => ?_)
        refine gw_icmp_ge F (tgt := 62) dX12_place_50 (by decide) r3 h10 (fun c11 => ?_) (fun c11 => ?_)
        · have hf := hf.1 c11
          refine gw_iconst F dX12_place_62 ?_
          exact gr_HI F (by decide) hf (by decide) (by decide) dX12_place_63
        · have hf := hf.2 c11
          refine gw_aload_n F 0 rfl rfl (by decide) dX12_place_53 ?_
          refine gw_get7 F (so_64 hst) (by decide) rfl sg_lay_RX12 (j := 25) (by decide) (o1 := 75) (by first | rfl | omega) rfl (host := "") (.inl kw_972) dX12_place_54 (fun h12 => ?_)
          refine gw_iload_n F 3 rfl rfl dX12_place_57 ?_
          obtain ⟨⟨b130, b131⟩, hf⟩ := hf
          refine gw_iald F (sa_75 hst) b130 b131 dX12_place_58 (fun h14 => ?_)
          refine gw_goto F (tgt := 63) dX12_place_59 (by decide) ?_
          exact gr_HI F h14 hf (by decide) (by decide) dX12_place_63
      · have hf := hf.2 c9
        refine gw_aload_n F 0 rfl rfl (by decide) dX12_place_38 ?_
        refine gw_get0 F (so_64 hst) (by decide) rfl sg_lay_RX12 (j := 29) (by decide) rfl (host := "") (.inl kw_976) dX12_place_39 (fun h15 => ?_)
        refine gw_goto F (tgt := 63) dX12_place_42 (by decide) ?_
        exact gr_HI F h15 hf (by decide) (by decide) dX12_place_63
    · have hf := hf.2 c7
      refine gw_iconst F dX12_place_22 ?_
      exact gr_HI F (by decide) hf (by decide) (by decide) dX12_place_23

theorem dX12_forge_0 : decode cX12_forge 0 = .ok (.aload_n 0, 1) := by decide +kernel
theorem dX12_forge_1 : decode cX12_forge 1 = .ok (.iconst 0, 1) := by decide +kernel
theorem dX12_forge_2 : decode cX12_forge 2 = .ok (.putfield 84, 3) := by decide +kernel
theorem dX12_forge_5 : decode cX12_forge 5 = .ok (.aload_n 0, 1) := by decide +kernel
theorem dX12_forge_6 : decode cX12_forge 6 = .ok (.invokevirtual 175, 3) := by decide +kernel
theorem dX12_forge_9 : decode cX12_forge 9 = .ok (.iload_n 1, 1) := by decide +kernel
theorem dX12_forge_10 : decode cX12_forge 10 = .ok (.iconst 1, 1) := by decide +kernel
theorem dX12_forge_11 : decode cX12_forge 11 = .ok (.bipush 20, 2) := by decide +kernel
theorem dX12_forge_13 : decode cX12_forge 13 = .ok (.invokestatic 155, 3) := by decide +kernel
theorem dX12_forge_16 : decode cX12_forge 16 = .ok (.ifCond .eq 13, 3) := by decide +kernel
theorem dX12_forge_19 : decode cX12_forge 19 = .ok (.iload_n 2, 1) := by decide +kernel
theorem dX12_forge_20 : decode cX12_forge 20 = .ok (.iconst 1, 1) := by decide +kernel
theorem dX12_forge_21 : decode cX12_forge 21 = .ok (.bipush 20, 2) := by decide +kernel
theorem dX12_forge_23 : decode cX12_forge 23 = .ok (.invokestatic 155, 3) := by decide +kernel
theorem dX12_forge_26 : decode cX12_forge 26 = .ok (.ifCond .ne 5, 3) := by decide +kernel
theorem dX12_forge_29 : decode cX12_forge 29 = .ok (.iconst 0, 1) := by decide +kernel
theorem dX12_forge_30 : decode cX12_forge 30 = .ok (.ireturn, 1) := by decide +kernel
theorem dX12_forge_31 : decode cX12_forge 31 = .ok (.iconst 0, 1) := by decide +kernel
theorem dX12_forge_32 : decode cX12_forge 32 = .ok (.istore_n 3, 1) := by decide +kernel
theorem dX12_forge_33 : decode cX12_forge 33 = .ok (.iload_n 3, 1) := by decide +kernel
theorem dX12_forge_34 : decode cX12_forge 34 = .ok (.aload_n 0, 1) := by decide +kernel
theorem dX12_forge_35 : decode cX12_forge 35 = .ok (.invokevirtual 202, 3) := by decide +kernel
theorem dX12_forge_38 : decode cX12_forge 38 = .ok (.if_icmp .ge 36, 3) := by decide +kernel
theorem dX12_forge_41 : decode cX12_forge 41 = .ok (.aload_n 0, 1) := by decide +kernel
theorem dX12_forge_42 : decode cX12_forge 42 = .ok (.getfield 13, 3) := by decide +kernel
theorem dX12_forge_45 : decode cX12_forge 45 = .ok (.bipush 10, 2) := by decide +kernel
theorem dX12_forge_47 : decode cX12_forge 47 = .ok (.iconst 4, 1) := by decide +kernel
theorem dX12_forge_48 : decode cX12_forge 48 = .ok (.iload_n 3, 1) := by decide +kernel
theorem dX12_forge_49 : decode cX12_forge 49 = .ok (.imul, 1) := by decide +kernel
theorem dX12_forge_50 : decode cX12_forge 50 = .ok (.iadd, 1) := by decide +kernel
theorem dX12_forge_51 : decode cX12_forge 51 = .ok (.iconst 1, 1) := by decide +kernel
theorem dX12_forge_52 : decode cX12_forge 52 = .ok (.iadd, 1) := by decide +kernel
theorem dX12_forge_53 : decode cX12_forge 53 = .ok (.iload_n 1, 1) := by decide +kernel
theorem dX12_forge_54 : decode cX12_forge 54 = .ok (.iload_n 2, 1) := by decide +kernel
theorem dX12_forge_55 : decode cX12_forge 55 = .ok (.iload_n 1, 1) := by decide +kernel
theorem dX12_forge_56 : decode cX12_forge 56 = .ok (.isub, 1) := by decide +kernel
theorem dX12_forge_57 : decode cX12_forge 57 = .ok (.iload_n 3, 1) := by decide +kernel
theorem dX12_forge_58 : decode cX12_forge 58 = .ok (.imul, 1) := by decide +kernel
theorem dX12_forge_59 : decode cX12_forge 59 = .ok (.aload_n 0, 1) := by decide +kernel
theorem dX12_forge_60 : decode cX12_forge 60 = .ok (.invokevirtual 202, 3) := by decide +kernel
theorem dX12_forge_63 : decode cX12_forge 63 = .ok (.iconst 1, 1) := by decide +kernel
theorem dX12_forge_64 : decode cX12_forge 64 = .ok (.isub, 1) := by decide +kernel
theorem dX12_forge_65 : decode cX12_forge 65 = .ok (.idiv, 1) := by decide +kernel
theorem dX12_forge_66 : decode cX12_forge 66 = .ok (.iadd, 1) := by decide +kernel
theorem dX12_forge_67 : decode cX12_forge 67 = .ok (.iastore, 1) := by decide +kernel
theorem dX12_forge_68 : decode cX12_forge 68 = .ok (.iinc 3 1, 3) := by decide +kernel
theorem dX12_forge_71 : decode cX12_forge 71 = .ok (.goto (-38), 3) := by decide +kernel
theorem dX12_forge_74 : decode cX12_forge 74 = .ok (.iconst 1, 1) := by decide +kernel
theorem dX12_forge_75 : decode cX12_forge 75 = .ok (.ireturn, 1) := by decide +kernel
theorem hcX12_forge : yX12_forge.cls ≠ "java/lang/invoke/MethodHandle" ∧ yX12_forge.cls ≠ "java/lang/invoke/VarHandle" ∧ (parseMethodDescriptor yX12_forge.desc).map (fun d => d.parameters.length) = some 2 := ⟨by decide +kernel, by decide +kernel, by decide +kernel⟩
def fX12_forge_L33 (x1 : Int) (x2 : Int) (Q : Int → sg_M → Prop) : Nat → sg_M → Int → Prop
  | 0, _, _ => False
  | n_33 + 1, s_33, x3_33 => fX12_pieces s_33 (fun u10 => ((u10 ≤ x3_33 → Q 1 s_33) ∧ (¬ (u10 ≤ x3_33) → fX12_pieces s_33 (fun u14 => sg_R ((x2 - x1) * x3_33) ∧ sg_R (u14 - 1) ∧ ((u14 - 1) ≠ 0) ∧ (0 ≤ ((10 + (4 * x3_33)) + 1) ∧ ((10 + (4 * x3_33)) + 1) < 2040) ∧ sg_R (x1 + (Int.tdiv ((x2 - x1) * x3_33) (u14 - 1))) ∧ ∀ v21 : Int, v21 = (x1 + (Int.tdiv ((x2 - x1) * x3_33) (u14 - 1))) → ∀ s23 : sg_M, s23 = sg_up s_33 66 ((10 + (4 * x3_33)) + 1) v21 → sg_R (x3_33 + 1) ∧ (fX12_forge_L33 x1 x2 Q n_33) s23 (x3_33 + 1)))))
def fX12_forge (s0 : sg_M) (x1 : Int) (x2 : Int) (Q : Int → sg_M → Prop) : Prop := ∀ s1 : sg_M, s1 = sg_up s0 64 0 0 → fX12_lay s1 (fun s3 => fX12_isIn x1 1 20 (fun u4 => ((u4 = 0 → Q 0 s3) ∧ (¬ (u4 = 0) → fX12_isIn x2 1 20 (fun u7 => ((u7 ≠ 0 → (∃ n26 : Nat, fX12_forge_L33 x1 x2 Q n26 s3 0)) ∧ (u7 = 0 → Q 0 s3)))))))
set_option maxHeartbeats 4000000 in
set_option maxRecDepth 100000 in
theorem CX12_forge {l : Launch} {G : sg_G} {La : sg_L} {s0 : sg_M} (hst : sg_St La) {x1 : Int} (r1 : sg_R x1) {x2 : Int} (r2 : sg_R x2) {Q : Int → sg_M → Prop} (hf : fX12_forge s0 x1 x2 Q) : sg_C l G yX12_forge cX12_forge 4 (some .boolean) 2 0 0 La s0 [sg_r 64, sg_i x1, sg_i x2] (sg_HZ La Q) := by
  refine sg_body (by decide +kernel) (Nat.le_of_ble_eq_true rfl) ?_
  intro p e s m args below meth c F hnm
  unfold fX12_forge at hf
  show sg_W p l e (sg_rm 2 0 0) s m args below meth c (MQ below (sg_Q (some .boolean) G La s.heap.size (sg_HZ La Q)) args s 0 0 (sg_A La s.heap.size)) 4 G (sg_A La s.heap.size) La s0 0 0 0 [(0, sg_r 64), (1, sg_i x1), (2, sg_i x2)] []
  refine gw_aload_n F 0 rfl rfl (by decide) dX12_forge_0 ?_
  refine gw_iconst F dX12_forge_1 ?_
  obtain ⟨s1, e2⟩ : ∃ z : sg_M, z = sg_up s0 64 0 0 := ⟨_, rfl⟩
  have hf := hf s1 e2
  refine gw_put0 F (so_64 hst) (by decide) rfl sg_lay_RX12 (j := 0) (by decide) (by decide) e2 tyX12_ok nmX12 rfl (tyX12_ok 0 (by decide)) rfl (host := "") (.inl kw_947) dX12_forge_2 ?_
  refine gw_aload_n F 0 rfl rfl (by decide) dX12_forge_5 ?_
  refine gk_HV F (gc_V F (S := []) (As := []) (T := TX12) (N := 62) (CX12_lay hst hf) (so_64 hst) (by decide) rfl kw_1034 kw_103 kw_1032 kw_1033 kw_41 hcX12_lay ⟨by decide, by decide⟩ rfl rfl (Nat.le_of_ble_eq_true rfl) ⟨by decide, by decide⟩ dX12_forge_6) (fun s3 hf => ?_)
  refine gw_iload_n F 1 rfl rfl dX12_forge_9 ?_
  refine gw_iconst F dX12_forge_10 ?_
  refine gw_bipush F rfl dX12_forge_11 ?_
  refine gk_PZ F (gc_S F (S := []) (As := [sg_i x1, sg_i 1, sg_i 20]) (CX12_isIn r1 (by decide) (by decide) hf) kw_1075 kw_103 kw_1073 kw_1074 hcX12_isIn ⟨by decide, by decide⟩ rfl rfl (Nat.le_of_ble_eq_true rfl) ⟨by decide, by decide⟩ dX12_forge_13) (fun u4 h5 hf => ?_)
  refine gw_if_eq F (tgt := 29) dX12_forge_16 (by decide) (sg_B_R h5) (fun c6 => ?_) (fun c6 => ?_)
  · have hf := hf.1 c6
    refine gw_iconst F dX12_forge_29 ?_
    exact gr_HZ F (by decide) hf (by decide) (by decide) dX12_forge_30
  · have hf := hf.2 c6
    refine gw_iload_n F 2 rfl rfl dX12_forge_19 ?_
    refine gw_iconst F dX12_forge_20 ?_
    refine gw_bipush F rfl dX12_forge_21 ?_
    refine gk_PZ F (gc_S F (S := []) (As := [sg_i x2, sg_i 1, sg_i 20]) (CX12_isIn r2 (by decide) (by decide) hf) kw_1075 kw_103 kw_1073 kw_1074 hcX12_isIn ⟨by decide, by decide⟩ rfl rfl (Nat.le_of_ble_eq_true rfl) ⟨by decide, by decide⟩ dX12_forge_23) (fun u7 h8 hf => ?_)
    refine gw_if_ne F (tgt := 31) dX12_forge_26 (by decide) (sg_B_R h8) (fun c9 => ?_) (fun c9 => ?_)
    · have hf := hf.1 c9
      refine gw_iconst F dX12_forge_31 ?_
      refine gw_istore_n F rfl (by decide) rfl dX12_forge_32 ?_
      have L33 : ∀ n_33 : Nat, ∀ (s_33 : sg_M) (x3_33 : Int), sg_R x3_33 → fX12_forge_L33 x1 x2 Q n_33 s_33 x3_33 → sg_W p l e (sg_rm 2 0 0) s m args below meth c (MQ below (sg_Q (some .boolean) G La s.heap.size (sg_HZ La Q)) args s 0 0 (sg_A La s.heap.size)) 4 G (sg_A La s.heap.size) La s_33 0 0 33 [(0, sg_r 64), (1, sg_i x1), (2, sg_i x2), (3, sg_i x3_33)] [] := by
        intro n_33
        induction n_33 with
        | zero => intro s_33 x3_33 r3_33 hf; exact hf.elim
        | succ n_33 ih =>
          intro s_33 x3_33 r3_33 hf
          unfold fX12_forge_L33 at hf
          refine gw_iload_n F 3 rfl rfl dX12_forge_33 ?_
          refine gw_aload_n F 0 rfl rfl (by decide) dX12_forge_34 ?_
          refine gk_PI F (gc_V F (S := [sg_i x3_33]) (As := []) (T := TX12) (N := 62) (CX12_pieces hst hf) (so_64 hst) (by decide) rfl kw_1095 kw_103 kw_1093 kw_1094 kw_52 hcX12_pieces ⟨by decide, by decide⟩ rfl rfl (Nat.le_of_ble_eq_true rfl) ⟨by decide, by decide⟩ dX12_forge_35) (fun u10 h11 hf => ?_)
          refine gw_icmp_ge F (tgt := 74) dX12_forge_38 (by decide) r3_33 h11 (fun c12 => ?_) (fun c12 => ?_)
          · have hf := hf.1 c12
            refine gw_iconst F dX12_forge_74 ?_
            exact gr_HZ F (by decide) hf (by decide) (by decide) dX12_forge_75
          · have hf := hf.2 c12
            refine gw_aload_n F 0 rfl rfl (by decide) dX12_forge_41 ?_
            refine gw_get7 F (so_64 hst) (by decide) rfl sg_lay_RX12 (j := 14) (by decide) (o1 := 66) (by first | rfl | omega) rfl (host := "") (.inl kw_961) dX12_forge_42 (fun h13 => ?_)
            refine gw_bipush F rfl dX12_forge_45 ?_
            refine gw_iconst F dX12_forge_47 ?_
            refine gw_iload_n F 3 rfl rfl dX12_forge_48 ?_
            refine gw_imul F rfl dX12_forge_49 ?_
            refine gw_iadd F rfl dX12_forge_50 ?_
            refine gw_iconst F dX12_forge_51 ?_
            refine gw_iadd F rfl dX12_forge_52 ?_
            refine gw_iload_n F 1 rfl rfl dX12_forge_53 ?_
            refine gw_iload_n F 2 rfl rfl dX12_forge_54 ?_
            refine gw_iload_n F 1 rfl rfl dX12_forge_55 ?_
            refine gw_isub F rfl dX12_forge_56 ?_
            refine gw_iload_n F 3 rfl rfl dX12_forge_57 ?_
            refine gw_imul F rfl dX12_forge_58 ?_
            refine gw_aload_n F 0 rfl rfl (by decide) dX12_forge_59 ?_
            refine gk_PI F (gc_V F (S := [sg_i ((x2 - x1) * x3_33), sg_i x1, sg_i ((10 + (4 * x3_33)) + 1), sg_r 66]) (As := []) (T := TX12) (N := 62) (CX12_pieces hst hf) (so_64 hst) (by decide) rfl kw_1095 kw_103 kw_1093 kw_1094 kw_52 hcX12_pieces ⟨by decide, by decide⟩ rfl rfl (Nat.le_of_ble_eq_true rfl) ⟨by decide, by decide⟩ dX12_forge_60) (fun u14 h15 hf => ?_)
            refine gw_iconst F dX12_forge_63 ?_
            refine gw_isub F rfl dX12_forge_64 ?_
            obtain ⟨g16, hf⟩ := hf
            obtain ⟨g17, hf⟩ := hf
            obtain ⟨g18, hf⟩ := hf
            refine gw_idiv F g16 g17 g18 rfl dX12_forge_65 ?_
            refine gw_iadd F rfl dX12_forge_66 ?_
            obtain ⟨⟨b190, b191⟩, hf⟩ := hf
            obtain ⟨g20, hf⟩ := hf
            obtain ⟨v21, e22⟩ : ∃ z : Int, z = (x1 + (Int.tdiv ((x2 - x1) * x3_33) (u14 - 1))) := ⟨_, rfl⟩
            have hf := hf v21 e22
            refine gw_nmI e22 ?_
            obtain ⟨s23, e24⟩ : ∃ z : sg_M, z = sg_up s_33 66 ((10 + (4 * x3_33)) + 1) v21 := ⟨_, rfl⟩
            have hf := hf s23 e24
            refine gw_iast F (sa_66 hst) b190 b191 (e22 ▸ g20) e24 dX12_forge_67 ?_
            refine gw_iinc F (z := (x3_33 + 1)) 3 rfl (by omega) (by decide) rfl dX12_forge_68 ?_
            refine gw_goto F (tgt := 33) dX12_forge_71 (by decide) ?_
            obtain ⟨g25, hf⟩ := hf
            refine gw_sub [1, 2, 3, 0] rfl ?_
            exact ih s23 (x3_33 + 1) g25 hf
      obtain ⟨n26, hf⟩ := hf
      refine gw_sub [1, 2, 3, 0] rfl ?_
      refine L33   n26 s3 0 (by decide) hf
    · have hf := hf.2 c9
      refine gw_iconst F dX12_forge_29 ?_
      exact gr_HZ F (by decide) hf (by decide) (by decide) dX12_forge_30
