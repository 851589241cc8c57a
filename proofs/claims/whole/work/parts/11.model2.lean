theorem dX12_isSign_0 : decode cX12_isSign 0 = .ok (.aload_n 0, 1) := by decide +kernel
theorem dX12_isSign_1 : decode cX12_isSign 1 = .ok (.getfield 106, 3) := by decide +kernel
theorem dX12_isSign_4 : decode cX12_isSign 4 = .ok (.iconst 4, 1) := by decide +kernel
theorem dX12_isSign_5 : decode cX12_isSign 5 = .ok (.if_icmp .ne 15, 3) := by decide +kernel
theorem dX12_isSign_8 : decode cX12_isSign 8 = .ok (.aload_n 0, 1) := by decide +kernel
theorem dX12_isSign_9 : decode cX12_isSign 9 = .ok (.getfield 116, 3) := by decide +kernel
theorem dX12_isSign_12 : decode cX12_isSign 12 = .ok (.iload_n 1, 1) := by decide +kernel
theorem dX12_isSign_13 : decode cX12_isSign 13 = .ok (.if_icmp .ne 7, 3) := by decide +kernel
theorem dX12_isSign_16 : decode cX12_isSign 16 = .ok (.iconst 1, 1) := by decide +kernel
theorem dX12_isSign_17 : decode cX12_isSign 17 = .ok (.goto 4, 3) := by decide +kernel
theorem dX12_isSign_20 : decode cX12_isSign 20 = .ok (.iconst 0, 1) := by decide +kernel
theorem dX12_isSign_21 : decode cX12_isSign 21 = .ok (.ireturn, 1) := by decide +kernel
theorem hcX12_isSign : yX12_isSign.cls ≠ "java/lang/invoke/MethodHandle" ∧ yX12_isSign.cls ≠ "java/lang/invoke/VarHandle" ∧ (parseMethodDescriptor yX12_isSign.desc).map (fun d => d.parameters.length) = some 1 := ⟨by decide +kernel, by decide +kernel, by decide +kernel⟩
def fX12_isSign (s0 : sg_M) (x1 : Int) (Q : Int → Prop) : Prop := (((s0 64 7) ≠ 4 → Q 0) ∧ ((s0 64 7) = 4 → (((s0 64 9) ≠ x1 → Q 0) ∧ ((s0 64 9) = x1 → Q 1))))
set_option maxHeartbeats 4000000 in
set_option maxRecDepth 100000 in
theorem CX12_isSign {l : Launch} {G : sg_G} {La : sg_L} {s0 : sg_M} (hst : sg_St La) {x1 : Int} (r1 : sg_R x1) {Q : Int → Prop} (hf : fX12_isSign s0 x1 Q) : sg_C l G yX12_isSign cX12_isSign 2 (some .boolean) 1 0 0 La s0 [sg_r 64, sg_i x1] (sg_PZ La s0 Q) := by
  refine sg_body (by decide +kernel) (Nat.le_of_ble_eq_true rfl) ?_
  intro p e s m args below meth c F hnm
  unfold fX12_isSign at hf
  show sg_W p l e (sg_rm 1 0 0) s m args below meth c (MQ below (sg_Q (some .boolean) G La s.heap.size (sg_PZ La s0 Q)) args s 0 0 (sg_A La s.heap.size)) 2 G (sg_A La s.heap.size) La s0 0 0 0 [(0, sg_r 64), (1, sg_i x1)] []
  refine gw_aload_n F 0 rfl rfl (by decide) dX12_isSign_0 ?_
  refine gw_get0 F (so_64 hst) (by decide) rfl sg_lay_RX12 (j := 7) (by decide) rfl (host := "") (.inl kw_963) dX12_isSign_1 (fun h1 => ?_)
  refine gw_iconst F dX12_isSign_4 ?_
  refine gw_icmp_ne F (tgt := 20) dX12_isSign_5 (by decide) h1 (by decide) (fun c2 => ?_) (fun c2 => ?_)
  · have hf := hf.1 c2
    refine gw_iconst F dX12_isSign_20 ?_
    exact gr_PZ F (by decide) hf (by decide) (by decide) dX12_isSign_21
  · have hf := hf.2 c2
    refine gw_aload_n F 0 rfl rfl (by decide) dX12_isSign_8 ?_
    refine gw_get0 F (so_64 hst) (by decide) rfl sg_lay_RX12 (j := 9) (by decide) rfl (host := "") (.inl kw_965) dX12_isSign_9 (fun h3 => ?_)
    refine gw_iload_n F 1 rfl rfl dX12_isSign_12 ?_
    refine gw_icmp_ne F (tgt := 20) dX12_isSign_13 (by decide) h3 r1 (fun c4 => ?_) (fun c4 => ?_)
    · have hf := hf.1 c4
      refine gw_iconst F dX12_isSign_20 ?_
      exact gr_PZ F (by decide) hf (by decide) (by decide) dX12_isSign_21
    · have hf := hf.2 c4
      refine gw_iconst F dX12_isSign_16 ?_
      refine gw_goto F (tgt := 21) dX12_isSign_17 (by decide) ?_
      exact gr_PZ F (by decide) hf (by decide) (by decide) dX12_isSign_21

theorem dX12_readEnd_0 : decode cX12_readEnd 0 = .ok (.aload_n 0, 1) := by decide +kernel
theorem dX12_readEnd_1 : decode cX12_readEnd 1 = .ok (.bipush 59, 2) := by decide +kernel
theorem dX12_readEnd_3 : decode cX12_readEnd 3 = .ok (.invokevirtual 165, 3) := by decide +kernel
theorem dX12_readEnd_6 : decode cX12_readEnd 6 = .ok (.ifCond .ne 9, 3) := by decide +kernel
theorem dX12_readEnd_9 : decode cX12_readEnd 9 = .ok (.aload_n 0, 1) := by decide +kernel
theorem dX12_readEnd_10 : decode cX12_readEnd 10 = .ok (.iconst 1, 1) := by decide +kernel
theorem dX12_readEnd_11 : decode cX12_readEnd 11 = .ok (.invokevirtual 152, 3) := by decide +kernel
theorem dX12_readEnd_14 : decode cX12_readEnd 14 = .ok (.ireturn, 1) := by decide +kernel
theorem dX12_readEnd_15 : decode cX12_readEnd 15 = .ok (.aload_n 0, 1) := by decide +kernel
theorem dX12_readEnd_16 : decode cX12_readEnd 16 = .ok (.invokevirtual 162, 3) := by decide +kernel
theorem dX12_readEnd_19 : decode cX12_readEnd 19 = .ok (.iconst 1, 1) := by decide +kernel
theorem dX12_readEnd_20 : decode cX12_readEnd 20 = .ok (.ireturn, 1) := by decide +kernel
theorem hcX12_readEnd : yX12_readEnd.cls ≠ "java/lang/invoke/MethodHandle" ∧ yX12_readEnd.cls ≠ "java/lang/invoke/VarHandle" ∧ (parseMethodDescriptor yX12_readEnd.desc).map (fun d => d.parameters.length) = some 0 := ⟨by decide +kernel, by decide +kernel, by decide +kernel⟩
def fX12_readEnd (s0 : sg_M) (Q : Int → sg_M → Prop) : Prop := fX12_isSign s0 59 (fun u1 => ((u1 ≠ 0 → fX12_go s0 (fun s4 => Q 1 s4)) ∧ (u1 = 0 → fX12_bad s0 1 (fun u5 s7 => Q u5 s7))))
set_option maxHeartbeats 4000000 in
set_option maxRecDepth 100000 in
theorem CX12_readEnd {l : Launch} {G : sg_G} {La : sg_L} {s0 : sg_M} (hst : sg_St La) {Q : Int → sg_M → Prop} (hf : fX12_readEnd s0 Q) : sg_C l G yX12_readEnd cX12_readEnd 1 (some .boolean) 3 0 0 La s0 [sg_r 64] (sg_HZ La Q) := by
  refine sg_body (by decide +kernel) (Nat.le_of_ble_eq_true rfl) ?_
  intro p e s m args below meth c F hnm
  unfold fX12_readEnd at hf
  show sg_W p l e (sg_rm 3 0 0) s m args below meth c (MQ below (sg_Q (some .boolean) G La s.heap.size (sg_HZ La Q)) args s 0 0 (sg_A La s.heap.size)) 1 G (sg_A La s.heap.size) La s0 0 0 0 [(0, sg_r 64)] []
  refine gw_aload_n F 0 rfl rfl (by decide) dX12_readEnd_0 ?_
  refine gw_bipush F rfl dX12_readEnd_1 ?_
  refine gk_PZ F (gc_V F (S := []) (As := [sg_i 59]) (T := TX12) (N := 62) (CX12_isSign hst (by decide) hf) (so_64 hst) (by decide) rfl kw_1090 kw_103 kw_1088 kw_1089 kw_50 hcX12_isSign ⟨by decide, by decide⟩ rfl rfl (Nat.le_of_ble_eq_true rfl) ⟨by decide, by decide⟩ dX12_readEnd_3) (fun u1 h2 hf => ?_)
  refine gw_if_ne F (tgt := 15) dX12_readEnd_6 (by decide) (sg_B_R h2) (fun c3 => ?_) (fun c3 => ?_)
  · have hf := hf.1 c3
    refine gw_aload_n F 0 rfl rfl (by decide) dX12_readEnd_15 ?_
    refine gk_HV F (gc_V F (S := []) (As := []) (T := TX12) (N := 62) (CX12_go hst hf) (so_64 hst) (by decide) rfl kw_1049 kw_103 kw_1047 kw_1048 kw_43 hcX12_go ⟨by decide, by decide⟩ rfl rfl (Nat.le_of_ble_eq_true rfl) ⟨by decide, by decide⟩ dX12_readEnd_16) (fun s4 hf => ?_)
    refine gw_iconst F dX12_readEnd_19 ?_
    exact gr_HZ F (by decide) hf (by decide) (by decide) dX12_readEnd_20
  · have hf := hf.2 c3
    refine gw_aload_n F 0 rfl rfl (by decide) dX12_readEnd_9 ?_
    refine gw_iconst F dX12_readEnd_10 ?_
    refine gk_HZ F (gc_V F (S := []) (As := [sg_i 1]) (T := TX12) (N := 62) (CX12_bad hst (by decide) hf) (so_64 hst) (by decide) rfl kw_1078 kw_103 kw_1076 kw_1077 kw_47 hcX12_bad ⟨by decide, by decide⟩ rfl rfl (Nat.le_of_ble_eq_true rfl) ⟨by decide, by decide⟩ dX12_readEnd_11) (fun u5 s7 h6 hf => ?_)
    exact gr_HZ F h6 hf (by decide) (by decide) dX12_readEnd_14

theorem dX12_restore_0 : decode cX12_restore 0 = .ok (.aload_n 0, 1) := by decide +kernel
theorem dX12_restore_1 : decode cX12_restore 1 = .ok (.iconst 0, 1) := by decide +kernel
theorem dX12_restore_2 : decode cX12_restore 2 = .ok (.putfield 84, 3) := by decide +kernel
theorem dX12_restore_5 : decode cX12_restore 5 = .ok (.aload_n 0, 1) := by decide +kernel
theorem dX12_restore_6 : decode cX12_restore 6 = .ok (.invokevirtual 175, 3) := by decide +kernel
theorem dX12_restore_9 : decode cX12_restore 9 = .ok (.iload_n 1, 1) := by decide +kernel
theorem dX12_restore_10 : decode cX12_restore 10 = .ok (.iconst 0, 1) := by decide +kernel
theorem dX12_restore_11 : decode cX12_restore 11 = .ok (.iconst 1, 1) := by decide +kernel
theorem dX12_restore_12 : decode cX12_restore 12 = .ok (.invokestatic 155, 3) := by decide +kernel
theorem dX12_restore_15 : decode cX12_restore 15 = .ok (.ifCond .eq 12, 3) := by decide +kernel
theorem dX12_restore_18 : decode cX12_restore 18 = .ok (.aload_n 0, 1) := by decide +kernel
theorem dX12_restore_19 : decode cX12_restore 19 = .ok (.getfield 28, 3) := by decide +kernel
theorem dX12_restore_22 : decode cX12_restore 22 = .ok (.iload_n 1, 1) := by decide +kernel
theorem dX12_restore_23 : decode cX12_restore 23 = .ok (.baload, 1) := by decide +kernel
theorem dX12_restore_24 : decode cX12_restore 24 = .ok (.ifCond .ne 5, 3) := by decide +kernel
theorem dX12_restore_27 : decode cX12_restore 27 = .ok (.iconst 0, 1) := by decide +kernel
theorem dX12_restore_28 : decode cX12_restore 28 = .ok (.ireturn, 1) := by decide +kernel
theorem dX12_restore_29 : decode cX12_restore 29 = .ok (.iconst 0, 1) := by decide +kernel
theorem dX12_restore_30 : decode cX12_restore 30 = .ok (.istore_n 2, 1) := by decide +kernel
theorem dX12_restore_31 : decode cX12_restore 31 = .ok (.iload_n 2, 1) := by decide +kernel
theorem dX12_restore_32 : decode cX12_restore 32 = .ok (.sipush 2040, 3) := by decide +kernel
theorem dX12_restore_35 : decode cX12_restore 35 = .ok (.if_icmp .ge 27, 3) := by decide +kernel
theorem dX12_restore_38 : decode cX12_restore 38 = .ok (.aload_n 0, 1) := by decide +kernel
theorem dX12_restore_39 : decode cX12_restore 39 = .ok (.getfield 13, 3) := by decide +kernel
theorem dX12_restore_42 : decode cX12_restore 42 = .ok (.iload_n 2, 1) := by decide +kernel
theorem dX12_restore_43 : decode cX12_restore 43 = .ok (.aload_n 0, 1) := by decide +kernel
theorem dX12_restore_44 : decode cX12_restore 44 = .ok (.getfield 19, 3) := by decide +kernel
theorem dX12_restore_47 : decode cX12_restore 47 = .ok (.sipush 2040, 3) := by decide +kernel
theorem dX12_restore_50 : decode cX12_restore 50 = .ok (.iload_n 1, 1) := by decide +kernel
theorem dX12_restore_51 : decode cX12_restore 51 = .ok (.imul, 1) := by decide +kernel
theorem dX12_restore_52 : decode cX12_restore 52 = .ok (.iload_n 2, 1) := by decide +kernel
theorem dX12_restore_53 : decode cX12_restore 53 = .ok (.iadd, 1) := by decide +kernel
theorem dX12_restore_54 : decode cX12_restore 54 = .ok (.iaload, 1) := by decide +kernel
theorem dX12_restore_55 : decode cX12_restore 55 = .ok (.iastore, 1) := by decide +kernel
theorem dX12_restore_56 : decode cX12_restore 56 = .ok (.iinc 2 1, 3) := by decide +kernel
theorem dX12_restore_59 : decode cX12_restore 59 = .ok (.goto (-28), 3) := by decide +kernel
theorem dX12_restore_62 : decode cX12_restore 62 = .ok (.iconst 1, 1) := by decide +kernel
theorem dX12_restore_63 : decode cX12_restore 63 = .ok (.ireturn, 1) := by decide +kernel
theorem hcX12_restore : yX12_restore.cls ≠ "java/lang/invoke/MethodHandle" ∧ yX12_restore.cls ≠ "java/lang/invoke/VarHandle" ∧ (parseMethodDescriptor yX12_restore.desc).map (fun d => d.parameters.length) = some 1 := ⟨by decide +kernel, by decide +kernel, by decide +kernel⟩
def fX12_restore_L31 (x1 : Int) (Q : Int → sg_M → Prop) : Nat → sg_M → Int → Prop
  | 0, _, _ => False
  | n_31 + 1, s_31, x2_31 => ((2040 ≤ x2_31 → Q 1 s_31) ∧ (¬ (2040 ≤ x2_31) → (0 ≤ ((2040 * x1) + x2_31) ∧ ((2040 * x1) + x2_31) < 4080) ∧ (0 ≤ x2_31 ∧ x2_31 < 2040) ∧ ∀ v17 : Int, v17 = (s_31 68 ((2040 * x1) + x2_31)) → ∀ s19 : sg_M, s19 = sg_up s_31 66 x2_31 v17 → sg_R (x2_31 + 1) ∧ (fX12_restore_L31 x1 Q n_31) s19 (x2_31 + 1)))
def fX12_restore (s0 : sg_M) (x1 : Int) (Q : Int → sg_M → Prop) : Prop := ∀ s1 : sg_M, s1 = sg_up s0 64 0 0 → fX12_lay s1 (fun s3 => fX12_isIn x1 0 1 (fun u4 => ((u4 = 0 → Q 0 s3) ∧ (¬ (u4 = 0) → (0 ≤ x1 ∧ x1 < 2) ∧ (((s3 71 x1) ≠ 0 → (∃ n22 : Nat, fX12_restore_L31 x1 Q n22 s3 0)) ∧ ((s3 71 x1) = 0 → Q 0 s3))))))
set_option maxHeartbeats 4000000 in
set_option maxRecDepth 100000 in
theorem CX12_restore {l : Launch} {G : sg_G} {La : sg_L} {s0 : sg_M} (hst : sg_St La) {x1 : Int} (r1 : sg_R x1) {Q : Int → sg_M → Prop} (hf : fX12_restore s0 x1 Q) : sg_C l G yX12_restore cX12_restore 3 (some .boolean) 2 0 0 La s0 [sg_r 64, sg_i x1] (sg_HZ La Q) := by
  refine sg_body (by decide +kernel) (Nat.le_of_ble_eq_true rfl) ?_
  intro p e s m args below meth c F hnm
  unfold fX12_restore at hf
  show sg_W p l e (sg_rm 2 0 0) s m args below meth c (MQ below (sg_Q (some .boolean) G La s.heap.size (sg_HZ La Q)) args s 0 0 (sg_A La s.heap.size)) 3 G (sg_A La s.heap.size) La s0 0 0 0 [(0, sg_r 64), (1, sg_i x1)] []
  refine gw_aload_n F 0 rfl rfl (by decide) dX12_restore_0 ?_
  refine gw_iconst F dX12_restore_1 ?_
  obtain ⟨s1, e2⟩ : ∃ z : sg_M, z = sg_up s0 64 0 0 := ⟨_, rfl⟩
  have hf := hf s1 e2
  refine gw_put0 F (so_64 hst) (by decide) rfl sg_lay_RX12 (j := 0) (by decide) (by decide) e2 tyX12_ok nmX12 rfl (tyX12_ok 0 (by decide)) rfl (host := "") (.inl kw_956) dX12_restore_2 ?_
  refine gw_aload_n F 0 rfl rfl (by decide) dX12_restore_5 ?_
  refine gk_HV F (gc_V F (S := []) (As := []) (T := TX12) (N := 62) (CX12_lay hst hf) (so_64 hst) (by decide) rfl kw_1043 kw_103 kw_1041 kw_1042 kw_41 hcX12_lay ⟨by decide, by decide⟩ rfl rfl (Nat.le_of_ble_eq_true rfl) ⟨by decide, by decide⟩ dX12_restore_6) (fun s3 hf => ?_)
  refine gw_iload_n F 1 rfl rfl dX12_restore_9 ?_
  refine gw_iconst F dX12_restore_10 ?_
  refine gw_iconst F dX12_restore_11 ?_
  refine gk_PZ F (gc_S F (S := []) (As := [sg_i x1, sg_i 0, sg_i 1]) (CX12_isIn r1 (by decide) (by decide) hf) kw_1084 kw_103 kw_1082 kw_1083 hcX12_isIn ⟨by decide, by decide⟩ rfl rfl (Nat.le_of_ble_eq_true rfl) ⟨by decide, by decide⟩ dX12_restore_12) (fun u4 h5 hf => ?_)
  refine gw_if_eq F (tgt := 27) dX12_restore_15 (by decide) (sg_B_R h5) (fun c6 => ?_) (fun c6 => ?_)
  · have hf := hf.1 c6
    refine gw_iconst F dX12_restore_27 ?_
    exact gr_HZ F (by decide) hf (by decide) (by decide) dX12_restore_28
  · have hf := hf.2 c6
    refine gw_aload_n F 0 rfl rfl (by decide) dX12_restore_18 ?_
    refine gw_get7 F (so_64 hst) (by decide) rfl sg_lay_RX12 (j := 19) (by decide) (o1 := 71) (by first | rfl | omega) rfl (host := "") (.inl kw_975) dX12_restore_19 (fun h7 => ?_)
    refine gw_iload_n F 1 rfl rfl dX12_restore_22 ?_
    obtain ⟨⟨b80, b81⟩, hf⟩ := hf
    refine gw_zald F (n := 2) (so_71 hst) (by decide) (by decide) (by decide) b80 b81 dX12_restore_23 (fun h9 => ?_)
    refine gw_if_ne F (tgt := 29) dX12_restore_24 (by decide) (sg_B_R h9) (fun c10 => ?_) (fun c10 => ?_)
    · have hf := hf.1 c10
      refine gw_iconst F dX12_restore_29 ?_
      refine gw_istore_n F rfl (by decide) rfl dX12_restore_30 ?_
      have L31 : ∀ n_31 : Nat, ∀ (s_31 : sg_M) (x2_31 : Int), sg_R x2_31 → fX12_restore_L31 x1 Q n_31 s_31 x2_31 → sg_W p l e (sg_rm 2 0 0) s m args below meth c (MQ below (sg_Q (some .boolean) G La s.heap.size (sg_HZ La Q)) args s 0 0 (sg_A La s.heap.size)) 3 G (sg_A La s.heap.size) La s_31 0 0 31 [(0, sg_r 64), (1, sg_i x1), (2, sg_i x2_31)] [] := by
        intro n_31
        induction n_31 with
        | zero => intro s_31 x2_31 r2_31 hf; exact hf.elim
        | succ n_31 ih =>
          intro s_31 x2_31 r2_31 hf
          unfold fX12_restore_L31 at hf
          refine gw_iload_n F 2 rfl rfl dX12_restore_31 ?_
          refine gw_sipush F rfl dX12_restore_32 ?_
          refine gw_icmp_ge F (tgt := 62) dX12_restore_35 (by decide) r2_31 (by decide) (fun c11 => ?_) (fun c11 => ?_)
          · have hf := hf.1 c11
            refine gw_iconst F dX12_restore_62 ?_
            exact gr_HZ F (by decide) hf (by decide) (by decide) dX12_restore_63
          · have hf := hf.2 c11
            refine gw_aload_n F 0 rfl rfl (by decide) dX12_restore_38 ?_
            refine gw_get7 F (so_64 hst) (by decide) rfl sg_lay_RX12 (j := 14) (by decide) (o1 := 66) (by first | rfl | omega) rfl (host := "") (.inl kw_970) dX12_restore_39 (fun h12 => ?_)
            refine gw_iload_n F 2 rfl rfl dX12_restore_42 ?_
            refine gw_aload_n F 0 rfl rfl (by decide) dX12_restore_43 ?_
            refine gw_get7 F (so_64 hst) (by decide) rfl sg_lay_RX12 (j := 16) (by decide) (o1 := 68) (by first | rfl | omega) rfl (host := "") (.inl kw_972) dX12_restore_44 (fun h13 => ?_)
            refine gw_sipush F rfl dX12_restore_47 ?_
            refine gw_iload_n F 1 rfl rfl dX12_restore_50 ?_
            refine gw_imul F rfl dX12_restore_51 ?_
            refine gw_iload_n F 2 rfl rfl dX12_restore_52 ?_
            refine gw_iadd F rfl dX12_restore_53 ?_
            obtain ⟨⟨b140, b141⟩, hf⟩ := hf
            refine gw_iald F (sa_68 hst) b140 b141 dX12_restore_54 (fun h15 => ?_)
            obtain ⟨⟨b160, b161⟩, hf⟩ := hf
            obtain ⟨v17, e18⟩ : ∃ z : Int, z = (s_31 68 ((2040 * x1) + x2_31)) := ⟨_, rfl⟩
            have hf := hf v17 e18
            refine gw_nmI e18 ?_
            obtain ⟨s19, e20⟩ : ∃ z : sg_M, z = sg_up s_31 66 x2_31 v17 := ⟨_, rfl⟩
            have hf := hf s19 e20
            refine gw_iast F (sa_66 hst) b160 b161 (e18 ▸ h15) e20 dX12_restore_55 ?_
            refine gw_iinc F (z := (x2_31 + 1)) 2 rfl (by omega) (by decide) rfl dX12_restore_56 ?_
            refine gw_goto F (tgt := 31) dX12_restore_59 (by decide) ?_
            obtain ⟨g21, hf⟩ := hf
            refine gw_sub [1, 2, 0] rfl ?_
            exact ih s19 (x2_31 + 1) g21 hf
      obtain ⟨n22, hf⟩ := hf
      refine gw_sub [1, 2, 0] rfl ?_
      refine L31   n22 s3 0 (by decide) hf
    · have hf := hf.2 c10
      refine gw_iconst F dX12_restore_27 ?_
      exact gr_HZ F (by decide) hf (by decide) (by decide) dX12_restore_28

theorem dX12_rangeBy_0 : decode cX12_rangeBy 0 = .ok (.iconst 0, 1) := by decide +kernel
theorem dX12_rangeBy_1 : decode cX12_rangeBy 1 = .ok (.istore_n 3, 1) := by decide +kernel
theorem dX12_rangeBy_2 : decode cX12_rangeBy 2 = .ok (.iconst (-1), 1) := by decide +kernel
theorem dX12_rangeBy_3 : decode cX12_rangeBy 3 = .ok (.istore 4, 2) := by decide +kernel
theorem dX12_rangeBy_5 : decode cX12_rangeBy 5 = .ok (.iconst 0, 1) := by decide +kernel
theorem dX12_rangeBy_6 : decode cX12_rangeBy 6 = .ok (.istore 5, 2) := by decide +kernel
theorem dX12_rangeBy_8 : decode cX12_rangeBy 8 = .ok (.iload 5, 2) := by decide +kernel
theorem dX12_rangeBy_10 : decode cX12_rangeBy 10 = .ok (.aload_n 0, 1) := by decide +kernel
theorem dX12_rangeBy_11 : decode cX12_rangeBy 11 = .ok (.invokevirtual 320, 3) := by decide +kernel
theorem dX12_rangeBy_14 : decode cX12_rangeBy 14 = .ok (.if_icmp .ge 75, 3) := by decide +kernel
theorem dX12_rangeBy_17 : decode cX12_rangeBy 17 = .ok (.aload_n 0, 1) := by decide +kernel
theorem dX12_rangeBy_18 : decode cX12_rangeBy 18 = .ok (.iconst 0, 1) := by decide +kernel
theorem dX12_rangeBy_19 : decode cX12_rangeBy 19 = .ok (.aload_n 0, 1) := by decide +kernel
theorem dX12_rangeBy_20 : decode cX12_rangeBy 20 = .ok (.iload 5, 2) := by decide +kernel
theorem dX12_rangeBy_22 : decode cX12_rangeBy 22 = .ok (.invokevirtual 326, 3) := by decide +kernel
theorem dX12_rangeBy_25 : decode cX12_rangeBy 25 = .ok (.aload_n 0, 1) := by decide +kernel
theorem dX12_rangeBy_26 : decode cX12_rangeBy 26 = .ok (.iload 5, 2) := by decide +kernel
theorem dX12_rangeBy_28 : decode cX12_rangeBy 28 = .ok (.invokevirtual 329, 3) := by decide +kernel
theorem dX12_rangeBy_31 : decode cX12_rangeBy 31 = .ok (.iload_n 1, 1) := by decide +kernel
theorem dX12_rangeBy_32 : decode cX12_rangeBy 32 = .ok (.iload_n 2, 1) := by decide +kernel
theorem dX12_rangeBy_33 : decode cX12_rangeBy 33 = .ok (.invokevirtual 285, 3) := by decide +kernel
theorem dX12_rangeBy_36 : decode cX12_rangeBy 36 = .ok (.istore 6, 2) := by decide +kernel
theorem dX12_rangeBy_38 : decode cX12_rangeBy 38 = .ok (.aload_n 0, 1) := by decide +kernel
theorem dX12_rangeBy_39 : decode cX12_rangeBy 39 = .ok (.getfield 218, 3) := by decide +kernel
theorem dX12_rangeBy_42 : decode cX12_rangeBy 42 = .ok (.iconst (-1), 1) := by decide +kernel
theorem dX12_rangeBy_43 : decode cX12_rangeBy 43 = .ok (.if_icmp .eq 6, 3) := by decide +kernel
theorem dX12_rangeBy_46 : decode cX12_rangeBy 46 = .ok (.bipush (-2), 2) := by decide +kernel
theorem dX12_rangeBy_48 : decode cX12_rangeBy 48 = .ok (.ireturn, 1) := by decide +kernel
theorem dX12_rangeBy_49 : decode cX12_rangeBy 49 = .ok (.iload 6, 2) := by decide +kernel
theorem dX12_rangeBy_51 : decode cX12_rangeBy 51 = .ok (.ifCond .ne 6, 3) := by decide +kernel
theorem dX12_rangeBy_54 : decode cX12_rangeBy 54 = .ok (.goto 29, 3) := by decide +kernel
theorem dX12_rangeBy_57 : decode cX12_rangeBy 57 = .ok (.iload 4, 2) := by decide +kernel
theorem dX12_rangeBy_59 : decode cX12_rangeBy 59 = .ok (.iconst (-1), 1) := by decide +kernel
theorem dX12_rangeBy_60 : decode cX12_rangeBy 60 = .ok (.if_icmp .eq 9, 3) := by decide +kernel
theorem dX12_rangeBy_63 : decode cX12_rangeBy 63 = .ok (.iload 6, 2) := by decide +kernel
theorem dX12_rangeBy_65 : decode cX12_rangeBy 65 = .ok (.iload_n 3, 1) := by decide +kernel
theorem dX12_rangeBy_66 : decode cX12_rangeBy 66 = .ok (.if_icmp .ge 6, 3) := by decide +kernel
theorem dX12_rangeBy_69 : decode cX12_rangeBy 69 = .ok (.iload 6, 2) := by decide +kernel
theorem dX12_rangeBy_71 : decode cX12_rangeBy 71 = .ok (.istore_n 3, 1) := by decide +kernel
theorem dX12_rangeBy_72 : decode cX12_rangeBy 72 = .ok (.iload 6, 2) := by decide +kernel
theorem dX12_rangeBy_74 : decode cX12_rangeBy 74 = .ok (.iload 4, 2) := by decide +kernel
theorem dX12_rangeBy_76 : decode cX12_rangeBy 76 = .ok (.if_icmp .le 7, 3) := by decide +kernel
theorem dX12_rangeBy_79 : decode cX12_rangeBy 79 = .ok (.iload 6, 2) := by decide +kernel
theorem dX12_rangeBy_81 : decode cX12_rangeBy 81 = .ok (.istore 4, 2) := by decide +kernel
theorem dX12_rangeBy_83 : decode cX12_rangeBy 83 = .ok (.iinc 5 1, 3) := by decide +kernel
theorem dX12_rangeBy_86 : decode cX12_rangeBy 86 = .ok (.goto (-78), 3) := by decide +kernel
theorem dX12_rangeBy_89 : decode cX12_rangeBy 89 = .ok (.iload 4, 2) := by decide +kernel
theorem dX12_rangeBy_91 : decode cX12_rangeBy 91 = .ok (.iconst (-1), 1) := by decide +kernel
theorem dX12_rangeBy_92 : decode cX12_rangeBy 92 = .ok (.if_icmp .ne 7, 3) := by decide +kernel
theorem dX12_rangeBy_95 : decode cX12_rangeBy 95 = .ok (.iconst (-1), 1) := by decide +kernel
theorem dX12_rangeBy_96 : decode cX12_rangeBy 96 = .ok (.goto 7, 3) := by decide +kernel
theorem dX12_rangeBy_99 : decode cX12_rangeBy 99 = .ok (.iload 4, 2) := by decide +kernel
theorem dX12_rangeBy_101 : decode cX12_rangeBy 101 = .ok (.iload_n 3, 1) := by decide +kernel
theorem dX12_rangeBy_102 : decode cX12_rangeBy 102 = .ok (.isub, 1) := by decide +kernel
theorem dX12_rangeBy_103 : decode cX12_rangeBy 103 = .ok (.ireturn, 1) := by decide +kernel
theorem hcX12_rangeBy : yX12_rangeBy.cls ≠ "java/lang/invoke/MethodHandle" ∧ yX12_rangeBy.cls ≠ "java/lang/invoke/VarHandle" ∧ (parseMethodDescriptor yX12_rangeBy.desc).map (fun d => d.parameters.length) = some 2 := ⟨by decide +kernel, by decide +kernel, by decide +kernel⟩
def fX12_rangeBy_j83 (x5_8 : Int) (s10 : sg_M) (k8 : sg_M → Int → Int → Int → Prop) (x3_83 : Int) (x4_83 : Int) : Prop := sg_R (x5_8 + 1) ∧ k8 s10 x3_83 x4_83 (x5_8 + 1)
def fX12_rangeBy_j72 (x4_8 : Int) (u8 : Int) (k83 : Int → Int → Prop) (x3_72 : Int) : Prop := ((u8 ≤ x4_8 → k83 x3_72 x4_8) ∧ (¬ (u8 ≤ x4_8) → k83 x3_72 u8))
def fX12_rangeBy_j69 (u8 : Int) (k72 : Int → Prop)  : Prop := k72 u8
def fX12_rangeBy_L8 (x1 : Int) (x2 : Int) (Q : Int → sg_M → Prop) (k89 : sg_M → Int → Int → Prop) : Nat → sg_M → Int → Int → Int → Prop
  | 0, _, _, _, _ => False
  | n_8 + 1, s_8, x3_8, x4_8, x5_8 => fX12_bends s_8 (fun u1 => ((u1 ≤ x5_8 → k89 s_8 x3_8 x4_8) ∧ (¬ (u1 ≤ x5_8) → fX12_aOf s_8 x5_8 (fun u4 => fX12_bOf s_8 x5_8 (fun u6 => fX12_voiceBy s_8 0 u4 u6 x1 x2 (fun u8 s10 => (((s10 64 30) = (-1) → ((u8 ≠ 0 → ((x4_8 = (-1) → (fX12_rangeBy_j69 u8 (fX12_rangeBy_j72 x4_8 u8 (fX12_rangeBy_j83 x5_8 s10 (fX12_rangeBy_L8 x1 x2 Q k89 n_8))))) ∧ (¬ (x4_8 = (-1)) → ((x3_8 ≤ u8 → (fX12_rangeBy_j72 x4_8 u8 (fX12_rangeBy_j83 x5_8 s10 (fX12_rangeBy_L8 x1 x2 Q k89 n_8))) x3_8) ∧ (¬ (x3_8 ≤ u8) → (fX12_rangeBy_j69 u8 (fX12_rangeBy_j72 x4_8 u8 (fX12_rangeBy_j83 x5_8 s10 (fX12_rangeBy_L8 x1 x2 Q k89 n_8))))))))) ∧ (u8 = 0 → (fX12_rangeBy_j83 x5_8 s10 (fX12_rangeBy_L8 x1 x2 Q k89 n_8)) x3_8 x4_8))) ∧ (¬ ((s10 64 30) = (-1)) → Q (-2) s10))))))))
def fX12_rangeBy (s0 : sg_M) (x1 : Int) (x2 : Int) (Q : Int → sg_M → Prop) : Prop := (∃ n18 : Nat, fX12_rangeBy_L8 x1 x2 Q (fun s_89e8 x3_89e8 x4_89e8 => ((x4_89e8 ≠ (-1) → sg_R (x4_89e8 - x3_89e8) ∧ Q (x4_89e8 - x3_89e8) s_89e8) ∧ (x4_89e8 = (-1) → Q (-1) s_89e8))) n18 s0 0 (-1) 0)
set_option maxHeartbeats 4000000 in
set_option maxRecDepth 100000 in
theorem CX12_rangeBy {l : Launch} {G : sg_G} {La : sg_L} {s0 : sg_M} (hst : sg_St La) {x1 : Int} (r1 : sg_R x1) {x2 : Int} (r2 : sg_R x2) {Q : Int → sg_M → Prop} (hf : fX12_rangeBy s0 x1 x2 Q) : sg_C l G yX12_rangeBy cX12_rangeBy 7 (some .int) 5 0 0 La s0 [sg_r 64, sg_i x1, sg_i x2] (sg_HI La Q) := by
  refine sg_body (by decide +kernel) (Nat.le_of_ble_eq_true rfl) ?_
  intro p e s m args below meth c F hnm
  unfold fX12_rangeBy at hf
  show sg_W p l e (sg_rm 5 0 0) s m args below meth c (MQ below (sg_Q (some .int) G La s.heap.size (sg_HI La Q)) args s 0 0 (sg_A La s.heap.size)) 7 G (sg_A La s.heap.size) La s0 0 0 0 [(0, sg_r 64), (1, sg_i x1), (2, sg_i x2)] []
  refine gw_iconst F dX12_rangeBy_0 ?_
  refine gw_istore_n F rfl (by decide) rfl dX12_rangeBy_1 ?_
  refine gw_iconst F dX12_rangeBy_2 ?_
  refine gw_istore F (by decide) rfl dX12_rangeBy_3 ?_
  refine gw_iconst F dX12_rangeBy_5 ?_
  refine gw_istore F (by decide) rfl dX12_rangeBy_6 ?_
  have L8 : ∀ (k89 : sg_M → Int → Int → Prop) (hk89 : ∀ (s_89e8 : sg_M) (x3_89e8 : Int) (x4_89e8 : Int), sg_R x3_89e8 → sg_R x4_89e8 → k89 s_89e8 x3_89e8 x4_89e8 → sg_W p l e (sg_rm 5 0 0) s m args below meth c (MQ below (sg_Q (some .int) G La s.heap.size (sg_HI La Q)) args s 0 0 (sg_A La s.heap.size)) 7 G (sg_A La s.heap.size) La s_89e8 0 0 89 [(3, sg_i x3_89e8), (4, sg_i x4_89e8)] []), ∀ n_8 : Nat, ∀ (s_8 : sg_M) (x3_8 : Int) (x4_8 : Int) (x5_8 : Int), sg_R x3_8 → sg_R x4_8 → sg_R x5_8 → fX12_rangeBy_L8 x1 x2 Q k89 n_8 s_8 x3_8 x4_8 x5_8 → sg_W p l e (sg_rm 5 0 0) s m args below meth c (MQ below (sg_Q (some .int) G La s.heap.size (sg_HI La Q)) args s 0 0 (sg_A La s.heap.size)) 7 G (sg_A La s.heap.size) La s_8 0 0 8 [(0, sg_r 64), (1, sg_i x1), (2, sg_i x2), (3, sg_i x3_8), (4, sg_i x4_8), (5, sg_i x5_8)] [] := by
    intro k89 hk89 n_8
    induction n_8 with
    | zero => intro s_8 x3_8 x4_8 x5_8 r3_8 r4_8 r5_8 hf; exact hf.elim
    | succ n_8 ih =>
      intro s_8 x3_8 x4_8 x5_8 r3_8 r4_8 r5_8 hf
      unfold fX12_rangeBy_L8 at hf
      refine gw_iload F 5 rfl dX12_rangeBy_8 ?_
      refine gw_aload_n F 0 rfl rfl (by decide) dX12_rangeBy_10 ?_
      refine gk_PI F (gc_V F (S := [sg_i x5_8]) (As := []) (T := TX12) (N := 62) (CX12_bends hst hf) (so_64 hst) (by decide) rfl kw_1212 kw_103 kw_1210 kw_1211 kw_70 hcX12_bends ⟨by decide, by decide⟩ rfl rfl (Nat.le_of_ble_eq_true rfl) ⟨by decide, by decide⟩ dX12_rangeBy_11) (fun u1 h2 hf => ?_)
      refine gw_icmp_ge F (tgt := 89) dX12_rangeBy_14 (by decide) r5_8 h2 (fun c3 => ?_) (fun c3 => ?_)
      · have hf := hf.1 c3
        refine gw_sub [3, 4] rfl ?_
        exact hk89 s_8 x3_8 x4_8 r3_8 r4_8 hf
      · have hf := hf.2 c3
        refine gw_aload_n F 0 rfl rfl (by decide) dX12_rangeBy_17 ?_
        refine gw_iconst F dX12_rangeBy_18 ?_
        refine gw_aload_n F 0 rfl rfl (by decide) dX12_rangeBy_19 ?_
        refine gw_iload F 5 rfl dX12_rangeBy_20 ?_
        refine gk_PI F (gc_V F (S := [sg_i 0, sg_r 64]) (As := [sg_i x5_8]) (T := TX12) (N := 62) (CX12_aOf hst r5_8 hf) (so_64 hst) (by decide) rfl kw_1222 kw_103 kw_1220 kw_1221 kw_72 hcX12_aOf ⟨by decide, by decide⟩ rfl rfl (Nat.le_of_ble_eq_true rfl) ⟨by decide, by decide⟩ dX12_rangeBy_22) (fun u4 h5 hf => ?_)
        refine gw_aload_n F 0 rfl rfl (by decide) dX12_rangeBy_25 ?_
        refine gw_iload F 5 rfl dX12_rangeBy_26 ?_
        refine gk_PI F (gc_V F (S := [sg_i u4, sg_i 0, sg_r 64]) (As := [sg_i x5_8]) (T := TX12) (N := 62) (CX12_bOf hst r5_8 hf) (so_64 hst) (by decide) rfl kw_1225 kw_103 kw_1223 kw_1224 kw_73 hcX12_bOf ⟨by decide, by decide⟩ rfl rfl (Nat.le_of_ble_eq_true rfl) ⟨by decide, by decide⟩ dX12_rangeBy_28) (fun u6 h7 hf => ?_)
        refine gw_iload_n F 1 rfl rfl dX12_rangeBy_31 ?_
        refine gw_iload_n F 2 rfl rfl dX12_rangeBy_32 ?_
        refine gk_HI F (gc_V F (S := []) (As := [sg_i 0, sg_i u4, sg_i u6, sg_i x1, sg_i x2]) (T := TX12) (N := 62) (CX12_voiceBy hst (by decide) h5 h7 r1 r2 hf) (so_64 hst) (by decide) rfl kw_1205 kw_103 kw_1203 kw_1204 kw_69 hcX12_voiceBy ⟨by decide, by decide⟩ rfl rfl (Nat.le_of_ble_eq_true rfl) ⟨by decide, by decide⟩ dX12_rangeBy_33) (fun u8 s10 h9 hf => ?_)
        refine gw_istore F (by decide) rfl dX12_rangeBy_36 ?_
        refine gw_aload_n F 1 rfl rfl (by decide) dX12_rangeBy_38 ?_
        refine gw_get0 F (so_64 hst) (by decide) rfl sg_lay_RX12 (j := 30) (by decide) rfl (host := "") (.inl kw_986) dX12_rangeBy_39 (fun h11 => ?_)
        refine gw_iconst F dX12_rangeBy_42 ?_
        refine gw_icmp_eq F (tgt := 49) dX12_rangeBy_43 (by decide) h11 (by decide) (fun c12 => ?_) (fun c12 => ?_)
        · have hf := hf.1 c12
          refine gw_iload F 0 rfl dX12_rangeBy_49 ?_
          have J83 : ∀ (x3_83 : Int) (x4_83 : Int), sg_R x3_83 → sg_R x4_83 → (fX12_rangeBy_j83 x5_8 s10 (fX12_rangeBy_L8 x1 x2 Q k89 n_8)) x3_83 x4_83 → sg_W p l e (sg_rm 5 0 0) s m args below meth c (MQ below (sg_Q (some .int) G La s.heap.size (sg_HI La Q)) args s 0 0 (sg_A La s.heap.size)) 7 G (sg_A La s.heap.size) La s10 0 0 83 [(0, sg_r 64), (1, sg_i x1), (2, sg_i x2), (3, sg_i x3_83), (4, sg_i x4_83), (5, sg_i x5_8)] [] := by
            intro x3_83 x4_83 r3_83 r4_83 hf
            unfold fX12_rangeBy_j83 at hf
            refine gw_iinc F (z := (x5_8 + 1)) 5 rfl (by omega) (by decide) rfl dX12_rangeBy_83 ?_
            refine gw_goto F (tgt := 8) dX12_rangeBy_86 (by decide) ?_
            obtain ⟨g13, hf⟩ := hf
            refine gw_sub [1, 2, 3, 4, 5, 0] rfl ?_
            exact ih s10 x3_83 x4_83 (x5_8 + 1) r3_83 r4_83 g13 hf
          refine gw_if_ne F (tgt := 57) dX12_rangeBy_51 (by decide) h9 (fun c14 => ?_) (fun c14 => ?_)
          · have hf := hf.1 c14
            refine gw_iload F 5 rfl dX12_rangeBy_57 ?_
            refine gw_iconst F dX12_rangeBy_59 ?_
            have J72 : ∀ (x3_72 : Int), sg_R x3_72 → (fX12_rangeBy_j72 x4_8 u8 (fX12_rangeBy_j83 x5_8 s10 (fX12_rangeBy_L8 x1 x2 Q k89 n_8))) x3_72 → sg_W p l e (sg_rm 5 0 0) s m args below meth c (MQ below (sg_Q (some .int) G La s.heap.size (sg_HI La Q)) args s 0 0 (sg_A La s.heap.size)) 7 G (sg_A La s.heap.size) La s10 0 0 72 [(0, sg_r 64), (1, sg_i x1), (2, sg_i x2), (3, sg_i x3_72), (4, sg_i x4_8), (5, sg_i x5_8), (6, sg_i u8)] [] := by
              intro x3_72 r3_72 hf
              unfold fX12_rangeBy_j72 at hf
              refine gw_iload F 6 rfl dX12_rangeBy_72 ?_
              refine gw_iload F 4 rfl dX12_rangeBy_74 ?_
              refine gw_icmp_le F (tgt := 83) dX12_rangeBy_76 (by decide) h9 r4_8 (fun c15 => ?_) (fun c15 => ?_)
              · have hf := hf.1 c15
                refine gw_sub [0, 1, 2, 3, 4, 5] rfl ?_
                exact J83 x3_72 x4_8 r3_72 r4_8 hf
              · have hf := hf.2 c15
                refine gw_iload F 6 rfl dX12_rangeBy_79 ?_
                refine gw_istore F (by decide) rfl dX12_rangeBy_81 ?_
                refine gw_sub [1, 2, 3, 4, 0, 5] rfl ?_
                exact J83 x3_72 u8 r3_72 h9 hf
            have J69 : (fX12_rangeBy_j69 u8 (fX12_rangeBy_j72 x4_8 u8 (fX12_rangeBy_j83 x5_8 s10 (fX12_rangeBy_L8 x1 x2 Q k89 n_8)))) → sg_W p l e (sg_rm 5 0 0) s m args below meth c (MQ below (sg_Q (some .int) G La s.heap.size (sg_HI La Q)) args s 0 0 (sg_A La s.heap.size)) 7 G (sg_A La s.heap.size) La s10 0 0 69 [(0, sg_r 64), (1, sg_i x1), (2, sg_i x2), (4, sg_i x4_8), (5, sg_i x5_8), (6, sg_i u8)] [] := by
              intro hf
              unfold fX12_rangeBy_j69 at hf
              refine gw_iload F 5 rfl dX12_rangeBy_69 ?_
              refine gw_istore_n F rfl (by decide) rfl dX12_rangeBy_71 ?_
              refine gw_sub [1, 2, 3, 0, 4, 5, 6] rfl ?_
              exact J72 u8 h9 hf
            refine gw_icmp_eq F (tgt := 69) dX12_rangeBy_60 (by decide) r4_8 (by decide) (fun c16 => ?_) (fun c16 => ?_)
            · have hf := hf.1 c16
              refine gw_sub [1, 2, 3, 5, 6, 0] rfl ?_
              exact J69  hf
            · have hf := hf.2 c16
              refine gw_iload F 0 rfl dX12_rangeBy_63 ?_
              refine gw_iload_n F 4 rfl rfl dX12_rangeBy_65 ?_
              refine gw_icmp_ge F (tgt := 72) dX12_rangeBy_66 (by decide) h9 r3_8 (fun c17 => ?_) (fun c17 => ?_)
              · have hf := hf.1 c17
                refine gw_sub [1, 2, 3, 4, 5, 6, 0] rfl ?_
                exact J72 x3_8 r3_8 hf
              · have hf := hf.2 c17
                refine gw_sub [1, 2, 3, 5, 6, 0] rfl ?_
                exact J69  hf
          · have hf := hf.2 c14
            refine gw_goto F (tgt := 83) dX12_rangeBy_54 (by decide) ?_
            refine gw_sub [1, 2, 3, 4, 5, 6] rfl ?_
            exact J83 x3_8 x4_8 r3_8 r4_8 hf
        · have hf := hf.2 c12
          refine gw_bipush F rfl dX12_rangeBy_46 ?_
          exact gr_HI F (by decide) hf (by decide) (by decide) dX12_rangeBy_48
  obtain ⟨n18, hf⟩ := hf
  refine gw_sub [3, 4, 5, 2, 1, 0] rfl ?_
  refine L8 _ (fun s_89e8 x3_89e8 x4_89e8 r3_89e8 r4_89e8 hf => ?_) n18 s0 0 (-1) 0 (by decide) (by decide) (by decide) hf
  refine gw_iload F 1 rfl dX12_rangeBy_89 ?_
  refine gw_iconst F dX12_rangeBy_91 ?_
  refine gw_icmp_ne F (tgt := 99) dX12_rangeBy_92 (by decide) r4_89e8 (by decide) (fun c19 => ?_) (fun c19 => ?_)
  · have hf := hf.1 c19
    refine gw_iload F 1 rfl dX12_rangeBy_99 ?_
    refine gw_iload_n F 0 rfl rfl dX12_rangeBy_101 ?_
    refine gw_isub F rfl dX12_rangeBy_102 ?_
    obtain ⟨g20, hf⟩ := hf
    exact gr_HI F g20 hf (by decide) (by decide) dX12_rangeBy_103
  · have hf := hf.2 c19
    refine gw_iconst F dX12_rangeBy_95 ?_
    refine gw_goto F (tgt := 103) dX12_rangeBy_96 (by decide) ?_
    exact gr_HI F (by decide) hf (by decide) (by decide) dX12_rangeBy_103

theorem dX12_form_0 : decode cX12_form 0 = .ok (.aload_n 0, 1) := by decide +kernel
theorem dX12_form_1 : decode cX12_form 1 = .ok (.iconst 0, 1) := by decide +kernel
theorem dX12_form_2 : decode cX12_form 2 = .ok (.putfield 84, 3) := by decide +kernel
theorem dX12_form_5 : decode cX12_form 5 = .ok (.aload_n 0, 1) := by decide +kernel
theorem dX12_form_6 : decode cX12_form 6 = .ok (.invokevirtual 175, 3) := by decide +kernel
theorem dX12_form_9 : decode cX12_form 9 = .ok (.iload_n 1, 1) := by decide +kernel
theorem dX12_form_10 : decode cX12_form 10 = .ok (.iconst 1, 1) := by decide +kernel
theorem dX12_form_11 : decode cX12_form 11 = .ok (.bipush 20, 2) := by decide +kernel
theorem dX12_form_13 : decode cX12_form 13 = .ok (.invokestatic 155, 3) := by decide +kernel
theorem dX12_form_16 : decode cX12_form 16 = .ok (.ifCond .eq 27, 3) := by decide +kernel
theorem dX12_form_19 : decode cX12_form 19 = .ok (.iload_n 2, 1) := by decide +kernel
theorem dX12_form_20 : decode cX12_form 20 = .ok (.iload_n 1, 1) := by decide +kernel
theorem dX12_form_21 : decode cX12_form 21 = .ok (.bipush 20, 2) := by decide +kernel
theorem dX12_form_23 : decode cX12_form 23 = .ok (.invokestatic 155, 3) := by decide +kernel
theorem dX12_form_26 : decode cX12_form 26 = .ok (.ifCond .eq 17, 3) := by decide +kernel
theorem dX12_form_29 : decode cX12_form 29 = .ok (.iload_n 2, 1) := by decide +kernel
theorem dX12_form_30 : decode cX12_form 30 = .ok (.iload_n 1, 1) := by decide +kernel
theorem dX12_form_31 : decode cX12_form 31 = .ok (.isub, 1) := by decide +kernel
theorem dX12_form_32 : decode cX12_form 32 = .ok (.iconst 5, 1) := by decide +kernel
theorem dX12_form_33 : decode cX12_form 33 = .ok (.if_icmp .gt 10, 3) := by decide +kernel
theorem dX12_form_36 : decode cX12_form 36 = .ok (.aload_n 0, 1) := by decide +kernel
theorem dX12_form_37 : decode cX12_form 37 = .ok (.invokevirtual 320, 3) := by decide +kernel
theorem dX12_form_40 : decode cX12_form 40 = .ok (.ifCond .ne 6, 3) := by decide +kernel
theorem dX12_form_43 : decode cX12_form 43 = .ok (.bipush (-2), 2) := by decide +kernel
theorem dX12_form_45 : decode cX12_form 45 = .ok (.ireturn, 1) := by decide +kernel
theorem dX12_form_46 : decode cX12_form 46 = .ok (.iconst (-1), 1) := by decide +kernel
theorem dX12_form_47 : decode cX12_form 47 = .ok (.istore_n 3, 1) := by decide +kernel
theorem dX12_form_48 : decode cX12_form 48 = .ok (.bipush (-2), 2) := by decide +kernel
theorem dX12_form_50 : decode cX12_form 50 = .ok (.istore 4, 2) := by decide +kernel
theorem dX12_form_52 : decode cX12_form 52 = .ok (.iload_n 1, 1) := by decide +kernel
theorem dX12_form_53 : decode cX12_form 53 = .ok (.istore 5, 2) := by decide +kernel
theorem dX12_form_55 : decode cX12_form 55 = .ok (.iload 5, 2) := by decide +kernel
theorem dX12_form_57 : decode cX12_form 57 = .ok (.iload_n 2, 1) := by decide +kernel
theorem dX12_form_58 : decode cX12_form 58 = .ok (.if_icmp .gt 57, 3) := by decide +kernel
theorem dX12_form_61 : decode cX12_form 61 = .ok (.iload_n 1, 1) := by decide +kernel
theorem dX12_form_62 : decode cX12_form 62 = .ok (.istore 6, 2) := by decide +kernel
theorem dX12_form_64 : decode cX12_form 64 = .ok (.iload 6, 2) := by decide +kernel
theorem dX12_form_66 : decode cX12_form 66 = .ok (.iload_n 2, 1) := by decide +kernel
theorem dX12_form_67 : decode cX12_form 67 = .ok (.if_icmp .gt 42, 3) := by decide +kernel
theorem dX12_form_70 : decode cX12_form 70 = .ok (.aload_n 0, 1) := by decide +kernel
theorem dX12_form_71 : decode cX12_form 71 = .ok (.iload 5, 2) := by decide +kernel
theorem dX12_form_73 : decode cX12_form 73 = .ok (.iload 6, 2) := by decide +kernel
theorem dX12_form_75 : decode cX12_form 75 = .ok (.invokevirtual 359, 3) := by decide +kernel
theorem dX12_form_78 : decode cX12_form 78 = .ok (.istore 7, 2) := by decide +kernel
theorem dX12_form_80 : decode cX12_form 80 = .ok (.iload 7, 2) := by decide +kernel
theorem dX12_form_82 : decode cX12_form 82 = .ok (.iload 4, 2) := by decide +kernel
theorem dX12_form_84 : decode cX12_form 84 = .ok (.if_icmp .gt 6, 3) := by decide +kernel
theorem dX12_form_87 : decode cX12_form 87 = .ok (.goto 16, 3) := by decide +kernel
theorem dX12_form_90 : decode cX12_form 90 = .ok (.iload 7, 2) := by decide +kernel
theorem dX12_form_92 : decode cX12_form 92 = .ok (.istore 4, 2) := by decide +kernel
theorem dX12_form_94 : decode cX12_form 94 = .ok (.bipush 100, 2) := by decide +kernel
theorem dX12_form_96 : decode cX12_form 96 = .ok (.iload 5, 2) := by decide +kernel
theorem dX12_form_98 : decode cX12_form 98 = .ok (.imul, 1) := by decide +kernel
theorem dX12_form_99 : decode cX12_form 99 = .ok (.iload 6, 2) := by decide +kernel
theorem dX12_form_101 : decode cX12_form 101 = .ok (.iadd, 1) := by decide +kernel
theorem dX12_form_102 : decode cX12_form 102 = .ok (.istore_n 3, 1) := by decide +kernel
theorem dX12_form_103 : decode cX12_form 103 = .ok (.iinc 6 1, 3) := by decide +kernel
theorem dX12_form_106 : decode cX12_form 106 = .ok (.goto (-42), 3) := by decide +kernel
theorem dX12_form_109 : decode cX12_form 109 = .ok (.iinc 5 1, 3) := by decide +kernel
theorem dX12_form_112 : decode cX12_form 112 = .ok (.goto (-57), 3) := by decide +kernel
theorem dX12_form_115 : decode cX12_form 115 = .ok (.iload_n 3, 1) := by decide +kernel
theorem dX12_form_116 : decode cX12_form 116 = .ok (.iconst (-1), 1) := by decide +kernel
theorem dX12_form_117 : decode cX12_form 117 = .ok (.if_icmp .eq 9, 3) := by decide +kernel
theorem dX12_form_120 : decode cX12_form 120 = .ok (.aload_n 0, 1) := by decide +kernel
theorem dX12_form_121 : decode cX12_form 121 = .ok (.iload 4, 2) := by decide +kernel
theorem dX12_form_123 : decode cX12_form 123 = .ok (.putfield 77, 3) := by decide +kernel
theorem dX12_form_126 : decode cX12_form 126 = .ok (.iload_n 3, 1) := by decide +kernel
theorem dX12_form_127 : decode cX12_form 127 = .ok (.ireturn, 1) := by decide +kernel
theorem hcX12_form : yX12_form.cls ≠ "java/lang/invoke/MethodHandle" ∧ yX12_form.cls ≠ "java/lang/invoke/VarHandle" ∧ (parseMethodDescriptor yX12_form.desc).map (fun d => d.parameters.length) = some 2 := ⟨by decide +kernel, by decide +kernel, by decide +kernel⟩
def fX12_form_j103 (x6_64 : Int) (s19 : sg_M) (k64 : sg_M → Int → Int → Int → Prop) (x3_103 : Int) (x4_103 : Int) : Prop := sg_R (x6_64 + 1) ∧ k64 s19 x3_103 x4_103 (x6_64 + 1)
def fX12_form_L64 (x2 : Int) (x5_55 : Int) (k109 : sg_M → Int → Int → Prop) : Nat → sg_M → Int → Int → Int → Prop
  | 0, _, _, _, _ => False
  | n_64 + 1, s_64, x3_64, x4_64, x6_64 => ((x2 < x6_64 → k109 s_64 x3_64 x4_64) ∧ (¬ (x2 < x6_64) → fX12_rangeBy s_64 x5_55 x6_64 (fun u17 s19 => ((x4_64 < u17 → sg_R ((100 * x5_55) + x6_64) ∧ (fX12_form_j103 x6_64 s19 (fX12_form_L64 x2 x5_55 k109 n_64)) ((100 * x5_55) + x6_64) u17) ∧ (¬ (x4_64 < u17) → (fX12_form_j103 x6_64 s19 (fX12_form_L64 x2 x5_55 k109 n_64)) x3_64 x4_64)))))
def fX12_form_L55 (x1 : Int) (x2 : Int) (k115 : sg_M → Int → Int → Prop) : Nat → sg_M → Int → Int → Int → Prop
  | 0, _, _, _, _ => False
  | n_55 + 1, s_55, x3_55, x4_55, x5_55 => ((x2 < x5_55 → k115 s_55 x3_55 x4_55) ∧ (¬ (x2 < x5_55) → (∃ n23 : Nat, fX12_form_L64 x2 x5_55 (fun s_109e64 x3_109e64 x4_109e64 => sg_R (x5_55 + 1) ∧ (fX12_form_L55 x1 x2 k115 n_55) s_109e64 x3_109e64 x4_109e64 (x5_55 + 1)) n23 s_55 x3_55 x4_55 x1)))
def fX12_form (s0 : sg_M) (x1 : Int) (x2 : Int) (Q : Int → sg_M → Prop) : Prop := ∀ s1 : sg_M, s1 = sg_up s0 64 0 0 → fX12_lay s1 (fun s3 => fX12_isIn x1 1 20 (fun u4 => ((u4 = 0 → Q (-2) s3) ∧ (¬ (u4 = 0) → fX12_isIn x2 x1 20 (fun u7 => ((u7 = 0 → Q (-2) s3) ∧ (¬ (u7 = 0) → sg_R (x2 - x1) ∧ ((5 < (x2 - x1) → Q (-2) s3) ∧ (¬ (5 < (x2 - x1)) → fX12_bends s3 (fun u12 => ((u12 ≠ 0 → (∃ n25 : Nat, fX12_form_L55 x1 x2 (fun s_115e55 x3_115e55 x4_115e55 => ((x3_115e55 = (-1) → Q x3_115e55 s_115e55) ∧ (¬ (x3_115e55 = (-1)) → ∀ s27 : sg_M, s27 = sg_up s_115e55 64 56 x4_115e55 → Q x3_115e55 s27))) n25 s3 (-1) (-2) x1)) ∧ (u12 = 0 → Q (-2) s3))))))))))))
set_option maxHeartbeats 4000000 in
set_option maxRecDepth 100000 in
theorem CX12_form {l : Launch} {G : sg_G} {La : sg_L} {s0 : sg_M} (hst : sg_St La) {x1 : Int} (r1 : sg_R x1) {x2 : Int} (r2 : sg_R x2) {Q : Int → sg_M → Prop} (hf : fX12_form s0 x1 x2 Q) : sg_C l G yX12_form cX12_form 8 (some .int) 6 0 0 La s0 [sg_r 64, sg_i x1, sg_i x2] (sg_HI La Q) := by
  refine sg_body (by decide +kernel) (Nat.le_of_ble_eq_true rfl) ?_
  intro p e s m args below meth c F hnm
  unfold fX12_form at hf
  show sg_W p l e (sg_rm 6 0 0) s m args below meth c (MQ below (sg_Q (some .int) G La s.heap.size (sg_HI La Q)) args s 0 0 (sg_A La s.heap.size)) 8 G (sg_A La s.heap.size) La s0 0 0 0 [(0, sg_r 64), (1, sg_i x1), (2, sg_i x2)] []
  refine gw_aload_n F 0 rfl rfl (by decide) dX12_form_0 ?_
  refine gw_iconst F dX12_form_1 ?_
  obtain ⟨s1, e2⟩ : ∃ z : sg_M, z = sg_up s0 64 0 0 := ⟨_, rfl⟩
  have hf := hf s1 e2
  refine gw_put0 F (so_64 hst) (by decide) rfl sg_lay_RX12 (j := 0) (by decide) (by decide) e2 tyX12_ok nmX12 rfl (tyX12_ok 0 (by decide)) rfl (host := "") (.inl kw_956) dX12_form_2 ?_
  refine gw_aload_n F 0 rfl rfl (by decide) dX12_form_5 ?_
  refine gk_HV F (gc_V F (S := []) (As := []) (T := TX12) (N := 62) (CX12_lay hst hf) (so_64 hst) (by decide) rfl kw_1043 kw_103 kw_1041 kw_1042 kw_41 hcX12_lay ⟨by decide, by decide⟩ rfl rfl (Nat.le_of_ble_eq_true rfl) ⟨by decide, by decide⟩ dX12_form_6) (fun s3 hf => ?_)
  refine gw_iload_n F 1 rfl rfl dX12_form_9 ?_
  refine gw_iconst F dX12_form_10 ?_
  refine gw_bipush F rfl dX12_form_11 ?_
  refine gk_PZ F (gc_S F (S := []) (As := [sg_i x1, sg_i 1, sg_i 20]) (CX12_isIn r1 (by decide) (by decide) hf) kw_1084 kw_103 kw_1082 kw_1083 hcX12_isIn ⟨by decide, by decide⟩ rfl rfl (Nat.le_of_ble_eq_true rfl) ⟨by decide, by decide⟩ dX12_form_13) (fun u4 h5 hf => ?_)
  refine gw_if_eq F (tgt := 43) dX12_form_16 (by decide) (sg_B_R h5) (fun c6 => ?_) (fun c6 => ?_)
  · have hf := hf.1 c6
    refine gw_bipush F rfl dX12_form_43 ?_
    exact gr_HI F (by decide) hf (by decide) (by decide) dX12_form_45
  · have hf := hf.2 c6
    refine gw_iload_n F 2 rfl rfl dX12_form_19 ?_
    refine gw_iload_n F 1 rfl rfl dX12_form_20 ?_
    refine gw_bipush F rfl dX12_form_21 ?_
    refine gk_PZ F (gc_S F (S := []) (As := [sg_i x2, sg_i x1, sg_i 20]) (CX12_isIn r2 r1 (by decide) hf) kw_1084 kw_103 kw_1082 kw_1083 hcX12_isIn ⟨by decide, by decide⟩ rfl rfl (Nat.le_of_ble_eq_true rfl) ⟨by decide, by decide⟩ dX12_form_23) (fun u7 h8 hf => ?_)
    refine gw_if_eq F (tgt := 43) dX12_form_26 (by decide) (sg_B_R h8) (fun c9 => ?_) (fun c9 => ?_)
    · have hf := hf.1 c9
      refine gw_bipush F rfl dX12_form_43 ?_
      exact gr_HI F (by decide) hf (by decide) (by decide) dX12_form_45
    · have hf := hf.2 c9
      refine gw_iload_n F 2 rfl rfl dX12_form_29 ?_
      refine gw_iload_n F 1 rfl rfl dX12_form_30 ?_
      refine gw_isub F rfl dX12_form_31 ?_
      refine gw_iconst F dX12_form_32 ?_
      obtain ⟨g10, hf⟩ := hf
      refine gw_icmp_gt F (tgt := 43) dX12_form_33 (by decide) g10 (by decide) (fun c11 => ?_) (fun c11 => ?_)
      · have hf := hf.1 c11
        refine gw_bipush F rfl dX12_form_43 ?_
        exact gr_HI F (by decide) hf (by decide) (by decide) dX12_form_45
      · have hf := hf.2 c11
        refine gw_aload_n F 0 rfl rfl (by decide) dX12_form_36 ?_
        refine gk_PI F (gc_V F (S := []) (As := []) (T := TX12) (N := 62) (CX12_bends hst hf) (so_64 hst) (by decide) rfl kw_1212 kw_103 kw_1210 kw_1211 kw_70 hcX12_bends ⟨by decide, by decide⟩ rfl rfl (Nat.le_of_ble_eq_true rfl) ⟨by decide, by decide⟩ dX12_form_37) (fun u12 h13 hf => ?_)
        refine gw_if_ne F (tgt := 46) dX12_form_40 (by decide) h13 (fun c14 => ?_) (fun c14 => ?_)
        · have hf := hf.1 c14
          refine gw_iconst F dX12_form_46 ?_
          refine gw_istore_n F rfl (by decide) rfl dX12_form_47 ?_
          refine gw_bipush F rfl dX12_form_48 ?_
          refine gw_istore F (by decide) rfl dX12_form_50 ?_
          refine gw_iload_n F 3 rfl rfl dX12_form_52 ?_
          refine gw_istore F (by decide) rfl dX12_form_53 ?_
          have L55 : ∀ (k115 : sg_M → Int → Int → Prop) (hk115 : ∀ (s_115e55 : sg_M) (x3_115e55 : Int) (x4_115e55 : Int), sg_R x3_115e55 → sg_R x4_115e55 → k115 s_115e55 x3_115e55 x4_115e55 → sg_W p l e (sg_rm 6 0 0) s m args below meth c (MQ below (sg_Q (some .int) G La s.heap.size (sg_HI La Q)) args s 0 0 (sg_A La s.heap.size)) 8 G (sg_A La s.heap.size) La s_115e55 0 0 115 [(0, sg_r 64), (3, sg_i x3_115e55), (4, sg_i x4_115e55)] []), ∀ n_55 : Nat, ∀ (s_55 : sg_M) (x3_55 : Int) (x4_55 : Int) (x5_55 : Int), sg_R x3_55 → sg_R x4_55 → sg_R x5_55 → fX12_form_L55 x1 x2 k115 n_55 s_55 x3_55 x4_55 x5_55 → sg_W p l e (sg_rm 6 0 0) s m args below meth c (MQ below (sg_Q (some .int) G La s.heap.size (sg_HI La Q)) args s 0 0 (sg_A La s.heap.size)) 8 G (sg_A La s.heap.size) La s_55 0 0 55 [(0, sg_r 64), (1, sg_i x1), (2, sg_i x2), (3, sg_i x3_55), (4, sg_i x4_55), (5, sg_i x5_55)] [] := by
            intro k115 hk115 n_55
            induction n_55 with
            | zero => intro s_55 x3_55 x4_55 x5_55 r3_55 r4_55 r5_55 hf; exact hf.elim
            | succ n_55 ih =>
              intro s_55 x3_55 x4_55 x5_55 r3_55 r4_55 r5_55 hf
              unfold fX12_form_L55 at hf
              refine gw_iload F 5 rfl dX12_form_55 ?_
              refine gw_iload_n F 2 rfl rfl dX12_form_57 ?_
              refine gw_icmp_gt F (tgt := 115) dX12_form_58 (by decide) r5_55 r2 (fun c15 => ?_) (fun c15 => ?_)
              · have hf := hf.1 c15
                refine gw_sub [0, 3, 4] rfl ?_
                exact hk115 s_55 x3_55 x4_55 r3_55 r4_55 hf
              · have hf := hf.2 c15
                refine gw_iload_n F 1 rfl rfl dX12_form_61 ?_
                refine gw_istore F (by decide) rfl dX12_form_62 ?_
                have L64 : ∀ (k109 : sg_M → Int → Int → Prop) (hk109 : ∀ (s_109e64 : sg_M) (x3_109e64 : Int) (x4_109e64 : Int), sg_R x3_109e64 → sg_R x4_109e64 → k109 s_109e64 x3_109e64 x4_109e64 → sg_W p l e (sg_rm 6 0 0) s m args below meth c (MQ below (sg_Q (some .int) G La s.heap.size (sg_HI La Q)) args s 0 0 (sg_A La s.heap.size)) 8 G (sg_A La s.heap.size) La s_109e64 0 0 109 [(0, sg_r 64), (1, sg_i x1), (2, sg_i x2), (3, sg_i x3_109e64), (4, sg_i x4_109e64), (5, sg_i x5_55)] []), ∀ n_64 : Nat, ∀ (s_64 : sg_M) (x3_64 : Int) (x4_64 : Int) (x6_64 : Int), sg_R x3_64 → sg_R x4_64 → sg_R x6_64 → fX12_form_L64 x2 x5_55 k109 n_64 s_64 x3_64 x4_64 x6_64 → sg_W p l e (sg_rm 6 0 0) s m args below meth c (MQ below (sg_Q (some .int) G La s.heap.size (sg_HI La Q)) args s 0 0 (sg_A La s.heap.size)) 8 G (sg_A La s.heap.size) La s_64 0 0 64 [(0, sg_r 64), (1, sg_i x1), (2, sg_i x2), (3, sg_i x3_64), (4, sg_i x4_64), (5, sg_i x5_55), (6, sg_i x6_64)] [] := by
                  intro k109 hk109 n_64
                  induction n_64 with
                  | zero => intro s_64 x3_64 x4_64 x6_64 r3_64 r4_64 r6_64 hf; exact hf.elim
                  | succ n_64 ih =>
                    intro s_64 x3_64 x4_64 x6_64 r3_64 r4_64 r6_64 hf
                    unfold fX12_form_L64 at hf
                    refine gw_iload F 6 rfl dX12_form_64 ?_
                    refine gw_iload_n F 2 rfl rfl dX12_form_66 ?_
                    refine gw_icmp_gt F (tgt := 109) dX12_form_67 (by decide) r6_64 r2 (fun c16 => ?_) (fun c16 => ?_)
                    · have hf := hf.1 c16
                      refine gw_sub [0, 1, 2, 3, 4, 5] rfl ?_
                      exact hk109 s_64 x3_64 x4_64 r3_64 r4_64 hf
                    · have hf := hf.2 c16
                      refine gw_aload_n F 0 rfl rfl (by decide) dX12_form_70 ?_
                      refine gw_iload F 5 rfl dX12_form_71 ?_
                      refine gw_iload F 6 rfl dX12_form_73 ?_
                      refine gk_HI F (gc_V F (S := []) (As := [sg_i x5_55, sg_i x6_64]) (T := TX12) (N := 62) (CX12_rangeBy hst r5_55 r6_64 hf) (so_64 hst) (by decide) rfl kw_1295 kw_103 kw_1293 kw_1294 kw_79 hcX12_rangeBy ⟨by decide, by decide⟩ rfl rfl (Nat.le_of_ble_eq_true rfl) ⟨by decide, by decide⟩ dX12_form_75) (fun u17 s19 h18 hf => ?_)
                      refine gw_istore F (by decide) rfl dX12_form_78 ?_
                      refine gw_iload F 0 rfl dX12_form_80 ?_
                      refine gw_iload F 5 rfl dX12_form_82 ?_
                      have J103 : ∀ (x3_103 : Int) (x4_103 : Int), sg_R x3_103 → sg_R x4_103 → (fX12_form_j103 x6_64 s19 (fX12_form_L64 x2 x5_55 k109 n_64)) x3_103 x4_103 → sg_W p l e (sg_rm 6 0 0) s m args below meth c (MQ below (sg_Q (some .int) G La s.heap.size (sg_HI La Q)) args s 0 0 (sg_A La s.heap.size)) 8 G (sg_A La s.heap.size) La s19 0 0 103 [(0, sg_r 64), (1, sg_i x1), (2, sg_i x2), (3, sg_i x3_103), (4, sg_i x4_103), (5, sg_i x5_55), (6, sg_i x6_64)] [] := by
                        intro x3_103 x4_103 r3_103 r4_103 hf
                        unfold fX12_form_j103 at hf
                        refine gw_iinc F (z := (x6_64 + 1)) 6 rfl (by omega) (by decide) rfl dX12_form_103 ?_
                        refine gw_goto F (tgt := 64) dX12_form_106 (by decide) ?_
                        obtain ⟨g20, hf⟩ := hf
                        refine gw_sub [1, 2, 3, 4, 5, 6, 0] rfl ?_
                        exact ih s19 x3_103 x4_103 (x6_64 + 1) r3_103 r4_103 g20 hf
                      refine gw_icmp_gt F (tgt := 90) dX12_form_84 (by decide) h18 r4_64 (fun c21 => ?_) (fun c21 => ?_)
                      · have hf := hf.1 c21
                        refine gw_iload F 0 rfl dX12_form_90 ?_
                        refine gw_istore F (by decide) rfl dX12_form_92 ?_
                        refine gw_bipush F rfl dX12_form_94 ?_
                        refine gw_iload F 6 rfl dX12_form_96 ?_
                        refine gw_imul F rfl dX12_form_98 ?_
                        refine gw_iload F 7 rfl dX12_form_99 ?_
                        refine gw_iadd F rfl dX12_form_101 ?_
                        refine gw_istore_n F rfl (by decide) rfl dX12_form_102 ?_
                        obtain ⟨g22, hf⟩ := hf
                        refine gw_sub [3, 4, 5, 0, 1, 6, 7] rfl ?_
                        exact J103 ((100 * x5_55) + x6_64) u17 g22 h18 hf
                      · have hf := hf.2 c21
                        refine gw_goto F (tgt := 103) dX12_form_87 (by decide) ?_
                        refine gw_sub [1, 2, 3, 4, 5, 6, 7] rfl ?_
                        exact J103 x3_64 x4_64 r3_64 r4_64 hf
                obtain ⟨n23, hf⟩ := hf
                refine gw_sub [1, 2, 3, 4, 5, 6, 0] rfl ?_
                refine L64 _ (fun s_109e64 x3_109e64 x4_109e64 r3_109e64 r4_109e64 hf => ?_) n23 s_55 x3_55 x4_55 x1 r3_55 r4_55 r1 hf
                refine gw_iinc F (z := (x5_55 + 1)) 5 rfl (by omega) (by decide) rfl dX12_form_109 ?_
                refine gw_goto F (tgt := 55) dX12_form_112 (by decide) ?_
                obtain ⟨g24, hf⟩ := hf
                refine gw_sub [1, 2, 3, 4, 5, 0] rfl ?_
                exact ih s_109e64 x3_109e64 x4_109e64 (x5_55 + 1) r3_109e64 r4_109e64 g24 hf
          obtain ⟨n25, hf⟩ := hf
          refine gw_sub [3, 4, 5, 2, 1, 0] rfl ?_
          refine L55 _ (fun s_115e55 x3_115e55 x4_115e55 r3_115e55 r4_115e55 hf => ?_) n25 s3 (-1) (-2) x1 (by decide) (by decide) r1 hf
          refine gw_iload_n F 1 rfl rfl dX12_form_115 ?_
          refine gw_iconst F dX12_form_116 ?_
          refine gw_icmp_eq F (tgt := 126) dX12_form_117 (by decide) r3_115e55 (by decide) (fun c26 => ?_) (fun c26 => ?_)
          · have hf := hf.1 c26
            refine gw_iload_n F 1 rfl rfl dX12_form_126 ?_
            exact gr_HI F r3_115e55 hf (by decide) (by decide) dX12_form_127
          · have hf := hf.2 c26
            refine gw_aload_n F 0 rfl rfl (by decide) dX12_form_120 ?_
            refine gw_iload F 2 rfl dX12_form_121 ?_
            obtain ⟨s27, e28⟩ : ∃ z : sg_M, z = sg_up s_115e55 64 56 x4_115e55 := ⟨_, rfl⟩
            have hf := hf s27 e28
            refine gw_put0 F (so_64 hst) (by decide) rfl sg_lay_RX12 (j := 56) (by decide) r4_115e55 e28 tyX12_ok nmX12 rfl (tyX12_ok 56 (by decide)) rfl (host := "") (.inl kw_1012) dX12_form_123 ?_
            refine gw_iload_n F 1 rfl rfl dX12_form_126 ?_
            exact gr_HI F r3_115e55 hf (by decide) (by decide) dX12_form_127
        · have hf := hf.2 c14
          refine gw_bipush F rfl dX12_form_43 ?_
          exact gr_HI F (by decide) hf (by decide) (by decide) dX12_form_45

theorem dX12_tickTo_0 : decode cX12_tickTo 0 = .ok (.aload_n 0, 1) := by decide +kernel
theorem dX12_tickTo_1 : decode cX12_tickTo 1 = .ok (.getfield 22, 3) := by decide +kernel
theorem dX12_tickTo_4 : decode cX12_tickTo 4 = .ok (.aload_n 0, 1) := by decide +kernel
theorem dX12_tickTo_5 : decode cX12_tickTo 5 = .ok (.getfield 295, 3) := by decide +kernel
theorem dX12_tickTo_8 : decode cX12_tickTo 8 = .ok (.iload_n 1, 1) := by decide +kernel
theorem dX12_tickTo_9 : decode cX12_tickTo 9 = .ok (.iastore, 1) := by decide +kernel
theorem dX12_tickTo_10 : decode cX12_tickTo 10 = .ok (.aload_n 0, 1) := by decide +kernel
theorem dX12_tickTo_11 : decode cX12_tickTo 11 = .ok (.getfield 25, 3) := by decide +kernel
theorem dX12_tickTo_14 : decode cX12_tickTo 14 = .ok (.aload_n 0, 1) := by decide +kernel
theorem dX12_tickTo_15 : decode cX12_tickTo 15 = .ok (.getfield 295, 3) := by decide +kernel
theorem dX12_tickTo_18 : decode cX12_tickTo 18 = .ok (.iload_n 2, 1) := by decide +kernel
theorem dX12_tickTo_19 : decode cX12_tickTo 19 = .ok (.iastore, 1) := by decide +kernel
theorem dX12_tickTo_20 : decode cX12_tickTo 20 = .ok (.aload_n 0, 1) := by decide +kernel
theorem dX12_tickTo_21 : decode cX12_tickTo 21 = .ok (.dup, 1) := by decide +kernel
theorem dX12_tickTo_22 : decode cX12_tickTo 22 = .ok (.getfield 295, 3) := by decide +kernel
theorem dX12_tickTo_25 : decode cX12_tickTo 25 = .ok (.iconst 1, 1) := by decide +kernel
theorem dX12_tickTo_26 : decode cX12_tickTo 26 = .ok (.iadd, 1) := by decide +kernel
theorem dX12_tickTo_27 : decode cX12_tickTo 27 = .ok (.putfield 295, 3) := by decide +kernel
theorem dX12_tickTo_30 : decode cX12_tickTo 30 = .ok (.return_, 1) := by decide +kernel
theorem hcX12_tickTo : yX12_tickTo.cls ≠ "java/lang/invoke/MethodHandle" ∧ yX12_tickTo.cls ≠ "java/lang/invoke/VarHandle" ∧ (parseMethodDescriptor yX12_tickTo.desc).map (fun d => d.parameters.length) = some 2 := ⟨by decide +kernel, by decide +kernel, by decide +kernel⟩
def fX12_tickTo (s0 : sg_M) (x1 : Int) (x2 : Int) (Q : sg_M → Prop) : Prop := (0 ≤ (s0 64 43) ∧ (s0 64 43) < 200) ∧ ∀ s4 : sg_M, s4 = sg_up s0 69 (s0 64 43) x1 → (0 ≤ (s4 64 43) ∧ (s4 64 43) < 200) ∧ ∀ s9 : sg_M, s9 = sg_up s4 70 (s4 64 43) x2 → sg_R ((s9 64 43) + 1) ∧ ∀ s13 : sg_M, s13 = sg_up s9 64 43 ((s9 64 43) + 1) → Q s13
set_option maxHeartbeats 4000000 in
set_option maxRecDepth 100000 in
theorem CX12_tickTo {l : Launch} {G : sg_G} {La : sg_L} {s0 : sg_M} (hst : sg_St La) {x1 : Int} (r1 : sg_R x1) {x2 : Int} (r2 : sg_R x2) {Q : sg_M → Prop} (hf : fX12_tickTo s0 x1 x2 Q) : sg_C l G yX12_tickTo cX12_tickTo 3 (none) 1 0 0 La s0 [sg_r 64, sg_i x1, sg_i x2] (sg_HV La Q) := by
  refine sg_body (by decide +kernel) (Nat.le_of_ble_eq_true rfl) ?_
  intro p e s m args below meth c F hnm
  unfold fX12_tickTo at hf
  show sg_W p l e (sg_rm 1 0 0) s m args below meth c (MQ below (sg_Q (none) G La s.heap.size (sg_HV La Q)) args s 0 0 (sg_A La s.heap.size)) 3 G (sg_A La s.heap.size) La s0 0 0 0 [(0, sg_r 64), (1, sg_i x1), (2, sg_i x2)] []
  refine gw_aload_n F 0 rfl rfl (by decide) dX12_tickTo_0 ?_
  refine gw_get7 F (so_64 hst) (by decide) rfl sg_lay_RX12 (j := 17) (by decide) (o1 := 69) (by first | rfl | omega) rfl (host := "") (.inl kw_973) dX12_tickTo_1 (fun h1 => ?_)
  refine gw_aload_n F 0 rfl rfl (by decide) dX12_tickTo_4 ?_
  refine gw_get0 F (so_64 hst) (by decide) rfl sg_lay_RX12 (j := 43) (by decide) rfl (host := "") (.inl kw_999) dX12_tickTo_5 (fun h2 => ?_)
  refine gw_iload_n F 1 rfl rfl dX12_tickTo_8 ?_
  obtain ⟨⟨b30, b31⟩, hf⟩ := hf
  obtain ⟨s4, e5⟩ : ∃ z : sg_M, z = sg_up s0 69 (s0 64 43) x1 := ⟨_, rfl⟩
  have hf := hf s4 e5
  refine gw_iast F (sa_69 hst) b30 b31 r1 e5 dX12_tickTo_9 ?_
  refine gw_aload_n F 0 rfl rfl (by decide) dX12_tickTo_10 ?_
  refine gw_get7 F (so_64 hst) (by decide) rfl sg_lay_RX12 (j := 18) (by decide) (o1 := 70) (by first | rfl | omega) rfl (host := "") (.inl kw_974) dX12_tickTo_11 (fun h6 => ?_)
  refine gw_aload_n F 0 rfl rfl (by decide) dX12_tickTo_14 ?_
  refine gw_get0 F (so_64 hst) (by decide) rfl sg_lay_RX12 (j := 43) (by decide) rfl (host := "") (.inl kw_999) dX12_tickTo_15 (fun h7 => ?_)
  refine gw_iload_n F 2 rfl rfl dX12_tickTo_18 ?_
  obtain ⟨⟨b80, b81⟩, hf⟩ := hf
  obtain ⟨s9, e10⟩ : ∃ z : sg_M, z = sg_up s4 70 (s4 64 43) x2 := ⟨_, rfl⟩
  have hf := hf s9 e10
  refine gw_iast F (sa_70 hst) b80 b81 r2 e10 dX12_tickTo_19 ?_
  refine gw_aload_n F 0 rfl rfl (by decide) dX12_tickTo_20 ?_
  refine gw_dup F rfl dX12_tickTo_21 ?_
  refine gw_get0 F (so_64 hst) (by decide) rfl sg_lay_RX12 (j := 43) (by decide) rfl (host := "") (.inl kw_999) dX12_tickTo_22 (fun h11 => ?_)
  refine gw_iconst F dX12_tickTo_25 ?_
  refine gw_iadd F rfl dX12_tickTo_26 ?_
  obtain ⟨g12, hf⟩ := hf
  obtain ⟨s13, e14⟩ : ∃ z : sg_M, z = sg_up s9 64 43 ((s9 64 43) + 1) := ⟨_, rfl⟩
  have hf := hf s13 e14
  refine gw_put0 F (so_64 hst) (by decide) rfl sg_lay_RX12 (j := 43) (by decide) g12 e14 tyX12_ok nmX12 rfl (tyX12_ok 43 (by decide)) rfl (host := "") (.inl kw_999) dX12_tickTo_27 ?_
  exact gr_HV F hf (by decide) (by decide) dX12_tickTo_30

theorem dX12_readLast_0 : decode cX12_readLast 0 = .ok (.aload_n 0, 1) := by decide +kernel
theorem dX12_readLast_1 : decode cX12_readLast 1 = .ok (.getfield 106, 3) := by decide +kernel
theorem dX12_readLast_4 : decode cX12_readLast 4 = .ok (.iconst 3, 1) := by decide +kernel
theorem dX12_readLast_5 : decode cX12_readLast 5 = .ok (.if_icmp .eq 9, 3) := by decide +kernel
theorem dX12_readLast_8 : decode cX12_readLast 8 = .ok (.aload_n 0, 1) := by decide +kernel
theorem dX12_readLast_9 : decode cX12_readLast 9 = .ok (.iconst 1, 1) := by decide +kernel
theorem dX12_readLast_10 : decode cX12_readLast 10 = .ok (.invokevirtual 152, 3) := by decide +kernel
theorem dX12_readLast_13 : decode cX12_readLast 13 = .ok (.ireturn, 1) := by decide +kernel
theorem dX12_readLast_14 : decode cX12_readLast 14 = .ok (.aload_n 0, 1) := by decide +kernel
theorem dX12_readLast_15 : decode cX12_readLast 15 = .ok (.getfield 123, 3) := by decide +kernel
theorem dX12_readLast_18 : decode cX12_readLast 18 = .ok (.iconst 1, 1) := by decide +kernel
theorem dX12_readLast_19 : decode cX12_readLast 19 = .ok (.bipush 99, 2) := by decide +kernel
theorem dX12_readLast_21 : decode cX12_readLast 21 = .ok (.invokestatic 155, 3) := by decide +kernel
theorem dX12_readLast_24 : decode cX12_readLast 24 = .ok (.ifCond .ne 9, 3) := by decide +kernel
theorem dX12_readLast_27 : decode cX12_readLast 27 = .ok (.aload_n 0, 1) := by decide +kernel
theorem dX12_readLast_28 : decode cX12_readLast 28 = .ok (.iconst 2, 1) := by decide +kernel
theorem dX12_readLast_29 : decode cX12_readLast 29 = .ok (.invokevirtual 152, 3) := by decide +kernel
theorem dX12_readLast_32 : decode cX12_readLast 32 = .ok (.ireturn, 1) := by decide +kernel
theorem dX12_readLast_33 : decode cX12_readLast 33 = .ok (.aload_n 0, 1) := by decide +kernel
theorem dX12_readLast_34 : decode cX12_readLast 34 = .ok (.getfield 295, 3) := by decide +kernel
theorem dX12_readLast_37 : decode cX12_readLast 37 = .ok (.aload_n 0, 1) := by decide +kernel
theorem dX12_readLast_38 : decode cX12_readLast 38 = .ok (.getfield 123, 3) := by decide +kernel
theorem dX12_readLast_41 : decode cX12_readLast 41 = .ok (.iadd, 1) := by decide +kernel
theorem dX12_readLast_42 : decode cX12_readLast 42 = .ok (.sipush 200, 3) := by decide +kernel
theorem dX12_readLast_45 : decode cX12_readLast 45 = .ok (.if_icmp .le 9, 3) := by decide +kernel
theorem dX12_readLast_48 : decode cX12_readLast 48 = .ok (.aload_n 0, 1) := by decide +kernel
theorem dX12_readLast_49 : decode cX12_readLast 49 = .ok (.iconst 4, 1) := by decide +kernel
theorem dX12_readLast_50 : decode cX12_readLast 50 = .ok (.invokevirtual 152, 3) := by decide +kernel
theorem dX12_readLast_53 : decode cX12_readLast 53 = .ok (.ireturn, 1) := by decide +kernel
theorem dX12_readLast_54 : decode cX12_readLast 54 = .ok (.aload_n 0, 1) := by decide +kernel
theorem dX12_readLast_55 : decode cX12_readLast 55 = .ok (.aload_n 0, 1) := by decide +kernel
theorem dX12_readLast_56 : decode cX12_readLast 56 = .ok (.getfield 123, 3) := by decide +kernel
theorem dX12_readLast_59 : decode cX12_readLast 59 = .ok (.putfield 159, 3) := by decide +kernel
theorem dX12_readLast_62 : decode cX12_readLast 62 = .ok (.aload_n 0, 1) := by decide +kernel
theorem dX12_readLast_63 : decode cX12_readLast 63 = .ok (.invokevirtual 162, 3) := by decide +kernel
theorem dX12_readLast_66 : decode cX12_readLast 66 = .ok (.iconst 1, 1) := by decide +kernel
theorem dX12_readLast_67 : decode cX12_readLast 67 = .ok (.ireturn, 1) := by decide +kernel
theorem hcX12_readLast : yX12_readLast.cls ≠ "java/lang/invoke/MethodHandle" ∧ yX12_readLast.cls ≠ "java/lang/invoke/VarHandle" ∧ (parseMethodDescriptor yX12_readLast.desc).map (fun d => d.parameters.length) = some 0 := ⟨by decide +kernel, by decide +kernel, by decide +kernel⟩
def fX12_readLast (s0 : sg_M) (Q : Int → sg_M → Prop) : Prop := (((s0 64 7) = 3 → fX12_isIn (s0 64 8) 1 99 (fun u4 => ((u4 ≠ 0 → sg_R ((s0 64 43) + (s0 64 8)) ∧ ((((s0 64 43) + (s0 64 8)) ≤ 200 → ∀ s12 : sg_M, s12 = sg_up s0 64 13 (s0 64 8) → fX12_go s12 (fun s14 => Q 1 s14)) ∧ (¬ (((s0 64 43) + (s0 64 8)) ≤ 200) → fX12_bad s0 4 (fun u15 s17 => Q u15 s17)))) ∧ (u4 = 0 → fX12_bad s0 2 (fun u18 s20 => Q u18 s20))))) ∧ (¬ ((s0 64 7) = 3) → fX12_bad s0 1 (fun u21 s23 => Q u21 s23)))
set_option maxHeartbeats 4000000 in
set_option maxRecDepth 100000 in
theorem CX12_readLast {l : Launch} {G : sg_G} {La : sg_L} {s0 : sg_M} (hst : sg_St La) {Q : Int → sg_M → Prop} (hf : fX12_readLast s0 Q) : sg_C l G yX12_readLast cX12_readLast 1 (some .boolean) 3 0 0 La s0 [sg_r 64] (sg_HZ La Q) := by
  refine sg_body (by decide +kernel) (Nat.le_of_ble_eq_true rfl) ?_
  intro p e s m args below meth c F hnm
  unfold fX12_readLast at hf
  show sg_W p l e (sg_rm 3 0 0) s m args below meth c (MQ below (sg_Q (some .boolean) G La s.heap.size (sg_HZ La Q)) args s 0 0 (sg_A La s.heap.size)) 1 G (sg_A La s.heap.size) La s0 0 0 0 [(0, sg_r 64)] []
  refine gw_aload_n F 0 rfl rfl (by decide) dX12_readLast_0 ?_
  refine gw_get0 F (so_64 hst) (by decide) rfl sg_lay_RX12 (j := 7) (by decide) rfl (host := "") (.inl kw_963) dX12_readLast_1 (fun h1 => ?_)
  refine gw_iconst F dX12_readLast_4 ?_
  refine gw_icmp_eq F (tgt := 14) dX12_readLast_5 (by decide) h1 (by decide) (fun c2 => ?_) (fun c2 => ?_)
  · have hf := hf.1 c2
    refine gw_aload_n F 0 rfl rfl (by decide) dX12_readLast_14 ?_
    refine gw_get0 F (so_64 hst) (by decide) rfl sg_lay_RX12 (j := 8) (by decide) rfl (host := "") (.inl kw_964) dX12_readLast_15 (fun h3 => ?_)
    refine gw_iconst F dX12_readLast_18 ?_
    refine gw_bipush F rfl dX12_readLast_19 ?_
    refine gk_PZ F (gc_S F (S := []) (As := [sg_i (s0 64 8), sg_i 1, sg_i 99]) (CX12_isIn h3 (by decide) (by decide) hf) kw_1084 kw_103 kw_1082 kw_1083 hcX12_isIn ⟨by decide, by decide⟩ rfl rfl (Nat.le_of_ble_eq_true rfl) ⟨by decide, by decide⟩ dX12_readLast_21) (fun u4 h5 hf => ?_)
    refine gw_if_ne F (tgt := 33) dX12_readLast_24 (by decide) (sg_B_R h5) (fun c6 => ?_) (fun c6 => ?_)
    · have hf := hf.1 c6
      refine gw_aload_n F 0 rfl rfl (by decide) dX12_readLast_33 ?_
      refine gw_get0 F (so_64 hst) (by decide) rfl sg_lay_RX12 (j := 43) (by decide) rfl (host := "") (.inl kw_999) dX12_readLast_34 (fun h7 => ?_)
      refine gw_aload_n F 0 rfl rfl (by decide) dX12_readLast_37 ?_
      refine gw_get0 F (so_64 hst) (by decide) rfl sg_lay_RX12 (j := 8) (by decide) rfl (host := "") (.inl kw_964) dX12_readLast_38 (fun h8 => ?_)
      refine gw_iadd F rfl dX12_readLast_41 ?_
      refine gw_sipush F rfl dX12_readLast_42 ?_
      obtain ⟨g9, hf⟩ := hf
      refine gw_icmp_le F (tgt := 54) dX12_readLast_45 (by decide) g9 (by decide) (fun c10 => ?_) (fun c10 => ?_)
      · have hf := hf.1 c10
        refine gw_aload_n F 0 rfl rfl (by decide) dX12_readLast_54 ?_
        refine gw_aload_n F 0 rfl rfl (by decide) dX12_readLast_55 ?_
        refine gw_get0 F (so_64 hst) (by decide) rfl sg_lay_RX12 (j := 8) (by decide) rfl (host := "") (.inl kw_964) dX12_readLast_56 (fun h11 => ?_)
        obtain ⟨s12, e13⟩ : ∃ z : sg_M, z = sg_up s0 64 13 (s0 64 8) := ⟨_, rfl⟩
        have hf := hf s12 e13
        refine gw_put0 F (so_64 hst) (by decide) rfl sg_lay_RX12 (j := 13) (by decide) h11 e13 tyX12_ok nmX12 rfl (tyX12_ok 13 (by decide)) rfl (host := "") (.inl kw_969) dX12_readLast_59 ?_
        refine gw_aload_n F 0 rfl rfl (by decide) dX12_readLast_62 ?_
        refine gk_HV F (gc_V F (S := []) (As := []) (T := TX12) (N := 62) (CX12_go hst hf) (so_64 hst) (by decide) rfl kw_1049 kw_103 kw_1047 kw_1048 kw_43 hcX12_go ⟨by decide, by decide⟩ rfl rfl (Nat.le_of_ble_eq_true rfl) ⟨by decide, by decide⟩ dX12_readLast_63) (fun s14 hf => ?_)
        refine gw_iconst F dX12_readLast_66 ?_
        exact gr_HZ F (by decide) hf (by decide) (by decide) dX12_readLast_67
      · have hf := hf.2 c10
        refine gw_aload_n F 0 rfl rfl (by decide) dX12_readLast_48 ?_
        refine gw_iconst F dX12_readLast_49 ?_
        refine gk_HZ F (gc_V F (S := []) (As := [sg_i 4]) (T := TX12) (N := 62) (CX12_bad hst (by decide) hf) (so_64 hst) (by decide) rfl kw_1078 kw_103 kw_1076 kw_1077 kw_47 hcX12_bad ⟨by decide, by decide⟩ rfl rfl (Nat.le_of_ble_eq_true rfl) ⟨by decide, by decide⟩ dX12_readLast_50) (fun u15 s17 h16 hf => ?_)
        exact gr_HZ F h16 hf (by decide) (by decide) dX12_readLast_53
    · have hf := hf.2 c6
      refine gw_aload_n F 0 rfl rfl (by decide) dX12_readLast_27 ?_
      refine gw_iconst F dX12_readLast_28 ?_
      refine gk_HZ F (gc_V F (S := []) (As := [sg_i 2]) (T := TX12) (N := 62) (CX12_bad hst (by decide) hf) (so_64 hst) (by decide) rfl kw_1078 kw_103 kw_1076 kw_1077 kw_47 hcX12_bad ⟨by decide, by decide⟩ rfl rfl (Nat.le_of_ble_eq_true rfl) ⟨by decide, by decide⟩ dX12_readLast_29) (fun u18 s20 h19 hf => ?_)
      exact gr_HZ F h19 hf (by decide) (by decide) dX12_readLast_32
  · have hf := hf.2 c2
    refine gw_aload_n F 0 rfl rfl (by decide) dX12_readLast_8 ?_
    refine gw_iconst F dX12_readLast_9 ?_
    refine gk_HZ F (gc_V F (S := []) (As := [sg_i 1]) (T := TX12) (N := 62) (CX12_bad hst (by decide) hf) (so_64 hst) (by decide) rfl kw_1078 kw_103 kw_1076 kw_1077 kw_47 hcX12_bad ⟨by decide, by decide⟩ rfl rfl (Nat.le_of_ble_eq_true rfl) ⟨by decide, by decide⟩ dX12_readLast_10) (fun u21 s23 h22 hf => ?_)
    exact gr_HZ F h22 hf (by decide) (by decide) dX12_readLast_13

theorem dX12_isBend_0 : decode cX12_isBend 0 = .ok (.iload_n 0, 1) := by decide +kernel
theorem dX12_isBend_1 : decode cX12_isBend 1 = .ok (.sipush (-9999), 3) := by decide +kernel
theorem dX12_isBend_4 : decode cX12_isBend 4 = .ok (.sipush 9999, 3) := by decide +kernel
theorem dX12_isBend_7 : decode cX12_isBend 7 = .ok (.invokestatic 155, 3) := by decide +kernel
theorem dX12_isBend_10 : decode cX12_isBend 10 = .ok (.ifCond .eq 20, 3) := by decide +kernel
theorem dX12_isBend_13 : decode cX12_isBend 13 = .ok (.iload_n 1, 1) := by decide +kernel
theorem dX12_isBend_14 : decode cX12_isBend 14 = .ok (.sipush (-9999), 3) := by decide +kernel
theorem dX12_isBend_17 : decode cX12_isBend 17 = .ok (.sipush 9999, 3) := by decide +kernel
theorem dX12_isBend_20 : decode cX12_isBend 20 = .ok (.invokestatic 155, 3) := by decide +kernel
theorem dX12_isBend_23 : decode cX12_isBend 23 = .ok (.ifCond .eq 7, 3) := by decide +kernel
theorem dX12_isBend_26 : decode cX12_isBend 26 = .ok (.iconst 1, 1) := by decide +kernel
theorem dX12_isBend_27 : decode cX12_isBend 27 = .ok (.goto 4, 3) := by decide +kernel
theorem dX12_isBend_30 : decode cX12_isBend 30 = .ok (.iconst 0, 1) := by decide +kernel
theorem dX12_isBend_31 : decode cX12_isBend 31 = .ok (.ireturn, 1) := by decide +kernel
theorem hcX12_isBend : yX12_isBend.cls ≠ "java/lang/invoke/MethodHandle" ∧ yX12_isBend.cls ≠ "java/lang/invoke/VarHandle" ∧ (parseMethodDescriptor yX12_isBend.desc).map (fun d => d.parameters.length) = some 2 := ⟨by decide +kernel, by decide +kernel, by decide +kernel⟩
def fX12_isBend (x0 : Int) (x1 : Int) (Q : Int → Prop) : Prop := fX12_isIn x0 (-9999) 9999 (fun u1 => ((u1 = 0 → Q 0) ∧ (¬ (u1 = 0) → fX12_isIn x1 (-9999) 9999 (fun u4 => ((u4 = 0 → Q 0) ∧ (¬ (u4 = 0) → Q 1))))))
set_option maxHeartbeats 4000000 in
set_option maxRecDepth 100000 in
theorem CX12_isBend {l : Launch} {G : sg_G} {La : sg_L} {s0 : sg_M} {x0 : Int} (r0 : sg_R x0) {x1 : Int} (r1 : sg_R x1) {Q : Int → Prop} (hf : fX12_isBend x0 x1 Q) : sg_C l G yX12_isBend cX12_isBend 2 (some .boolean) 2 0 0 La s0 [sg_i x0, sg_i x1] (sg_PZ La s0 Q) := by
  refine sg_body (by decide +kernel) (Nat.le_of_ble_eq_true rfl) ?_
  intro p e s m args below meth c F hnm
  unfold fX12_isBend at hf
  show sg_W p l e (sg_rm 2 0 0) s m args below meth c (MQ below (sg_Q (some .boolean) G La s.heap.size (sg_PZ La s0 Q)) args s 0 0 (sg_A La s.heap.size)) 2 G (sg_A La s.heap.size) La s0 0 0 0 [(0, sg_i x0), (1, sg_i x1)] []
  refine gw_iload_n F 0 rfl rfl dX12_isBend_0 ?_
  refine gw_sipush F rfl dX12_isBend_1 ?_
  refine gw_sipush F rfl dX12_isBend_4 ?_
  refine gk_PZ F (gc_S F (S := []) (As := [sg_i x0, sg_i (-9999), sg_i 9999]) (CX12_isIn r0 (by decide) (by decide) hf) kw_1084 kw_103 kw_1082 kw_1083 hcX12_isIn ⟨by decide, by decide⟩ rfl rfl (Nat.le_of_ble_eq_true rfl) ⟨by decide, by decide⟩ dX12_isBend_7) (fun u1 h2 hf => ?_)
  refine gw_if_eq F (tgt := 30) dX12_isBend_10 (by decide) (sg_B_R h2) (fun c3 => ?_) (fun c3 => ?_)
  · have hf := hf.1 c3
    refine gw_iconst F dX12_isBend_30 ?_
    exact gr_PZ F (by decide) hf (by decide) (by decide) dX12_isBend_31
  · have hf := hf.2 c3
    refine gw_iload_n F 1 rfl rfl dX12_isBend_13 ?_
    refine gw_sipush F rfl dX12_isBend_14 ?_
    refine gw_sipush F rfl dX12_isBend_17 ?_
    refine gk_PZ F (gc_S F (S := []) (As := [sg_i x1, sg_i (-9999), sg_i 9999]) (CX12_isIn r1 (by decide) (by decide) hf) kw_1084 kw_103 kw_1082 kw_1083 hcX12_isIn ⟨by decide, by decide⟩ rfl rfl (Nat.le_of_ble_eq_true rfl) ⟨by decide, by decide⟩ dX12_isBend_20) (fun u4 h5 hf => ?_)
    refine gw_if_eq F (tgt := 30) dX12_isBend_23 (by decide) (sg_B_R h5) (fun c6 => ?_) (fun c6 => ?_)
    · have hf := hf.1 c6
      refine gw_iconst F dX12_isBend_30 ?_
      exact gr_PZ F (by decide) hf (by decide) (by decide) dX12_isBend_31
    · have hf := hf.2 c6
      refine gw_iconst F dX12_isBend_26 ?_
      refine gw_goto F (tgt := 31) dX12_isBend_27 (by decide) ?_
      exact gr_PZ F (by decide) hf (by decide) (by decide) dX12_isBend_31

theorem dX12_strengthAt_0 : decode cX12_strengthAt 0 = .ok (.iload_n 1, 1) := by decide +kernel
theorem dX12_strengthAt_1 : decode cX12_strengthAt 1 = .ok (.aload_n 0, 1) := by decide +kernel
theorem dX12_strengthAt_2 : decode cX12_strengthAt 2 = .ok (.getfield 239, 3) := by decide +kernel
theorem dX12_strengthAt_5 : decode cX12_strengthAt 5 = .ok (.if_icmp .lt 11, 3) := by decide +kernel
theorem dX12_strengthAt_8 : decode cX12_strengthAt 8 = .ok (.iload_n 1, 1) := by decide +kernel
theorem dX12_strengthAt_9 : decode cX12_strengthAt 9 = .ok (.aload_n 0, 1) := by decide +kernel
theorem dX12_strengthAt_10 : decode cX12_strengthAt 10 = .ok (.getfield 242, 3) := by decide +kernel
theorem dX12_strengthAt_13 : decode cX12_strengthAt 13 = .ok (.if_icmp .le 5, 3) := by decide +kernel
theorem dX12_strengthAt_16 : decode cX12_strengthAt 16 = .ok (.iconst 0, 1) := by decide +kernel
theorem dX12_strengthAt_17 : decode cX12_strengthAt 17 = .ok (.ireturn, 1) := by decide +kernel
theorem dX12_strengthAt_18 : decode cX12_strengthAt 18 = .ok (.iload_n 2, 1) := by decide +kernel
theorem dX12_strengthAt_19 : decode cX12_strengthAt 19 = .ok (.iload_n 2, 1) := by decide +kernel
theorem dX12_strengthAt_20 : decode cX12_strengthAt 20 = .ok (.imul, 1) := by decide +kernel
theorem dX12_strengthAt_21 : decode cX12_strengthAt 21 = .ok (.aload_n 0, 1) := by decide +kernel
theorem dX12_strengthAt_22 : decode cX12_strengthAt 22 = .ok (.getfield 35, 3) := by decide +kernel
theorem dX12_strengthAt_25 : decode cX12_strengthAt 25 = .ok (.iload_n 1, 1) := by decide +kernel
theorem dX12_strengthAt_26 : decode cX12_strengthAt 26 = .ok (.iaload, 1) := by decide +kernel
theorem dX12_strengthAt_27 : decode cX12_strengthAt 27 = .ok (.isub, 1) := by decide +kernel
theorem dX12_strengthAt_28 : decode cX12_strengthAt 28 = .ok (.invokestatic 245, 3) := by decide +kernel
theorem dX12_strengthAt_31 : decode cX12_strengthAt 31 = .ok (.iconst 2, 1) := by decide +kernel
theorem dX12_strengthAt_32 : decode cX12_strengthAt 32 = .ok (.idiv, 1) := by decide +kernel
theorem dX12_strengthAt_33 : decode cX12_strengthAt 33 = .ok (.istore_n 3, 1) := by decide +kernel
theorem dX12_strengthAt_34 : decode cX12_strengthAt 34 = .ok (.aload_n 0, 1) := by decide +kernel
theorem dX12_strengthAt_35 : decode cX12_strengthAt 35 = .ok (.getfield 239, 3) := by decide +kernel
theorem dX12_strengthAt_38 : decode cX12_strengthAt 38 = .ok (.istore 4, 2) := by decide +kernel
theorem dX12_strengthAt_40 : decode cX12_strengthAt 40 = .ok (.iload 4, 2) := by decide +kernel
theorem dX12_strengthAt_42 : decode cX12_strengthAt 42 = .ok (.iload_n 1, 1) := by decide +kernel
theorem dX12_strengthAt_43 : decode cX12_strengthAt 43 = .ok (.if_icmp .ge 26, 3) := by decide +kernel
theorem dX12_strengthAt_46 : decode cX12_strengthAt 46 = .ok (.iload_n 3, 1) := by decide +kernel
theorem dX12_strengthAt_47 : decode cX12_strengthAt 47 = .ok (.iload_n 2, 1) := by decide +kernel
theorem dX12_strengthAt_48 : decode cX12_strengthAt 48 = .ok (.iload_n 2, 1) := by decide +kernel
theorem dX12_strengthAt_49 : decode cX12_strengthAt 49 = .ok (.imul, 1) := by decide +kernel
theorem dX12_strengthAt_50 : decode cX12_strengthAt 50 = .ok (.aload_n 0, 1) := by decide +kernel
theorem dX12_strengthAt_51 : decode cX12_strengthAt 51 = .ok (.getfield 35, 3) := by decide +kernel
theorem dX12_strengthAt_54 : decode cX12_strengthAt 54 = .ok (.iload 4, 2) := by decide +kernel
theorem dX12_strengthAt_56 : decode cX12_strengthAt 56 = .ok (.iaload, 1) := by decide +kernel
theorem dX12_strengthAt_57 : decode cX12_strengthAt 57 = .ok (.isub, 1) := by decide +kernel
theorem dX12_strengthAt_58 : decode cX12_strengthAt 58 = .ok (.invokestatic 245, 3) := by decide +kernel
theorem dX12_strengthAt_61 : decode cX12_strengthAt 61 = .ok (.iadd, 1) := by decide +kernel
theorem dX12_strengthAt_62 : decode cX12_strengthAt 62 = .ok (.istore_n 3, 1) := by decide +kernel
theorem dX12_strengthAt_63 : decode cX12_strengthAt 63 = .ok (.iinc 4 1, 3) := by decide +kernel
theorem dX12_strengthAt_66 : decode cX12_strengthAt 66 = .ok (.goto (-26), 3) := by decide +kernel
theorem dX12_strengthAt_69 : decode cX12_strengthAt 69 = .ok (.iload_n 3, 1) := by decide +kernel
theorem dX12_strengthAt_70 : decode cX12_strengthAt 70 = .ok (.iconst 2, 1) := by decide +kernel
theorem dX12_strengthAt_71 : decode cX12_strengthAt 71 = .ok (.aload_n 0, 1) := by decide +kernel
theorem dX12_strengthAt_72 : decode cX12_strengthAt 72 = .ok (.getfield 215, 3) := by decide +kernel
theorem dX12_strengthAt_75 : decode cX12_strengthAt 75 = .ok (.imul, 1) := by decide +kernel
theorem dX12_strengthAt_76 : decode cX12_strengthAt 76 = .ok (.irem, 1) := by decide +kernel
theorem dX12_strengthAt_77 : decode cX12_strengthAt 77 = .ok (.istore 4, 2) := by decide +kernel
theorem dX12_strengthAt_79 : decode cX12_strengthAt 79 = .ok (.iload 4, 2) := by decide +kernel
theorem dX12_strengthAt_81 : decode cX12_strengthAt 81 = .ok (.iconst 2, 1) := by decide +kernel
theorem dX12_strengthAt_82 : decode cX12_strengthAt 82 = .ok (.aload_n 0, 1) := by decide +kernel
theorem dX12_strengthAt_83 : decode cX12_strengthAt 83 = .ok (.getfield 215, 3) := by decide +kernel
theorem dX12_strengthAt_86 : decode cX12_strengthAt 86 = .ok (.imul, 1) := by decide +kernel
theorem dX12_strengthAt_87 : decode cX12_strengthAt 87 = .ok (.iload 4, 2) := by decide +kernel
theorem dX12_strengthAt_89 : decode cX12_strengthAt 89 = .ok (.isub, 1) := by decide +kernel
theorem dX12_strengthAt_90 : decode cX12_strengthAt 90 = .ok (.if_icmp .ge 8, 3) := by decide +kernel
theorem dX12_strengthAt_93 : decode cX12_strengthAt 93 = .ok (.iload 4, 2) := by decide +kernel
theorem dX12_strengthAt_95 : decode cX12_strengthAt 95 = .ok (.goto 12, 3) := by decide +kernel
theorem dX12_strengthAt_98 : decode cX12_strengthAt 98 = .ok (.iconst 2, 1) := by decide +kernel
theorem dX12_strengthAt_99 : decode cX12_strengthAt 99 = .ok (.aload_n 0, 1) := by decide +kernel
theorem dX12_strengthAt_100 : decode cX12_strengthAt 100 = .ok (.getfield 215, 3) := by decide +kernel
theorem dX12_strengthAt_103 : decode cX12_strengthAt 103 = .ok (.imul, 1) := by decide +kernel
theorem dX12_strengthAt_104 : decode cX12_strengthAt 104 = .ok (.iload 4, 2) := by decide +kernel
theorem dX12_strengthAt_106 : decode cX12_strengthAt 106 = .ok (.isub, 1) := by decide +kernel
theorem dX12_strengthAt_107 : decode cX12_strengthAt 107 = .ok (.ireturn, 1) := by decide +kernel
theorem hcX12_strengthAt : yX12_strengthAt.cls ≠ "java/lang/invoke/MethodHandle" ∧ yX12_strengthAt.cls ≠ "java/lang/invoke/VarHandle" ∧ (parseMethodDescriptor yX12_strengthAt.desc).map (fun d => d.parameters.length) = some 2 := ⟨by decide +kernel, by decide +kernel, by decide +kernel⟩
def fX12_strengthAt_L40 (s0 : sg_M) (x1 : Int) (x2 : Int) (k69 : Int → Prop) : Nat → Int → Int → Prop
  | 0, _, _ => False
  | n_40 + 1, x3_40, x4_40 => ((x1 ≤ x4_40 → k69 x3_40) ∧ (¬ (x1 ≤ x4_40) → (0 ≤ x4_40 ∧ x4_40 < 60) ∧ sg_R ((x2 * x2) - (s0 73 x4_40)) ∧ fX12_root ((x2 * x2) - (s0 73 x4_40)) (fun u17 => sg_R (x3_40 + u17) ∧ sg_R (x4_40 + 1) ∧ (fX12_strengthAt_L40 s0 x1 x2 k69 n_40) (x3_40 + u17) (x4_40 + 1))))
def fX12_strengthAt (s0 : sg_M) (x1 : Int) (x2 : Int) (Q : Int → Prop) : Prop := ((x1 < (s0 64 32) → Q 0) ∧ (¬ (x1 < (s0 64 32)) → ((x1 ≤ (s0 64 33) → (0 ≤ x1 ∧ x1 < 60) ∧ sg_R ((x2 * x2) - (s0 73 x1)) ∧ fX12_root ((x2 * x2) - (s0 73 x1)) (fun u9 => sg_R (Int.tdiv u9 2) ∧ (∃ n22 : Nat, fX12_strengthAt_L40 s0 x1 x2 (fun x3_69e40 => sg_R (2 * (s0 64 28)) ∧ ((2 * (s0 64 28)) ≠ 0) ∧ ∀ v26 : Int, v26 = (Int.tmod x3_69e40 (2 * (s0 64 28))) → sg_R v26 ∧ sg_R ((2 * (s0 64 28)) - v26) ∧ ((((2 * (s0 64 28)) - v26) ≤ v26 → sg_R ((2 * (s0 64 28)) - v26) ∧ Q ((2 * (s0 64 28)) - v26)) ∧ (¬ (((2 * (s0 64 28)) - v26) ≤ v26) → Q v26))) n22 (Int.tdiv u9 2) (s0 64 32)))) ∧ (¬ (x1 ≤ (s0 64 33)) → Q 0))))
set_option maxHeartbeats 4000000 in
set_option maxRecDepth 100000 in
theorem CX12_strengthAt {l : Launch} {G : sg_G} {La : sg_L} {s0 : sg_M} (hst : sg_St La) {x1 : Int} (r1 : sg_R x1) {x2 : Int} (r2 : sg_R x2) {Q : Int → Prop} (hf : fX12_strengthAt s0 x1 x2 Q) : sg_C l G yX12_strengthAt cX12_strengthAt 5 (some .int) 2 0 0 La s0 [sg_r 64, sg_i x1, sg_i x2] (sg_PI La s0 Q) := by
  refine sg_body (by decide +kernel) (Nat.le_of_ble_eq_true rfl) ?_
  intro p e s m args below meth c F hnm
  unfold fX12_strengthAt at hf
  show sg_W p l e (sg_rm 2 0 0) s m args below meth c (MQ below (sg_Q (some .int) G La s.heap.size (sg_PI La s0 Q)) args s 0 0 (sg_A La s.heap.size)) 5 G (sg_A La s.heap.size) La s0 0 0 0 [(0, sg_r 64), (1, sg_i x1), (2, sg_i x2)] []
  refine gw_iload_n F 1 rfl rfl dX12_strengthAt_0 ?_
  refine gw_aload_n F 0 rfl rfl (by decide) dX12_strengthAt_1 ?_
  refine gw_get0 F (so_64 hst) (by decide) rfl sg_lay_RX12 (j := 32) (by decide) rfl (host := "") (.inl kw_988) dX12_strengthAt_2 (fun h1 => ?_)
  refine gw_icmp_lt F (tgt := 16) dX12_strengthAt_5 (by decide) r1 h1 (fun c2 => ?_) (fun c2 => ?_)
  · have hf := hf.1 c2
    refine gw_iconst F dX12_strengthAt_16 ?_
    exact gr_PI F (by decide) hf (by decide) (by decide) dX12_strengthAt_17
  · have hf := hf.2 c2
    refine gw_iload_n F 1 rfl rfl dX12_strengthAt_8 ?_
    refine gw_aload_n F 0 rfl rfl (by decide) dX12_strengthAt_9 ?_
    refine gw_get0 F (so_64 hst) (by decide) rfl sg_lay_RX12 (j := 33) (by decide) rfl (host := "") (.inl kw_989) dX12_strengthAt_10 (fun h3 => ?_)
    refine gw_icmp_le F (tgt := 18) dX12_strengthAt_13 (by decide) r1 h3 (fun c4 => ?_) (fun c4 => ?_)
    · have hf := hf.1 c4
      refine gw_iload_n F 2 rfl rfl dX12_strengthAt_18 ?_
      refine gw_iload_n F 2 rfl rfl dX12_strengthAt_19 ?_
      refine gw_imul F rfl dX12_strengthAt_20 ?_
      refine gw_aload_n F 0 rfl rfl (by decide) dX12_strengthAt_21 ?_
      refine gw_get7 F (so_64 hst) (by decide) rfl sg_lay_RX12 (j := 23) (by decide) (o1 := 73) (by first | rfl | omega) rfl (host := "") (.inl kw_979) dX12_strengthAt_22 (fun h5 => ?_)
      refine gw_iload_n F 1 rfl rfl dX12_strengthAt_25 ?_
      obtain ⟨⟨b60, b61⟩, hf⟩ := hf
      refine gw_iald F (sa_73 hst) b60 b61 dX12_strengthAt_26 (fun h7 => ?_)
      refine gw_isub F rfl dX12_strengthAt_27 ?_
      obtain ⟨g8, hf⟩ := hf
      refine gk_PI F (gc_S F (S := []) (As := [sg_i ((x2 * x2) - (s0 73 x1))]) (CX12_root g8 hf) kw_1145 kw_103 kw_1143 kw_1144 hcX12_root ⟨by decide, by decide⟩ rfl rfl (Nat.le_of_ble_eq_true rfl) ⟨by decide, by decide⟩ dX12_strengthAt_28) (fun u9 h10 hf => ?_)
      refine gw_iconst F dX12_strengthAt_31 ?_
      refine gw_idiv F h10 (by decide) (by decide) rfl dX12_strengthAt_32 ?_
      refine gw_istore_n F rfl (by decide) rfl dX12_strengthAt_33 ?_
      refine gw_aload_n F 1 rfl rfl (by decide) dX12_strengthAt_34 ?_
      refine gw_get0 F (so_64 hst) (by decide) rfl sg_lay_RX12 (j := 32) (by decide) rfl (host := "") (.inl kw_988) dX12_strengthAt_35 (fun h11 => ?_)
      refine gw_istore F (by decide) rfl dX12_strengthAt_38 ?_
      have L40 : ∀ (k69 : Int → Prop) (hk69 : ∀ (x3_69e40 : Int), sg_R x3_69e40 → k69 x3_69e40 → sg_W p l e (sg_rm 2 0 0) s m args below meth c (MQ below (sg_Q (some .int) G La s.heap.size (sg_PI La s0 Q)) args s 0 0 (sg_A La s.heap.size)) 5 G (sg_A La s.heap.size) La s0 0 0 69 [(0, sg_r 64), (3, sg_i x3_69e40)] []), ∀ n_40 : Nat, ∀ (x3_40 : Int) (x4_40 : Int), sg_R x3_40 → sg_R x4_40 → fX12_strengthAt_L40 s0 x1 x2 k69 n_40 x3_40 x4_40 → sg_W p l e (sg_rm 2 0 0) s m args below meth c (MQ below (sg_Q (some .int) G La s.heap.size (sg_PI La s0 Q)) args s 0 0 (sg_A La s.heap.size)) 5 G (sg_A La s.heap.size) La s0 0 0 40 [(0, sg_r 64), (1, sg_i x1), (2, sg_i x2), (3, sg_i x3_40), (4, sg_i x4_40)] [] := by
        intro k69 hk69 n_40
        induction n_40 with
        | zero => intro x3_40 x4_40 r3_40 r4_40 hf; exact hf.elim
        | succ n_40 ih =>
          intro x3_40 x4_40 r3_40 r4_40 hf
          unfold fX12_strengthAt_L40 at hf
          refine gw_iload F 4 rfl dX12_strengthAt_40 ?_
          refine gw_iload_n F 1 rfl rfl dX12_strengthAt_42 ?_
          refine gw_icmp_ge F (tgt := 69) dX12_strengthAt_43 (by decide) r4_40 r1 (fun c12 => ?_) (fun c12 => ?_)
          · have hf := hf.1 c12
            refine gw_sub [0, 3] rfl ?_
            exact hk69 x3_40 r3_40 hf
          · have hf := hf.2 c12
            refine gw_iload_n F 3 rfl rfl dX12_strengthAt_46 ?_
            refine gw_iload_n F 2 rfl rfl dX12_strengthAt_47 ?_
            refine gw_iload_n F 2 rfl rfl dX12_strengthAt_48 ?_
            refine gw_imul F rfl dX12_strengthAt_49 ?_
            refine gw_aload_n F 0 rfl rfl (by decide) dX12_strengthAt_50 ?_
            refine gw_get7 F (so_64 hst) (by decide) rfl sg_lay_RX12 (j := 23) (by decide) (o1 := 73) (by first | rfl | omega) rfl (host := "") (.inl kw_979) dX12_strengthAt_51 (fun h13 => ?_)
            refine gw_iload F 4 rfl dX12_strengthAt_54 ?_
            obtain ⟨⟨b140, b141⟩, hf⟩ := hf
            refine gw_iald F (sa_73 hst) b140 b141 dX12_strengthAt_56 (fun h15 => ?_)
            refine gw_isub F rfl dX12_strengthAt_57 ?_
            obtain ⟨g16, hf⟩ := hf
            refine gk_PI F (gc_S F (S := [sg_i x3_40]) (As := [sg_i ((x2 * x2) - (s0 73 x4_40))]) (CX12_root g16 hf) kw_1145 kw_103 kw_1143 kw_1144 hcX12_root ⟨by decide, by decide⟩ rfl rfl (Nat.le_of_ble_eq_true rfl) ⟨by decide, by decide⟩ dX12_strengthAt_58) (fun u17 h18 hf => ?_)
            refine gw_iadd F rfl dX12_strengthAt_61 ?_
            refine gw_istore_n F rfl (by decide) rfl dX12_strengthAt_62 ?_
            refine gw_iinc F (z := (x4_40 + 1)) 4 rfl (by omega) (by decide) rfl dX12_strengthAt_63 ?_
            refine gw_goto F (tgt := 40) dX12_strengthAt_66 (by decide) ?_
            obtain ⟨g19, hf⟩ := hf
            obtain ⟨g20, hf⟩ := hf
            refine gw_sub [2, 3, 4, 1, 0] rfl ?_
            exact ih (x3_40 + u17) (x4_40 + 1) g19 g20 hf
      obtain ⟨g21, hf⟩ := hf
      obtain ⟨n22, hf⟩ := hf
      refine gw_sub [2, 3, 4, 1, 0] rfl ?_
      refine L40 _ (fun x3_69e40 r3_69e40 hf => ?_) n22 (Int.tdiv u9 2) (s0 64 32) g21 h11 hf
      refine gw_iload_n F 1 rfl rfl dX12_strengthAt_69 ?_
      refine gw_iconst F dX12_strengthAt_70 ?_
      refine gw_aload_n F 0 rfl rfl (by decide) dX12_strengthAt_71 ?_
      refine gw_get0 F (so_64 hst) (by decide) rfl sg_lay_RX12 (j := 28) (by decide) rfl (host := "") (.inl kw_984) dX12_strengthAt_72 (fun h23 => ?_)
      refine gw_imul F rfl dX12_strengthAt_75 ?_
      obtain ⟨g24, hf⟩ := hf
      obtain ⟨g25, hf⟩ := hf
      refine gw_irem F r3_69e40 g24 g25 rfl dX12_strengthAt_76 ?_
      obtain ⟨v26, e27⟩ : ∃ z : Int, z = (Int.tmod x3_69e40 (2 * (s0 64 28))) := ⟨_, rfl⟩
      obtain ⟨g28, hf⟩ := hf v26 e27
      refine gw_nmI e27 ?_
      refine gw_istore F (by decide) rfl dX12_strengthAt_77 ?_
      refine gw_iload F 0 rfl dX12_strengthAt_79 ?_
      refine gw_iconst F dX12_strengthAt_81 ?_
      refine gw_aload_n F 1 rfl rfl (by decide) dX12_strengthAt_82 ?_
      refine gw_get0 F (so_64 hst) (by decide) rfl sg_lay_RX12 (j := 28) (by decide) rfl (host := "") (.inl kw_984) dX12_strengthAt_83 (fun h29 => ?_)
      refine gw_imul F rfl dX12_strengthAt_86 ?_
      refine gw_iload F 0 rfl dX12_strengthAt_87 ?_
      refine gw_isub F rfl dX12_strengthAt_89 ?_
      obtain ⟨g30, hf⟩ := hf
      refine gw_icmp_ge F (tgt := 98) dX12_strengthAt_90 (by decide) g28 g30 (fun c31 => ?_) (fun c31 => ?_)
      · have hf := hf.1 c31
        refine gw_iconst F dX12_strengthAt_98 ?_
        refine gw_aload_n F 1 rfl rfl (by decide) dX12_strengthAt_99 ?_
        refine gw_get0 F (so_64 hst) (by decide) rfl sg_lay_RX12 (j := 28) (by decide) rfl (host := "") (.inl kw_984) dX12_strengthAt_100 (fun h32 => ?_)
        refine gw_imul F rfl dX12_strengthAt_103 ?_
        refine gw_iload F 0 rfl dX12_strengthAt_104 ?_
        refine gw_isub F rfl dX12_strengthAt_106 ?_
        obtain ⟨g33, hf⟩ := hf
        exact gr_PI F g33 hf (by decide) (by decide) dX12_strengthAt_107
      · have hf := hf.2 c31
        refine gw_iload F 0 rfl dX12_strengthAt_93 ?_
        refine gw_goto F (tgt := 107) dX12_strengthAt_95 (by decide) ?_
        exact gr_PI F g28 hf (by decide) (by decide) dX12_strengthAt_107
    · have hf := hf.2 c4
      refine gw_iconst F dX12_strengthAt_16 ?_
      exact gr_PI F (by decide) hf (by decide) (by decide) dX12_strengthAt_17

theorem dX12_where_0 : decode cX12_where 0 = .ok (.aload_n 0, 1) := by decide +kernel
theorem dX12_where_1 : decode cX12_where 1 = .ok (.iconst 0, 1) := by decide +kernel
theorem dX12_where_2 : decode cX12_where 2 = .ok (.putfield 84, 3) := by decide +kernel
theorem dX12_where_5 : decode cX12_where 5 = .ok (.aload_n 0, 1) := by decide +kernel
theorem dX12_where_6 : decode cX12_where 6 = .ok (.invokevirtual 175, 3) := by decide +kernel
theorem dX12_where_9 : decode cX12_where 9 = .ok (.iload_n 1, 1) := by decide +kernel
theorem dX12_where_10 : decode cX12_where 10 = .ok (.iload_n 2, 1) := by decide +kernel
theorem dX12_where_11 : decode cX12_where 11 = .ok (.invokestatic 232, 3) := by decide +kernel
theorem dX12_where_14 : decode cX12_where 14 = .ok (.ifCond .eq 27, 3) := by decide +kernel
theorem dX12_where_17 : decode cX12_where 17 = .ok (.iload 4, 2) := by decide +kernel
theorem dX12_where_19 : decode cX12_where 19 = .ok (.iconst 0, 1) := by decide +kernel
theorem dX12_where_20 : decode cX12_where 20 = .ok (.iconst 5, 1) := by decide +kernel
theorem dX12_where_21 : decode cX12_where 21 = .ok (.invokestatic 155, 3) := by decide +kernel
theorem dX12_where_24 : decode cX12_where 24 = .ok (.ifCond .eq 17, 3) := by decide +kernel
theorem dX12_where_27 : decode cX12_where 27 = .ok (.iload 5, 2) := by decide +kernel
theorem dX12_where_29 : decode cX12_where 29 = .ok (.iconst 0, 1) := by decide +kernel
theorem dX12_where_30 : decode cX12_where 30 = .ok (.iconst 5, 1) := by decide +kernel
theorem dX12_where_31 : decode cX12_where 31 = .ok (.invokestatic 155, 3) := by decide +kernel
theorem dX12_where_34 : decode cX12_where 34 = .ok (.ifCond .eq 7, 3) := by decide +kernel
theorem dX12_where_37 : decode cX12_where 37 = .ok (.iload_n 3, 1) := by decide +kernel
theorem dX12_where_38 : decode cX12_where 38 = .ok (.ifCond .ge 5, 3) := by decide +kernel
theorem dX12_where_41 : decode cX12_where 41 = .ok (.iconst (-1), 1) := by decide +kernel
theorem dX12_where_42 : decode cX12_where 42 = .ok (.ireturn, 1) := by decide +kernel
theorem dX12_where_43 : decode cX12_where 43 = .ok (.aload_n 0, 1) := by decide +kernel
theorem dX12_where_44 : decode cX12_where 44 = .ok (.iconst 0, 1) := by decide +kernel
theorem dX12_where_45 : decode cX12_where 45 = .ok (.iload_n 1, 1) := by decide +kernel
theorem dX12_where_46 : decode cX12_where 46 = .ok (.iload_n 2, 1) := by decide +kernel
theorem dX12_where_47 : decode cX12_where 47 = .ok (.iconst 0, 1) := by decide +kernel
theorem dX12_where_48 : decode cX12_where 48 = .ok (.iconst 0, 1) := by decide +kernel
theorem dX12_where_49 : decode cX12_where 49 = .ok (.invokevirtual 235, 3) := by decide +kernel
theorem dX12_where_52 : decode cX12_where 52 = .ok (.iload_n 3, 1) := by decide +kernel
theorem dX12_where_53 : decode cX12_where 53 = .ok (.aload_n 0, 1) := by decide +kernel
theorem dX12_where_54 : decode cX12_where 54 = .ok (.getfield 226, 3) := by decide +kernel
theorem dX12_where_57 : decode cX12_where 57 = .ok (.if_icmp .lt 5, 3) := by decide +kernel
theorem dX12_where_60 : decode cX12_where 60 = .ok (.iconst (-1), 1) := by decide +kernel
theorem dX12_where_61 : decode cX12_where 61 = .ok (.ireturn, 1) := by decide +kernel
theorem dX12_where_62 : decode cX12_where 62 = .ok (.aload_n 0, 1) := by decide +kernel
theorem dX12_where_63 : decode cX12_where 63 = .ok (.aload_n 0, 1) := by decide +kernel
theorem dX12_where_64 : decode cX12_where 64 = .ok (.getfield 41, 3) := by decide +kernel
theorem dX12_where_67 : decode cX12_where 67 = .ok (.iload_n 3, 1) := by decide +kernel
theorem dX12_where_68 : decode cX12_where 68 = .ok (.iaload, 1) := by decide +kernel
theorem dX12_where_69 : decode cX12_where 69 = .ok (.iload 5, 2) := by decide +kernel
theorem dX12_where_71 : decode cX12_where 71 = .ok (.invokevirtual 255, 3) := by decide +kernel
theorem dX12_where_74 : decode cX12_where 74 = .ok (.istore 6, 2) := by decide +kernel
theorem dX12_where_76 : decode cX12_where 76 = .ok (.iload 6, 2) := by decide +kernel
theorem dX12_where_78 : decode cX12_where 78 = .ok (.iconst (-1), 1) := by decide +kernel
theorem dX12_where_79 : decode cX12_where 79 = .ok (.if_icmp .ne 5, 3) := by decide +kernel
theorem dX12_where_82 : decode cX12_where 82 = .ok (.iconst (-1), 1) := by decide +kernel
theorem dX12_where_83 : decode cX12_where 83 = .ok (.ireturn, 1) := by decide +kernel
theorem dX12_where_84 : decode cX12_where 84 = .ok (.iconst 0, 1) := by decide +kernel
theorem dX12_where_85 : decode cX12_where 85 = .ok (.istore 7, 2) := by decide +kernel
theorem dX12_where_87 : decode cX12_where 87 = .ok (.iload 7, 2) := by decide +kernel
theorem dX12_where_89 : decode cX12_where 89 = .ok (.aload_n 0, 1) := by decide +kernel
theorem dX12_where_90 : decode cX12_where 90 = .ok (.getfield 212, 3) := by decide +kernel
theorem dX12_where_93 : decode cX12_where 93 = .ok (.if_icmp .ge 24, 3) := by decide +kernel
theorem dX12_where_96 : decode cX12_where 96 = .ok (.aload_n 0, 1) := by decide +kernel
theorem dX12_where_97 : decode cX12_where 97 = .ok (.getfield 53, 3) := by decide +kernel
theorem dX12_where_100 : decode cX12_where 100 = .ok (.iload 7, 2) := by decide +kernel
theorem dX12_where_102 : decode cX12_where 102 = .ok (.aload_n 0, 1) := by decide +kernel
theorem dX12_where_103 : decode cX12_where 103 = .ok (.iload 7, 2) := by decide +kernel
theorem dX12_where_105 : decode cX12_where 105 = .ok (.iload 6, 2) := by decide +kernel
theorem dX12_where_107 : decode cX12_where 107 = .ok (.invokevirtual 267, 3) := by decide +kernel
theorem dX12_where_110 : decode cX12_where 110 = .ok (.iastore, 1) := by decide +kernel
theorem dX12_where_111 : decode cX12_where 111 = .ok (.iinc 7 1, 3) := by decide +kernel
theorem dX12_where_114 : decode cX12_where 114 = .ok (.goto (-27), 3) := by decide +kernel
theorem dX12_where_117 : decode cX12_where 117 = .ok (.aload_n 0, 1) := by decide +kernel
theorem dX12_where_118 : decode cX12_where 118 = .ok (.aload_n 0, 1) := by decide +kernel
theorem dX12_where_119 : decode cX12_where 119 = .ok (.getfield 41, 3) := by decide +kernel
theorem dX12_where_122 : decode cX12_where 122 = .ok (.iload_n 3, 1) := by decide +kernel
theorem dX12_where_123 : decode cX12_where 123 = .ok (.iaload, 1) := by decide +kernel
theorem dX12_where_124 : decode cX12_where 124 = .ok (.iload 4, 2) := by decide +kernel
theorem dX12_where_126 : decode cX12_where 126 = .ok (.invokevirtual 255, 3) := by decide +kernel
theorem dX12_where_129 : decode cX12_where 129 = .ok (.istore 7, 2) := by decide +kernel
theorem dX12_where_131 : decode cX12_where 131 = .ok (.iload 7, 2) := by decide +kernel
theorem dX12_where_133 : decode cX12_where 133 = .ok (.iconst (-1), 1) := by decide +kernel
theorem dX12_where_134 : decode cX12_where 134 = .ok (.if_icmp .ne 5, 3) := by decide +kernel
theorem dX12_where_137 : decode cX12_where 137 = .ok (.iconst (-1), 1) := by decide +kernel
theorem dX12_where_138 : decode cX12_where 138 = .ok (.ireturn, 1) := by decide +kernel
theorem dX12_where_139 : decode cX12_where 139 = .ok (.iconst 0, 1) := by decide +kernel
theorem dX12_where_140 : decode cX12_where 140 = .ok (.istore 8, 2) := by decide +kernel
theorem dX12_where_142 : decode cX12_where 142 = .ok (.iconst 1, 1) := by decide +kernel
theorem dX12_where_143 : decode cX12_where 143 = .ok (.istore 9, 2) := by decide +kernel
theorem dX12_where_145 : decode cX12_where 145 = .ok (.iload 9, 2) := by decide +kernel
theorem dX12_where_147 : decode cX12_where 147 = .ok (.aload_n 0, 1) := by decide +kernel
theorem dX12_where_148 : decode cX12_where 148 = .ok (.getfield 212, 3) := by decide +kernel
theorem dX12_where_151 : decode cX12_where 151 = .ok (.if_icmp .ge 48, 3) := by decide +kernel
theorem dX12_where_154 : decode cX12_where 154 = .ok (.aload_n 0, 1) := by decide +kernel
theorem dX12_where_155 : decode cX12_where 155 = .ok (.iload 9, 2) := by decide +kernel
theorem dX12_where_157 : decode cX12_where 157 = .ok (.iload 7, 2) := by decide +kernel
theorem dX12_where_159 : decode cX12_where 159 = .ok (.invokevirtual 267, 3) := by decide +kernel
theorem dX12_where_162 : decode cX12_where 162 = .ok (.aload_n 0, 1) := by decide +kernel
theorem dX12_where_163 : decode cX12_where 163 = .ok (.getfield 53, 3) := by decide +kernel
theorem dX12_where_166 : decode cX12_where 166 = .ok (.iload 9, 2) := by decide +kernel
theorem dX12_where_168 : decode cX12_where 168 = .ok (.iaload, 1) := by decide +kernel
theorem dX12_where_169 : decode cX12_where 169 = .ok (.isub, 1) := by decide +kernel
theorem dX12_where_170 : decode cX12_where 170 = .ok (.aload_n 0, 1) := by decide +kernel
theorem dX12_where_171 : decode cX12_where 171 = .ok (.iload 8, 2) := by decide +kernel
theorem dX12_where_173 : decode cX12_where 173 = .ok (.iload 7, 2) := by decide +kernel
theorem dX12_where_175 : decode cX12_where 175 = .ok (.invokevirtual 267, 3) := by decide +kernel
theorem dX12_where_178 : decode cX12_where 178 = .ok (.aload_n 0, 1) := by decide +kernel
theorem dX12_where_179 : decode cX12_where 179 = .ok (.getfield 53, 3) := by decide +kernel
theorem dX12_where_182 : decode cX12_where 182 = .ok (.iload 8, 2) := by decide +kernel
theorem dX12_where_184 : decode cX12_where 184 = .ok (.iaload, 1) := by decide +kernel
theorem dX12_where_185 : decode cX12_where 185 = .ok (.isub, 1) := by decide +kernel
theorem dX12_where_186 : decode cX12_where 186 = .ok (.if_icmp .le 7, 3) := by decide +kernel
theorem dX12_where_189 : decode cX12_where 189 = .ok (.iload 9, 2) := by decide +kernel
theorem dX12_where_191 : decode cX12_where 191 = .ok (.istore 8, 2) := by decide +kernel
theorem dX12_where_193 : decode cX12_where 193 = .ok (.iinc 9 1, 3) := by decide +kernel
theorem dX12_where_196 : decode cX12_where 196 = .ok (.goto (-51), 3) := by decide +kernel
theorem dX12_where_199 : decode cX12_where 199 = .ok (.aload_n 0, 1) := by decide +kernel
theorem dX12_where_200 : decode cX12_where 200 = .ok (.aload_n 0, 1) := by decide +kernel
theorem dX12_where_201 : decode cX12_where 201 = .ok (.iload 8, 2) := by decide +kernel
theorem dX12_where_203 : decode cX12_where 203 = .ok (.iload 7, 2) := by decide +kernel
theorem dX12_where_205 : decode cX12_where 205 = .ok (.invokevirtual 267, 3) := by decide +kernel
theorem dX12_where_208 : decode cX12_where 208 = .ok (.aload_n 0, 1) := by decide +kernel
theorem dX12_where_209 : decode cX12_where 209 = .ok (.getfield 53, 3) := by decide +kernel
theorem dX12_where_212 : decode cX12_where 212 = .ok (.iload 8, 2) := by decide +kernel
theorem dX12_where_214 : decode cX12_where 214 = .ok (.iaload, 1) := by decide +kernel
theorem dX12_where_215 : decode cX12_where 215 = .ok (.isub, 1) := by decide +kernel
theorem dX12_where_216 : decode cX12_where 216 = .ok (.putfield 270, 3) := by decide +kernel
theorem dX12_where_219 : decode cX12_where 219 = .ok (.iload 8, 2) := by decide +kernel
theorem dX12_where_221 : decode cX12_where 221 = .ok (.ireturn, 1) := by decide +kernel
theorem hcX12_where : yX12_where.cls ≠ "java/lang/invoke/MethodHandle" ∧ yX12_where.cls ≠ "java/lang/invoke/VarHandle" ∧ (parseMethodDescriptor yX12_where.desc).map (fun d => d.parameters.length) = some 5 := ⟨by decide +kernel, by decide +kernel, by decide +kernel⟩
def fX12_where_L87 (u20 : Int) (k117 : sg_M → Prop) : Nat → sg_M → Int → Prop
  | 0, _, _ => False
  | n_87 + 1, s_87, x7_87 => (((s_87 64 27) ≤ x7_87 → k117 s_87) ∧ (¬ ((s_87 64 27) ≤ x7_87) → fX12_strengthAt s_87 x7_87 u20 (fun u27 => (0 ≤ x7_87 ∧ x7_87 < 60) ∧ ∀ s30 : sg_M, s30 = sg_up s_87 79 x7_87 u27 → sg_R (x7_87 + 1) ∧ (fX12_where_L87 u20 k117 n_87) s30 (x7_87 + 1))))
def fX12_where_j193 (x9_145 : Int) (k145 : Int → Int → Prop) (x8_193 : Int) : Prop := sg_R (x9_145 + 1) ∧ k145 x8_193 (x9_145 + 1)
def fX12_where_L145 (u37 : Int) (s39 : sg_M) (Q : Int → sg_M → Prop) : Nat → Int → Int → Prop
  | 0, _, _ => False
  | n_145 + 1, x8_145, x9_145 => (((s39 64 27) ≤ x9_145 → fX12_strengthAt s39 x8_145 u37 (fun u43 => (0 ≤ x8_145 ∧ x8_145 < 60) ∧ sg_R (u43 - (s39 79 x8_145)) ∧ ∀ s49 : sg_M, s49 = sg_up s39 64 38 (u43 - (s39 79 x8_145)) → Q x8_145 s49)) ∧ (¬ ((s39 64 27) ≤ x9_145) → fX12_strengthAt s39 x9_145 u37 (fun u51 => (0 ≤ x9_145 ∧ x9_145 < 60) ∧ fX12_strengthAt s39 x8_145 u37 (fun u56 => (0 ≤ x8_145 ∧ x8_145 < 60) ∧ sg_R (u51 - (s39 79 x9_145)) ∧ sg_R (u56 - (s39 79 x8_145)) ∧ (((u51 - (s39 79 x9_145)) ≤ (u56 - (s39 79 x8_145)) → (fX12_where_j193 x9_145 (fX12_where_L145 u37 s39 Q n_145)) x8_145) ∧ (¬ ((u51 - (s39 79 x9_145)) ≤ (u56 - (s39 79 x8_145))) → (fX12_where_j193 x9_145 (fX12_where_L145 u37 s39 Q n_145)) x9_145))))))
def fX12_where (s0 : sg_M) (x1 : Int) (x2 : Int) (x3 : Int) (x4 : Int) (x5 : Int) (Q : Int → sg_M → Prop) : Prop := ∀ s1 : sg_M, s1 = sg_up s0 64 0 0 → fX12_lay s1 (fun s3 => fX12_isBend x1 x2 (fun u4 => ((u4 = 0 → Q (-1) s3) ∧ (¬ (u4 = 0) → fX12_isIn x4 0 5 (fun u7 => ((u7 = 0 → Q (-1) s3) ∧ (¬ (u7 = 0) → fX12_isIn x5 0 5 (fun u10 => ((u10 = 0 → Q (-1) s3) ∧ (¬ (u10 = 0) → ((0 ≤ x3 → fX12_layBend s3 0 x1 x2 0 0 (fun s14 => ((x3 < (s14 64 29) → (0 ≤ x3 ∧ x3 < 60) ∧ fX12_toneOf s14 (s14 75 x3) x5 (fun u20 s22 => ((u20 ≠ (-1) → (∃ n33 : Nat, fX12_where_L87 u20 (fun s_117e87 => (0 ≤ x3 ∧ x3 < 60) ∧ fX12_toneOf s_117e87 (s_117e87 75 x3) x4 (fun u37 s39 => ((u37 ≠ (-1) → (∃ n65 : Nat, fX12_where_L145 u37 s39 Q n65 0 1)) ∧ (u37 = (-1) → Q (-1) s39)))) n33 s22 0)) ∧ (u20 = (-1) → Q (-1) s22)))) ∧ (¬ (x3 < (s14 64 29)) → Q (-1) s14)))) ∧ (¬ (0 ≤ x3) → Q (-1) s3))))))))))))
set_option maxHeartbeats 4000000 in
set_option maxRecDepth 100000 in
theorem CX12_where {l : Launch} {G : sg_G} {La : sg_L} {s0 : sg_M} (hst : sg_St La) {x1 : Int} (r1 : sg_R x1) {x2 : Int} (r2 : sg_R x2) {x3 : Int} (r3 : sg_R x3) {x4 : Int} (r4 : sg_R x4) {x5 : Int} (r5 : sg_R x5) {Q : Int → sg_M → Prop} (hf : fX12_where s0 x1 x2 x3 x4 x5 Q) : sg_C l G yX12_where cX12_where 10 (some .int) 4 0 0 La s0 [sg_r 64, sg_i x1, sg_i x2, sg_i x3, sg_i x4, sg_i x5] (sg_HI La Q) := by
  refine sg_body (by decide +kernel) (Nat.le_of_ble_eq_true rfl) ?_
  intro p e s m args below meth c F hnm
  unfold fX12_where at hf
  show sg_W p l e (sg_rm 4 0 0) s m args below meth c (MQ below (sg_Q (some .int) G La s.heap.size (sg_HI La Q)) args s 0 0 (sg_A La s.heap.size)) 10 G (sg_A La s.heap.size) La s0 0 0 0 [(0, sg_r 64), (1, sg_i x1), (2, sg_i x2), (3, sg_i x3), (4, sg_i x4), (5, sg_i x5)] []
  refine gw_aload_n F 0 rfl rfl (by decide) dX12_where_0 ?_
  refine gw_iconst F dX12_where_1 ?_
  obtain ⟨s1, e2⟩ : ∃ z : sg_M, z = sg_up s0 64 0 0 := ⟨_, rfl⟩
  have hf := hf s1 e2
  refine gw_put0 F (so_64 hst) (by decide) rfl sg_lay_RX12 (j := 0) (by decide) (by decide) e2 tyX12_ok nmX12 rfl (tyX12_ok 0 (by decide)) rfl (host := "") (.inl kw_956) dX12_where_2 ?_
  refine gw_aload_n F 0 rfl rfl (by decide) dX12_where_5 ?_
  refine gk_HV F (gc_V F (S := []) (As := []) (T := TX12) (N := 62) (CX12_lay hst hf) (so_64 hst) (by decide) rfl kw_1043 kw_103 kw_1041 kw_1042 kw_41 hcX12_lay ⟨by decide, by decide⟩ rfl rfl (Nat.le_of_ble_eq_true rfl) ⟨by decide, by decide⟩ dX12_where_6) (fun s3 hf => ?_)
  refine gw_iload_n F 1 rfl rfl dX12_where_9 ?_
  refine gw_iload_n F 2 rfl rfl dX12_where_10 ?_
  refine gk_PZ F (gc_S F (S := []) (As := [sg_i x1, sg_i x2]) (CX12_isBend r1 r2 hf) kw_1117 kw_103 kw_1115 kw_1116 hcX12_isBend ⟨by decide, by decide⟩ rfl rfl (Nat.le_of_ble_eq_true rfl) ⟨by decide, by decide⟩ dX12_where_11) (fun u4 h5 hf => ?_)
  refine gw_if_eq F (tgt := 41) dX12_where_14 (by decide) (sg_B_R h5) (fun c6 => ?_) (fun c6 => ?_)
  · have hf := hf.1 c6
    refine gw_iconst F dX12_where_41 ?_
    exact gr_HI F (by decide) hf (by decide) (by decide) dX12_where_42
  · have hf := hf.2 c6
    refine gw_iload F 4 rfl dX12_where_17 ?_
    refine gw_iconst F dX12_where_19 ?_
    refine gw_iconst F dX12_where_20 ?_
    refine gk_PZ F (gc_S F (S := []) (As := [sg_i x4, sg_i 0, sg_i 5]) (CX12_isIn r4 (by decide) (by decide) hf) kw_1084 kw_103 kw_1082 kw_1083 hcX12_isIn ⟨by decide, by decide⟩ rfl rfl (Nat.le_of_ble_eq_true rfl) ⟨by decide, by decide⟩ dX12_where_21) (fun u7 h8 hf => ?_)
    refine gw_if_eq F (tgt := 41) dX12_where_24 (by decide) (sg_B_R h8) (fun c9 => ?_) (fun c9 => ?_)
    · have hf := hf.1 c9
      refine gw_iconst F dX12_where_41 ?_
      exact gr_HI F (by decide) hf (by decide) (by decide) dX12_where_42
    · have hf := hf.2 c9
      refine gw_iload F 5 rfl dX12_where_27 ?_
      refine gw_iconst F dX12_where_29 ?_
      refine gw_iconst F dX12_where_30 ?_
      refine gk_PZ F (gc_S F (S := []) (As := [sg_i x5, sg_i 0, sg_i 5]) (CX12_isIn r5 (by decide) (by decide) hf) kw_1084 kw_103 kw_1082 kw_1083 hcX12_isIn ⟨by decide, by decide⟩ rfl rfl (Nat.le_of_ble_eq_true rfl) ⟨by decide, by decide⟩ dX12_where_31) (fun u10 h11 hf => ?_)
      refine gw_if_eq F (tgt := 41) dX12_where_34 (by decide) (sg_B_R h11) (fun c12 => ?_) (fun c12 => ?_)
      · have hf := hf.1 c12
        refine gw_iconst F dX12_where_41 ?_
        exact gr_HI F (by decide) hf (by decide) (by decide) dX12_where_42
      · have hf := hf.2 c12
        refine gw_iload_n F 3 rfl rfl dX12_where_37 ?_
        refine gw_if_ge F (tgt := 43) dX12_where_38 (by decide) r3 (fun c13 => ?_) (fun c13 => ?_)
        · have hf := hf.1 c13
          refine gw_aload_n F 0 rfl rfl (by decide) dX12_where_43 ?_
          refine gw_iconst F dX12_where_44 ?_
          refine gw_iload_n F 1 rfl rfl dX12_where_45 ?_
          refine gw_iload_n F 2 rfl rfl dX12_where_46 ?_
          refine gw_iconst F dX12_where_47 ?_
          refine gw_iconst F dX12_where_48 ?_
          refine gk_HV F (gc_V F (S := []) (As := [sg_i 0, sg_i x1, sg_i x2, sg_i 0, sg_i 0]) (T := TX12) (N := 62) (CX12_layBend hst (by decide) r1 r2 (by decide) (by decide) hf) (so_64 hst) (by decide) rfl kw_1120 kw_103 kw_1118 kw_1119 kw_55 hcX12_layBend ⟨by decide, by decide⟩ rfl rfl (Nat.le_of_ble_eq_true rfl) ⟨by decide, by decide⟩ dX12_where_49) (fun s14 hf => ?_)
          refine gw_iload_n F 3 rfl rfl dX12_where_52 ?_
          refine gw_aload_n F 0 rfl rfl (by decide) dX12_where_53 ?_
          refine gw_get0 F (so_64 hst) (by decide) rfl sg_lay_RX12 (j := 29) (by decide) rfl (host := "") (.inl kw_985) dX12_where_54 (fun h15 => ?_)
          refine gw_icmp_lt F (tgt := 62) dX12_where_57 (by decide) r3 h15 (fun c16 => ?_) (fun c16 => ?_)
          · have hf := hf.1 c16
            refine gw_aload_n F 0 rfl rfl (by decide) dX12_where_62 ?_
            refine gw_aload_n F 0 rfl rfl (by decide) dX12_where_63 ?_
            refine gw_get7 F (so_64 hst) (by decide) rfl sg_lay_RX12 (j := 25) (by decide) (o1 := 75) (by first | rfl | omega) rfl (host := "") (.inl kw_981) dX12_where_64 (fun h17 => ?_)
            refine gw_iload_n F 3 rfl rfl dX12_where_67 ?_
            obtain ⟨⟨b180, b181⟩, hf⟩ := hf
            refine gw_iald F (sa_75 hst) b180 b181 dX12_where_68 (fun h19 => ?_)
            refine gw_iload F 5 rfl dX12_where_69 ?_
            refine gk_HI F (gc_V F (S := []) (As := [sg_i (s14 75 x3), sg_i x5]) (T := TX12) (N := 62) (CX12_toneOf hst h19 r5 hf) (so_64 hst) (by decide) rfl kw_1139 kw_103 kw_1137 kw_1138 kw_57 hcX12_toneOf ⟨by decide, by decide⟩ rfl rfl (Nat.le_of_ble_eq_true rfl) ⟨by decide, by decide⟩ dX12_where_71) (fun u20 s22 h21 hf => ?_)
            refine gw_istore F (by decide) rfl dX12_where_74 ?_
            refine gw_iload F 0 rfl dX12_where_76 ?_
            refine gw_iconst F dX12_where_78 ?_
            refine gw_icmp_ne F (tgt := 84) dX12_where_79 (by decide) h21 (by decide) (fun c23 => ?_) (fun c23 => ?_)
            · have hf := hf.1 c23
              refine gw_iconst F dX12_where_84 ?_
              refine gw_istore F (by decide) rfl dX12_where_85 ?_
              have L87 : ∀ (k117 : sg_M → Prop) (hk117 : ∀ (s_117e87 : sg_M), k117 s_117e87 → sg_W p l e (sg_rm 4 0 0) s m args below meth c (MQ below (sg_Q (some .int) G La s.heap.size (sg_HI La Q)) args s 0 0 (sg_A La s.heap.size)) 10 G (sg_A La s.heap.size) La s_117e87 0 0 117 [(0, sg_r 64), (3, sg_i x3), (4, sg_i x4)] []), ∀ n_87 : Nat, ∀ (s_87 : sg_M) (x7_87 : Int), sg_R x7_87 → fX12_where_L87 u20 k117 n_87 s_87 x7_87 → sg_W p l e (sg_rm 4 0 0) s m args below meth c (MQ below (sg_Q (some .int) G La s.heap.size (sg_HI La Q)) args s 0 0 (sg_A La s.heap.size)) 10 G (sg_A La s.heap.size) La s_87 0 0 87 [(0, sg_r 64), (3, sg_i x3), (4, sg_i x4), (6, sg_i u20), (7, sg_i x7_87)] [] := by
                intro k117 hk117 n_87
                induction n_87 with
                | zero => intro s_87 x7_87 r7_87 hf; exact hf.elim
                | succ n_87 ih =>
                  intro s_87 x7_87 r7_87 hf
                  unfold fX12_where_L87 at hf
                  refine gw_iload F 4 rfl dX12_where_87 ?_
                  refine gw_aload_n F 0 rfl rfl (by decide) dX12_where_89 ?_
                  refine gw_get0 F (so_64 hst) (by decide) rfl sg_lay_RX12 (j := 27) (by decide) rfl (host := "") (.inl kw_983) dX12_where_90 (fun h24 => ?_)
                  refine gw_icmp_ge F (tgt := 117) dX12_where_93 (by decide) r7_87 h24 (fun c25 => ?_) (fun c25 => ?_)
                  · have hf := hf.1 c25
                    refine gw_sub [0, 1, 2] rfl ?_
                    exact hk117 s_87 hf
                  · have hf := hf.2 c25
                    refine gw_aload_n F 0 rfl rfl (by decide) dX12_where_96 ?_
                    refine gw_get7 F (so_64 hst) (by decide) rfl sg_lay_RX12 (j := 36) (by decide) (o1 := 79) (by first | rfl | omega) rfl (host := "") (.inl kw_992) dX12_where_97 (fun h26 => ?_)
                    refine gw_iload F 4 rfl dX12_where_100 ?_
                    refine gw_aload_n F 0 rfl rfl (by decide) dX12_where_102 ?_
                    refine gw_iload F 4 rfl dX12_where_103 ?_
                    refine gw_iload F 3 rfl dX12_where_105 ?_
                    refine gk_PI F (gc_V F (S := [sg_i x7_87, sg_r 79]) (As := [sg_i x7_87, sg_i u20]) (T := TX12) (N := 62) (CX12_strengthAt hst r7_87 h21 hf) (so_64 hst) (by decide) rfl kw_1157 kw_103 kw_1155 kw_1156 kw_62 hcX12_strengthAt ⟨by decide, by decide⟩ rfl rfl (Nat.le_of_ble_eq_true rfl) ⟨by decide, by decide⟩ dX12_where_107) (fun u27 h28 hf => ?_)
                    obtain ⟨⟨b290, b291⟩, hf⟩ := hf
                    obtain ⟨s30, e31⟩ : ∃ z : sg_M, z = sg_up s_87 79 x7_87 u27 := ⟨_, rfl⟩
                    have hf := hf s30 e31
                    refine gw_iast F (sa_79 hst) b290 b291 h28 e31 dX12_where_110 ?_
                    refine gw_iinc F (z := (x7_87 + 1)) 4 rfl (by omega) (by decide) rfl dX12_where_111 ?_
                    refine gw_goto F (tgt := 87) dX12_where_114 (by decide) ?_
                    obtain ⟨g32, hf⟩ := hf
                    refine gw_sub [1, 2, 3, 4, 0] rfl ?_
                    exact ih s30 (x7_87 + 1) g32 hf
              obtain ⟨n33, hf⟩ := hf
              refine gw_sub [2, 5, 6, 1, 0] rfl ?_
              refine L87 _ (fun s_117e87 hf => ?_) n33 s22 0 (by decide) hf
              refine gw_aload_n F 0 rfl rfl (by decide) dX12_where_117 ?_
              refine gw_aload_n F 0 rfl rfl (by decide) dX12_where_118 ?_
              refine gw_get7 F (so_64 hst) (by decide) rfl sg_lay_RX12 (j := 25) (by decide) (o1 := 75) (by first | rfl | omega) rfl (host := "") (.inl kw_981) dX12_where_119 (fun h34 => ?_)
              refine gw_iload_n F 1 rfl rfl dX12_where_122 ?_
              obtain ⟨⟨b350, b351⟩, hf⟩ := hf
              refine gw_iald F (sa_75 hst) b350 b351 dX12_where_123 (fun h36 => ?_)
              refine gw_iload F 2 rfl dX12_where_124 ?_
              refine gk_HI F (gc_V F (S := []) (As := [sg_i (s_117e87 75 x3), sg_i x4]) (T := TX12) (N := 62) (CX12_toneOf hst h36 r4 hf) (so_64 hst) (by decide) rfl kw_1139 kw_103 kw_1137 kw_1138 kw_57 hcX12_toneOf ⟨by decide, by decide⟩ rfl rfl (Nat.le_of_ble_eq_true rfl) ⟨by decide, by decide⟩ dX12_where_126) (fun u37 s39 h38 hf => ?_)
              refine gw_istore F (by decide) rfl dX12_where_129 ?_
              refine gw_iload F 0 rfl dX12_where_131 ?_
              refine gw_iconst F dX12_where_133 ?_
              refine gw_icmp_ne F (tgt := 139) dX12_where_134 (by decide) h38 (by decide) (fun c40 => ?_) (fun c40 => ?_)
              · have hf := hf.1 c40
                refine gw_iconst F dX12_where_139 ?_
                refine gw_istore F (by decide) rfl dX12_where_140 ?_
                refine gw_iconst F dX12_where_142 ?_
                refine gw_istore F (by decide) rfl dX12_where_143 ?_
                have L145 : ∀ n_145 : Nat, ∀ (x8_145 : Int) (x9_145 : Int), sg_R x8_145 → sg_R x9_145 → fX12_where_L145 u37 s39 Q n_145 x8_145 x9_145 → sg_W p l e (sg_rm 4 0 0) s m args below meth c (MQ below (sg_Q (some .int) G La s.heap.size (sg_HI La Q)) args s 0 0 (sg_A La s.heap.size)) 10 G (sg_A La s.heap.size) La s39 0 0 145 [(0, sg_r 64), (7, sg_i u37), (8, sg_i x8_145), (9, sg_i x9_145)] [] := by
                  intro n_145
                  induction n_145 with
                  | zero => intro x8_145 x9_145 r8_145 r9_145 hf; exact hf.elim
                  | succ n_145 ih =>
                    intro x8_145 x9_145 r8_145 r9_145 hf
                    unfold fX12_where_L145 at hf
                    refine gw_iload F 3 rfl dX12_where_145 ?_
                    refine gw_aload_n F 0 rfl rfl (by decide) dX12_where_147 ?_
                    refine gw_get0 F (so_64 hst) (by decide) rfl sg_lay_RX12 (j := 27) (by decide) rfl (host := "") (.inl kw_983) dX12_where_148 (fun h41 => ?_)
                    refine gw_icmp_ge F (tgt := 199) dX12_where_151 (by decide) r9_145 h41 (fun c42 => ?_) (fun c42 => ?_)
                    · have hf := hf.1 c42
                      refine gw_aload_n F 0 rfl rfl (by decide) dX12_where_199 ?_
                      refine gw_aload_n F 0 rfl rfl (by decide) dX12_where_200 ?_
                      refine gw_iload F 2 rfl dX12_where_201 ?_
                      refine gw_iload F 1 rfl dX12_where_203 ?_
                      refine gk_PI F (gc_V F (S := [sg_r 64]) (As := [sg_i x8_145, sg_i u37]) (T := TX12) (N := 62) (CX12_strengthAt hst r8_145 h38 hf) (so_64 hst) (by decide) rfl kw_1157 kw_103 kw_1155 kw_1156 kw_62 hcX12_strengthAt ⟨by decide, by decide⟩ rfl rfl (Nat.le_of_ble_eq_true rfl) ⟨by decide, by decide⟩ dX12_where_205) (fun u43 h44 hf => ?_)
                      refine gw_aload_n F 0 rfl rfl (by decide) dX12_where_208 ?_
                      refine gw_get7 F (so_64 hst) (by decide) rfl sg_lay_RX12 (j := 36) (by decide) (o1 := 79) (by first | rfl | omega) rfl (host := "") (.inl kw_992) dX12_where_209 (fun h45 => ?_)
                      refine gw_iload F 2 rfl dX12_where_212 ?_
                      obtain ⟨⟨b460, b461⟩, hf⟩ := hf
                      refine gw_iald F (sa_79 hst) b460 b461 dX12_where_214 (fun h47 => ?_)
                      refine gw_isub F rfl dX12_where_215 ?_
                      obtain ⟨g48, hf⟩ := hf
                      obtain ⟨s49, e50⟩ : ∃ z : sg_M, z = sg_up s39 64 38 (u43 - (s39 79 x8_145)) := ⟨_, rfl⟩
                      have hf := hf s49 e50
                      refine gw_put0 F (so_64 hst) (by decide) rfl sg_lay_RX12 (j := 38) (by decide) g48 e50 tyX12_ok nmX12 rfl (tyX12_ok 38 (by decide)) rfl (host := "") (.inl kw_994) dX12_where_216 ?_
                      refine gw_iload F 2 rfl dX12_where_219 ?_
                      exact gr_HI F r8_145 hf (by decide) (by decide) dX12_where_221
                    · have hf := hf.2 c42
                      refine gw_aload_n F 0 rfl rfl (by decide) dX12_where_154 ?_
                      refine gw_iload F 3 rfl dX12_where_155 ?_
                      refine gw_iload F 1 rfl dX12_where_157 ?_
                      refine gk_PI F (gc_V F (S := []) (As := [sg_i x9_145, sg_i u37]) (T := TX12) (N := 62) (CX12_strengthAt hst r9_145 h38 hf) (so_64 hst) (by decide) rfl kw_1157 kw_103 kw_1155 kw_1156 kw_62 hcX12_strengthAt ⟨by decide, by decide⟩ rfl rfl (Nat.le_of_ble_eq_true rfl) ⟨by decide, by decide⟩ dX12_where_159) (fun u51 h52 hf => ?_)
                      refine gw_aload_n F 0 rfl rfl (by decide) dX12_where_162 ?_
                      refine gw_get7 F (so_64 hst) (by decide) rfl sg_lay_RX12 (j := 36) (by decide) (o1 := 79) (by first | rfl | omega) rfl (host := "") (.inl kw_992) dX12_where_163 (fun h53 => ?_)
                      refine gw_iload F 3 rfl dX12_where_166 ?_
                      obtain ⟨⟨b540, b541⟩, hf⟩ := hf
                      refine gw_iald F (sa_79 hst) b540 b541 dX12_where_168 (fun h55 => ?_)
                      refine gw_isub F rfl dX12_where_169 ?_
                      refine gw_aload_n F 0 rfl rfl (by decide) dX12_where_170 ?_
                      refine gw_iload F 2 rfl dX12_where_171 ?_
                      refine gw_iload F 1 rfl dX12_where_173 ?_
                      refine gk_PI F (gc_V F (S := [sg_i (u51 - (s39 79 x9_145))]) (As := [sg_i x8_145, sg_i u37]) (T := TX12) (N := 62) (CX12_strengthAt hst r8_145 h38 hf) (so_64 hst) (by decide) rfl kw_1157 kw_103 kw_1155 kw_1156 kw_62 hcX12_strengthAt ⟨by decide, by decide⟩ rfl rfl (Nat.le_of_ble_eq_true rfl) ⟨by decide, by decide⟩ dX12_where_175) (fun u56 h57 hf => ?_)
                      refine gw_aload_n F 0 rfl rfl (by decide) dX12_where_178 ?_
                      refine gw_get7 F (so_64 hst) (by decide) rfl sg_lay_RX12 (j := 36) (by decide) (o1 := 79) (by first | rfl | omega) rfl (host := "") (.inl kw_992) dX12_where_179 (fun h58 => ?_)
                      refine gw_iload F 2 rfl dX12_where_182 ?_
                      obtain ⟨⟨b590, b591⟩, hf⟩ := hf
                      refine gw_iald F (sa_79 hst) b590 b591 dX12_where_184 (fun h60 => ?_)
                      refine gw_isub F rfl dX12_where_185 ?_
                      have J193 : ∀ (x8_193 : Int), sg_R x8_193 → (fX12_where_j193 x9_145 (fX12_where_L145 u37 s39 Q n_145)) x8_193 → sg_W p l e (sg_rm 4 0 0) s m args below meth c (MQ below (sg_Q (some .int) G La s.heap.size (sg_HI La Q)) args s 0 0 (sg_A La s.heap.size)) 10 G (sg_A La s.heap.size) La s39 0 0 193 [(0, sg_r 64), (7, sg_i u37), (8, sg_i x8_193), (9, sg_i x9_145)] [] := by
                        intro x8_193 r8_193 hf
                        unfold fX12_where_j193 at hf
                        refine gw_iinc F (z := (x9_145 + 1)) 3 rfl (by omega) (by decide) rfl dX12_where_193 ?_
                        refine gw_goto F (tgt := 145) dX12_where_196 (by decide) ?_
                        obtain ⟨g61, hf⟩ := hf
                        refine gw_sub [1, 2, 3, 0] rfl ?_
                        exact ih x8_193 (x9_145 + 1) r8_193 g61 hf
                      obtain ⟨g62, hf⟩ := hf
                      obtain ⟨g63, hf⟩ := hf
                      refine gw_icmp_le F (tgt := 193) dX12_where_186 (by decide) g62 g63 (fun c64 => ?_) (fun c64 => ?_)
                      · have hf := hf.1 c64
                        refine gw_sub [0, 1, 2, 3] rfl ?_
                        exact J193 x8_145 r8_145 hf
                      · have hf := hf.2 c64
                        refine gw_iload F 3 rfl dX12_where_189 ?_
                        refine gw_istore F (by decide) rfl dX12_where_191 ?_
                        refine gw_sub [1, 2, 0, 3] rfl ?_
                        exact J193 x9_145 r9_145 hf
                obtain ⟨n65, hf⟩ := hf
                refine gw_sub [3, 2, 1, 0] rfl ?_
                refine L145   n65 0 1 (by decide) (by decide) hf
              · have hf := hf.2 c40
                refine gw_iconst F dX12_where_137 ?_
                exact gr_HI F (by decide) hf (by decide) (by decide) dX12_where_138
            · have hf := hf.2 c23
              refine gw_iconst F dX12_where_82 ?_
              exact gr_HI F (by decide) hf (by decide) (by decide) dX12_where_83
          · have hf := hf.2 c16
            refine gw_iconst F dX12_where_60 ?_
            exact gr_HI F (by decide) hf (by decide) (by decide) dX12_where_61
        · have hf := hf.2 c13
          refine gw_iconst F dX12_where_41 ?_
          exact gr_HI F (by decide) hf (by decide) (by decide) dX12_where_42

theorem dX12_pieces_0 : decode cX12_pieces 0 = .ok (.aload_n 0, 1) := by decide +kernel
theorem dX12_pieces_1 : decode cX12_pieces 1 = .ok (.getfield 13, 3) := by decide +kernel
theorem dX12_pieces_4 : decode cX12_pieces 4 = .ok (.iconst 0, 1) := by decide +kernel
theorem dX12_pieces_5 : decode cX12_pieces 5 = .ok (.iaload, 1) := by decide +kernel
theorem dX12_pieces_6 : decode cX12_pieces 6 = .ok (.ireturn, 1) := by decide +kernel
theorem hcX12_pieces : yX12_pieces.cls ≠ "java/lang/invoke/MethodHandle" ∧ yX12_pieces.cls ≠ "java/lang/invoke/VarHandle" ∧ (parseMethodDescriptor yX12_pieces.desc).map (fun d => d.parameters.length) = some 0 := ⟨by decide +kernel, by decide +kernel, by decide +kernel⟩
def fX12_pieces (s0 : sg_M) (Q : Int → Prop) : Prop := Q (s0 66 0)
set_option maxHeartbeats 4000000 in
set_option maxRecDepth 100000 in
theorem CX12_pieces {l : Launch} {G : sg_G} {La : sg_L} {s0 : sg_M} (hst : sg_St La) {Q : Int → Prop} (hf : fX12_pieces s0 Q) : sg_C l G yX12_pieces cX12_pieces 1 (some .int) 1 0 0 La s0 [sg_r 64] (sg_PI La s0 Q) := by
  refine sg_body (by decide +kernel) (Nat.le_of_ble_eq_true rfl) ?_
  intro p e s m args below meth c F hnm
  unfold fX12_pieces at hf
  show sg_W p l e (sg_rm 1 0 0) s m args below meth c (MQ below (sg_Q (some .int) G La s.heap.size (sg_PI La s0 Q)) args s 0 0 (sg_A La s.heap.size)) 1 G (sg_A La s.heap.size) La s0 0 0 0 [(0, sg_r 64)] []
  refine gw_aload_n F 0 rfl rfl (by decide) dX12_pieces_0 ?_
  refine gw_get7 F (so_64 hst) (by decide) rfl sg_lay_RX12 (j := 14) (by decide) (o1 := 66) (by first | rfl | omega) rfl (host := "") (.inl kw_970) dX12_pieces_1 (fun h1 => ?_)
  refine gw_iconst F dX12_pieces_4 ?_
  refine gw_iald F (sa_66 hst) (by decide) (by decide) dX12_pieces_5 (fun h2 => ?_)
  exact gr_PI F h2 hf (by decide) (by decide) dX12_pieces_6

theorem dX12_write_0 : decode cX12_write 0 = .ok (.aload_n 0, 1) := by decide +kernel
theorem dX12_write_1 : decode cX12_write 1 = .ok (.iconst 0, 1) := by decide +kernel
theorem dX12_write_2 : decode cX12_write 2 = .ok (.putfield 84, 3) := by decide +kernel
theorem dX12_write_5 : decode cX12_write 5 = .ok (.aload_n 0, 1) := by decide +kernel
theorem dX12_write_6 : decode cX12_write 6 = .ok (.invokevirtual 175, 3) := by decide +kernel
theorem dX12_write_9 : decode cX12_write 9 = .ok (.iload_n 1, 1) := by decide +kernel
theorem dX12_write_10 : decode cX12_write 10 = .ok (.iload_n 2, 1) := by decide +kernel
theorem dX12_write_11 : decode cX12_write 11 = .ok (.invokestatic 232, 3) := by decide +kernel
theorem dX12_write_14 : decode cX12_write 14 = .ok (.ifCond .eq 12, 3) := by decide +kernel
theorem dX12_write_17 : decode cX12_write 17 = .ok (.aload_n 0, 1) := by decide +kernel
theorem dX12_write_18 : decode cX12_write 18 = .ok (.invokevirtual 320, 3) := by decide +kernel
theorem dX12_write_21 : decode cX12_write 21 = .ok (.bipush 40, 2) := by decide +kernel
theorem dX12_write_23 : decode cX12_write 23 = .ok (.if_icmp .ne 5, 3) := by decide +kernel
theorem dX12_write_26 : decode cX12_write 26 = .ok (.iconst (-1), 1) := by decide +kernel
theorem dX12_write_27 : decode cX12_write 27 = .ok (.ireturn, 1) := by decide +kernel
theorem dX12_write_28 : decode cX12_write 28 = .ok (.aload_n 0, 1) := by decide +kernel
theorem dX12_write_29 : decode cX12_write 29 = .ok (.getfield 13, 3) := by decide +kernel
theorem dX12_write_32 : decode cX12_write 32 = .ok (.sipush 1702, 3) := by decide +kernel
theorem dX12_write_35 : decode cX12_write 35 = .ok (.iconst 2, 1) := by decide +kernel
theorem dX12_write_36 : decode cX12_write 36 = .ok (.aload_n 0, 1) := by decide +kernel
theorem dX12_write_37 : decode cX12_write 37 = .ok (.invokevirtual 320, 3) := by decide +kernel
theorem dX12_write_40 : decode cX12_write 40 = .ok (.imul, 1) := by decide +kernel
theorem dX12_write_41 : decode cX12_write 41 = .ok (.iadd, 1) := by decide +kernel
theorem dX12_write_42 : decode cX12_write 42 = .ok (.iload_n 1, 1) := by decide +kernel
theorem dX12_write_43 : decode cX12_write 43 = .ok (.iastore, 1) := by decide +kernel
theorem dX12_write_44 : decode cX12_write 44 = .ok (.aload_n 0, 1) := by decide +kernel
theorem dX12_write_45 : decode cX12_write 45 = .ok (.getfield 13, 3) := by decide +kernel
theorem dX12_write_48 : decode cX12_write 48 = .ok (.sipush 1702, 3) := by decide +kernel
theorem dX12_write_51 : decode cX12_write 51 = .ok (.iconst 2, 1) := by decide +kernel
theorem dX12_write_52 : decode cX12_write 52 = .ok (.aload_n 0, 1) := by decide +kernel
theorem dX12_write_53 : decode cX12_write 53 = .ok (.invokevirtual 320, 3) := by decide +kernel
theorem dX12_write_56 : decode cX12_write 56 = .ok (.imul, 1) := by decide +kernel
theorem dX12_write_57 : decode cX12_write 57 = .ok (.iadd, 1) := by decide +kernel
theorem dX12_write_58 : decode cX12_write 58 = .ok (.iconst 1, 1) := by decide +kernel
theorem dX12_write_59 : decode cX12_write 59 = .ok (.iadd, 1) := by decide +kernel
theorem dX12_write_60 : decode cX12_write 60 = .ok (.iload_n 2, 1) := by decide +kernel
theorem dX12_write_61 : decode cX12_write 61 = .ok (.iastore, 1) := by decide +kernel
theorem dX12_write_62 : decode cX12_write 62 = .ok (.aload_n 0, 1) := by decide +kernel
theorem dX12_write_63 : decode cX12_write 63 = .ok (.getfield 13, 3) := by decide +kernel
theorem dX12_write_66 : decode cX12_write 66 = .ok (.sipush 1701, 3) := by decide +kernel
theorem dX12_write_69 : decode cX12_write 69 = .ok (.dup2, 1) := by decide +kernel
theorem dX12_write_70 : decode cX12_write 70 = .ok (.iaload, 1) := by decide +kernel
theorem dX12_write_71 : decode cX12_write 71 = .ok (.iconst 1, 1) := by decide +kernel
theorem dX12_write_72 : decode cX12_write 72 = .ok (.iadd, 1) := by decide +kernel
theorem dX12_write_73 : decode cX12_write 73 = .ok (.iastore, 1) := by decide +kernel
theorem dX12_write_74 : decode cX12_write 74 = .ok (.aload_n 0, 1) := by decide +kernel
theorem dX12_write_75 : decode cX12_write 75 = .ok (.invokevirtual 320, 3) := by decide +kernel
theorem dX12_write_78 : decode cX12_write 78 = .ok (.iconst 1, 1) := by decide +kernel
theorem dX12_write_79 : decode cX12_write 79 = .ok (.isub, 1) := by decide +kernel
theorem dX12_write_80 : decode cX12_write 80 = .ok (.ireturn, 1) := by decide +kernel
theorem hcX12_write : yX12_write.cls ≠ "java/lang/invoke/MethodHandle" ∧ yX12_write.cls ≠ "java/lang/invoke/VarHandle" ∧ (parseMethodDescriptor yX12_write.desc).map (fun d => d.parameters.length) = some 2 := ⟨by decide +kernel, by decide +kernel, by decide +kernel⟩
def fX12_write (s0 : sg_M) (x1 : Int) (x2 : Int) (Q : Int → sg_M → Prop) : Prop := ∀ s1 : sg_M, s1 = sg_up s0 64 0 0 → fX12_lay s1 (fun s3 => fX12_isBend x1 x2 (fun u4 => ((u4 = 0 → Q (-1) s3) ∧ (¬ (u4 = 0) → fX12_bends s3 (fun u7 => ((u7 ≠ 40 → fX12_bends s3 (fun u11 => (0 ≤ (1702 + (2 * u11)) ∧ (1702 + (2 * u11)) < 2040) ∧ ∀ s14 : sg_M, s14 = sg_up s3 66 (1702 + (2 * u11)) x1 → fX12_bends s14 (fun u17 => (0 ≤ ((1702 + (2 * u17)) + 1) ∧ ((1702 + (2 * u17)) + 1) < 2040) ∧ ∀ s20 : sg_M, s20 = sg_up s14 66 ((1702 + (2 * u17)) + 1) x2 → sg_R ((s20 66 1701) + 1) ∧ ∀ s25 : sg_M, s25 = sg_up s20 66 1701 ((s20 66 1701) + 1) → fX12_bends s25 (fun u27 => sg_R (u27 - 1) ∧ Q (u27 - 1) s25)))) ∧ (u7 = 40 → Q (-1) s3)))))))
set_option maxHeartbeats 4000000 in
set_option maxRecDepth 100000 in
theorem CX12_write {l : Launch} {G : sg_G} {La : sg_L} {s0 : sg_M} (hst : sg_St La) {x1 : Int} (r1 : sg_R x1) {x2 : Int} (r2 : sg_R x2) {Q : Int → sg_M → Prop} (hf : fX12_write s0 x1 x2 Q) : sg_C l G yX12_write cX12_write 3 (some .int) 3 0 0 La s0 [sg_r 64, sg_i x1, sg_i x2] (sg_HI La Q) := by
  refine sg_body (by decide +kernel) (Nat.le_of_ble_eq_true rfl) ?_
  intro p e s m args below meth c F hnm
  unfold fX12_write at hf
  show sg_W p l e (sg_rm 3 0 0) s m args below meth c (MQ below (sg_Q (some .int) G La s.heap.size (sg_HI La Q)) args s 0 0 (sg_A La s.heap.size)) 3 G (sg_A La s.heap.size) La s0 0 0 0 [(0, sg_r 64), (1, sg_i x1), (2, sg_i x2)] []
  refine gw_aload_n F 0 rfl rfl (by decide) dX12_write_0 ?_
  refine gw_iconst F dX12_write_1 ?_
  obtain ⟨s1, e2⟩ : ∃ z : sg_M, z = sg_up s0 64 0 0 := ⟨_, rfl⟩
  have hf := hf s1 e2
  refine gw_put0 F (so_64 hst) (by decide) rfl sg_lay_RX12 (j := 0) (by decide) (by decide) e2 tyX12_ok nmX12 rfl (tyX12_ok 0 (by decide)) rfl (host := "") (.inl kw_956) dX12_write_2 ?_
  refine gw_aload_n F 0 rfl rfl (by decide) dX12_write_5 ?_
  refine gk_HV F (gc_V F (S := []) (As := []) (T := TX12) (N := 62) (CX12_lay hst hf) (so_64 hst) (by decide) rfl kw_1043 kw_103 kw_1041 kw_1042 kw_41 hcX12_lay ⟨by decide, by decide⟩ rfl rfl (Nat.le_of_ble_eq_true rfl) ⟨by decide, by decide⟩ dX12_write_6) (fun s3 hf => ?_)
  refine gw_iload_n F 1 rfl rfl dX12_write_9 ?_
  refine gw_iload_n F 2 rfl rfl dX12_write_10 ?_
  refine gk_PZ F (gc_S F (S := []) (As := [sg_i x1, sg_i x2]) (CX12_isBend r1 r2 hf) kw_1117 kw_103 kw_1115 kw_1116 hcX12_isBend ⟨by decide, by decide⟩ rfl rfl (Nat.le_of_ble_eq_true rfl) ⟨by decide, by decide⟩ dX12_write_11) (fun u4 h5 hf => ?_)
  refine gw_if_eq F (tgt := 26) dX12_write_14 (by decide) (sg_B_R h5) (fun c6 => ?_) (fun c6 => ?_)
  · have hf := hf.1 c6
    refine gw_iconst F dX12_write_26 ?_
    exact gr_HI F (by decide) hf (by decide) (by decide) dX12_write_27
  · have hf := hf.2 c6
    refine gw_aload_n F 0 rfl rfl (by decide) dX12_write_17 ?_
    refine gk_PI F (gc_V F (S := []) (As := []) (T := TX12) (N := 62) (CX12_bends hst hf) (so_64 hst) (by decide) rfl kw_1212 kw_103 kw_1210 kw_1211 kw_70 hcX12_bends ⟨by decide, by decide⟩ rfl rfl (Nat.le_of_ble_eq_true rfl) ⟨by decide, by decide⟩ dX12_write_18) (fun u7 h8 hf => ?_)
    refine gw_bipush F rfl dX12_write_21 ?_
    refine gw_icmp_ne F (tgt := 28) dX12_write_23 (by decide) h8 (by decide) (fun c9 => ?_) (fun c9 => ?_)
    · have hf := hf.1 c9
      refine gw_aload_n F 0 rfl rfl (by decide) dX12_write_28 ?_
      refine gw_get7 F (so_64 hst) (by decide) rfl sg_lay_RX12 (j := 14) (by decide) (o1 := 66) (by first | rfl | omega) rfl (host := "") (.inl kw_970) dX12_write_29 (fun h10 => ?_)
      refine gw_sipush F rfl dX12_write_32 ?_
      refine gw_iconst F dX12_write_35 ?_
      refine gw_aload_n F 0 rfl rfl (by decide) dX12_write_36 ?_
      refine gk_PI F (gc_V F (S := [sg_i 2, sg_i 1702, sg_r 66]) (As := []) (T := TX12) (N := 62) (CX12_bends hst hf) (so_64 hst) (by decide) rfl kw_1212 kw_103 kw_1210 kw_1211 kw_70 hcX12_bends ⟨by decide, by decide⟩ rfl rfl (Nat.le_of_ble_eq_true rfl) ⟨by decide, by decide⟩ dX12_write_37) (fun u11 h12 hf => ?_)
      refine gw_imul F rfl dX12_write_40 ?_
      refine gw_iadd F rfl dX12_write_41 ?_
      refine gw_iload_n F 1 rfl rfl dX12_write_42 ?_
      obtain ⟨⟨b130, b131⟩, hf⟩ := hf
      obtain ⟨s14, e15⟩ : ∃ z : sg_M, z = sg_up s3 66 (1702 + (2 * u11)) x1 := ⟨_, rfl⟩
      have hf := hf s14 e15
      refine gw_iast F (sa_66 hst) b130 b131 r1 e15 dX12_write_43 ?_
      refine gw_aload_n F 0 rfl rfl (by decide) dX12_write_44 ?_
      refine gw_get7 F (so_64 hst) (by decide) rfl sg_lay_RX12 (j := 14) (by decide) (o1 := 66) (by first | rfl | omega) rfl (host := "") (.inl kw_970) dX12_write_45 (fun h16 => ?_)
      refine gw_sipush F rfl dX12_write_48 ?_
      refine gw_iconst F dX12_write_51 ?_
      refine gw_aload_n F 0 rfl rfl (by decide) dX12_write_52 ?_
      refine gk_PI F (gc_V F (S := [sg_i 2, sg_i 1702, sg_r 66]) (As := []) (T := TX12) (N := 62) (CX12_bends hst hf) (so_64 hst) (by decide) rfl kw_1212 kw_103 kw_1210 kw_1211 kw_70 hcX12_bends ⟨by decide, by decide⟩ rfl rfl (Nat.le_of_ble_eq_true rfl) ⟨by decide, by decide⟩ dX12_write_53) (fun u17 h18 hf => ?_)
      refine gw_imul F rfl dX12_write_56 ?_
      refine gw_iadd F rfl dX12_write_57 ?_
      refine gw_iconst F dX12_write_58 ?_
      refine gw_iadd F rfl dX12_write_59 ?_
      refine gw_iload_n F 2 rfl rfl dX12_write_60 ?_
      obtain ⟨⟨b190, b191⟩, hf⟩ := hf
      obtain ⟨s20, e21⟩ : ∃ z : sg_M, z = sg_up s14 66 ((1702 + (2 * u17)) + 1) x2 := ⟨_, rfl⟩
      have hf := hf s20 e21
      refine gw_iast F (sa_66 hst) b190 b191 r2 e21 dX12_write_61 ?_
      refine gw_aload_n F 0 rfl rfl (by decide) dX12_write_62 ?_
      refine gw_get7 F (so_64 hst) (by decide) rfl sg_lay_RX12 (j := 14) (by decide) (o1 := 66) (by first | rfl | omega) rfl (host := "") (.inl kw_970) dX12_write_63 (fun h22 => ?_)
      refine gw_sipush F rfl dX12_write_66 ?_
      refine gw_dup2 F rfl rfl dX12_write_69 ?_
      refine gw_iald F (sa_66 hst) (by decide) (by decide) dX12_write_70 (fun h23 => ?_)
      refine gw_iconst F dX12_write_71 ?_
      refine gw_iadd F rfl dX12_write_72 ?_
      obtain ⟨g24, hf⟩ := hf
      obtain ⟨s25, e26⟩ : ∃ z : sg_M, z = sg_up s20 66 1701 ((s20 66 1701) + 1) := ⟨_, rfl⟩
      have hf := hf s25 e26
      refine gw_iast F (sa_66 hst) (by decide) (by decide) g24 e26 dX12_write_73 ?_
      refine gw_aload_n F 0 rfl rfl (by decide) dX12_write_74 ?_
      refine gk_PI F (gc_V F (S := []) (As := []) (T := TX12) (N := 62) (CX12_bends hst hf) (so_64 hst) (by decide) rfl kw_1212 kw_103 kw_1210 kw_1211 kw_70 hcX12_bends ⟨by decide, by decide⟩ rfl rfl (Nat.le_of_ble_eq_true rfl) ⟨by decide, by decide⟩ dX12_write_75) (fun u27 h28 hf => ?_)
      refine gw_iconst F dX12_write_78 ?_
      refine gw_isub F rfl dX12_write_79 ?_
      obtain ⟨g29, hf⟩ := hf
      exact gr_HI F g29 hf (by decide) (by decide) dX12_write_80
    · have hf := hf.2 c9
      refine gw_iconst F dX12_write_26 ?_
      exact gr_HI F (by decide) hf (by decide) (by decide) dX12_write_27

theorem dX12_formBy_0 : decode cX12_formBy 0 = .ok (.aload_n 0, 1) := by decide +kernel
theorem dX12_formBy_1 : decode cX12_formBy 1 = .ok (.iconst 0, 1) := by decide +kernel
theorem dX12_formBy_2 : decode cX12_formBy 2 = .ok (.putfield 84, 3) := by decide +kernel
theorem dX12_formBy_5 : decode cX12_formBy 5 = .ok (.aload_n 0, 1) := by decide +kernel
theorem dX12_formBy_6 : decode cX12_formBy 6 = .ok (.getfield 77, 3) := by decide +kernel
theorem dX12_formBy_9 : decode cX12_formBy 9 = .ok (.ireturn, 1) := by decide +kernel
theorem hcX12_formBy : yX12_formBy.cls ≠ "java/lang/invoke/MethodHandle" ∧ yX12_formBy.cls ≠ "java/lang/invoke/VarHandle" ∧ (parseMethodDescriptor yX12_formBy.desc).map (fun d => d.parameters.length) = some 0 := ⟨by decide +kernel, by decide +kernel, by decide +kernel⟩
def fX12_formBy (s0 : sg_M) (Q : Int → sg_M → Prop) : Prop := ∀ s1 : sg_M, s1 = sg_up s0 64 0 0 → Q (s1 64 56) s1
set_option maxHeartbeats 4000000 in
set_option maxRecDepth 100000 in
theorem CX12_formBy {l : Launch} {G : sg_G} {La : sg_L} {s0 : sg_M} (hst : sg_St La) {Q : Int → sg_M → Prop} (hf : fX12_formBy s0 Q) : sg_C l G yX12_formBy cX12_formBy 1 (some .int) 1 0 0 La s0 [sg_r 64] (sg_HI La Q) := by
  refine sg_body (by decide +kernel) (Nat.le_of_ble_eq_true rfl) ?_
  intro p e s m args below meth c F hnm
  unfold fX12_formBy at hf
  show sg_W p l e (sg_rm 1 0 0) s m args below meth c (MQ below (sg_Q (some .int) G La s.heap.size (sg_HI La Q)) args s 0 0 (sg_A La s.heap.size)) 1 G (sg_A La s.heap.size) La s0 0 0 0 [(0, sg_r 64)] []
  refine gw_aload_n F 0 rfl rfl (by decide) dX12_formBy_0 ?_
  refine gw_iconst F dX12_formBy_1 ?_
  obtain ⟨s1, e2⟩ : ∃ z : sg_M, z = sg_up s0 64 0 0 := ⟨_, rfl⟩
  have hf := hf s1 e2
  refine gw_put0 F (so_64 hst) (by decide) rfl sg_lay_RX12 (j := 0) (by decide) (by decide) e2 tyX12_ok nmX12 rfl (tyX12_ok 0 (by decide)) rfl (host := "") (.inl kw_956) dX12_formBy_2 ?_
  refine gw_aload_n F 0 rfl rfl (by decide) dX12_formBy_5 ?_
  refine gw_get0 F (so_64 hst) (by decide) rfl sg_lay_RX12 (j := 56) (by decide) rfl (host := "") (.inl kw_1012) dX12_formBy_6 (fun h3 => ?_)
  exact gr_HI F h3 hf (by decide) (by decide) dX12_formBy_9

theorem dX12_isWritten_0 : decode cX12_isWritten 0 = .ok (.iload_n 1, 1) := by decide +kernel
theorem dX12_isWritten_1 : decode cX12_isWritten 1 = .ok (.ifCond .lt 15, 3) := by decide +kernel
theorem dX12_isWritten_4 : decode cX12_isWritten 4 = .ok (.iload_n 1, 1) := by decide +kernel
theorem dX12_isWritten_5 : decode cX12_isWritten 5 = .ok (.aload_n 0, 1) := by decide +kernel
theorem dX12_isWritten_6 : decode cX12_isWritten 6 = .ok (.invokevirtual 320, 3) := by decide +kernel
theorem dX12_isWritten_9 : decode cX12_isWritten 9 = .ok (.if_icmp .ge 7, 3) := by decide +kernel
theorem dX12_isWritten_12 : decode cX12_isWritten 12 = .ok (.iconst 1, 1) := by decide +kernel
theorem dX12_isWritten_13 : decode cX12_isWritten 13 = .ok (.goto 4, 3) := by decide +kernel
theorem dX12_isWritten_16 : decode cX12_isWritten 16 = .ok (.iconst 0, 1) := by decide +kernel
theorem dX12_isWritten_17 : decode cX12_isWritten 17 = .ok (.ireturn, 1) := by decide +kernel
theorem hcX12_isWritten : yX12_isWritten.cls ≠ "java/lang/invoke/MethodHandle" ∧ yX12_isWritten.cls ≠ "java/lang/invoke/VarHandle" ∧ (parseMethodDescriptor yX12_isWritten.desc).map (fun d => d.parameters.length) = some 1 := ⟨by decide +kernel, by decide +kernel, by decide +kernel⟩
def fX12_isWritten (s0 : sg_M) (x1 : Int) (Q : Int → Prop) : Prop := ((x1 < 0 → Q 0) ∧ (¬ (x1 < 0) → fX12_bends s0 (fun u2 => ((u2 ≤ x1 → Q 0) ∧ (¬ (u2 ≤ x1) → Q 1)))))
set_option maxHeartbeats 4000000 in
set_option maxRecDepth 100000 in
theorem CX12_isWritten {l : Launch} {G : sg_G} {La : sg_L} {s0 : sg_M} (hst : sg_St La) {x1 : Int} (r1 : sg_R x1) {Q : Int → Prop} (hf : fX12_isWritten s0 x1 Q) : sg_C l G yX12_isWritten cX12_isWritten 2 (some .boolean) 2 0 0 La s0 [sg_r 64, sg_i x1] (sg_PZ La s0 Q) := by
  refine sg_body (by decide +kernel) (Nat.le_of_ble_eq_true rfl) ?_
  intro p e s m args below meth c F hnm
  unfold fX12_isWritten at hf
  show sg_W p l e (sg_rm 2 0 0) s m args below meth c (MQ below (sg_Q (some .boolean) G La s.heap.size (sg_PZ La s0 Q)) args s 0 0 (sg_A La s.heap.size)) 2 G (sg_A La s.heap.size) La s0 0 0 0 [(0, sg_r 64), (1, sg_i x1)] []
  refine gw_iload_n F 1 rfl rfl dX12_isWritten_0 ?_
  refine gw_if_lt F (tgt := 16) dX12_isWritten_1 (by decide) r1 (fun c1 => ?_) (fun c1 => ?_)
  · have hf := hf.1 c1
    refine gw_iconst F dX12_isWritten_16 ?_
    exact gr_PZ F (by decide) hf (by decide) (by decide) dX12_isWritten_17
  · have hf := hf.2 c1
    refine gw_iload_n F 1 rfl rfl dX12_isWritten_4 ?_
    refine gw_aload_n F 0 rfl rfl (by decide) dX12_isWritten_5 ?_
    refine gk_PI F (gc_V F (S := [sg_i x1]) (As := []) (T := TX12) (N := 62) (CX12_bends hst hf) (so_64 hst) (by decide) rfl kw_1212 kw_103 kw_1210 kw_1211 kw_70 hcX12_bends ⟨by decide, by decide⟩ rfl rfl (Nat.le_of_ble_eq_true rfl) ⟨by decide, by decide⟩ dX12_isWritten_6) (fun u2 h3 hf => ?_)
    refine gw_icmp_ge F (tgt := 16) dX12_isWritten_9 (by decide) r1 h3 (fun c4 => ?_) (fun c4 => ?_)
    · have hf := hf.1 c4
      refine gw_iconst F dX12_isWritten_16 ?_
      exact gr_PZ F (by decide) hf (by decide) (by decide) dX12_isWritten_17
    · have hf := hf.2 c4
      refine gw_iconst F dX12_isWritten_12 ?_
      refine gw_goto F (tgt := 17) dX12_isWritten_13 (by decide) ?_
      exact gr_PZ F (by decide) hf (by decide) (by decide) dX12_isWritten_17

theorem dX12_even_0 : decode cX12_even 0 = .ok (.aload_n 0, 1) := by decide +kernel
theorem dX12_even_1 : decode cX12_even 1 = .ok (.iconst 0, 1) := by decide +kernel
theorem dX12_even_2 : decode cX12_even 2 = .ok (.putfield 84, 3) := by decide +kernel
theorem dX12_even_5 : decode cX12_even 5 = .ok (.aload_n 0, 1) := by decide +kernel
theorem dX12_even_6 : decode cX12_even 6 = .ok (.invokevirtual 175, 3) := by decide +kernel
theorem dX12_even_9 : decode cX12_even 9 = .ok (.aload_n 0, 1) := by decide +kernel
theorem dX12_even_10 : decode cX12_even 10 = .ok (.iload_n 1, 1) := by decide +kernel
theorem dX12_even_11 : decode cX12_even 11 = .ok (.invokevirtual 323, 3) := by decide +kernel
theorem dX12_even_14 : decode cX12_even 14 = .ok (.ifCond .eq 21, 3) := by decide +kernel
theorem dX12_even_17 : decode cX12_even 17 = .ok (.aload_n 0, 1) := by decide +kernel
theorem dX12_even_18 : decode cX12_even 18 = .ok (.iload_n 2, 1) := by decide +kernel
theorem dX12_even_19 : decode cX12_even 19 = .ok (.invokevirtual 323, 3) := by decide +kernel
theorem dX12_even_22 : decode cX12_even 22 = .ok (.ifCond .eq 13, 3) := by decide +kernel
theorem dX12_even_25 : decode cX12_even 25 = .ok (.iload_n 3, 1) := by decide +kernel
theorem dX12_even_26 : decode cX12_even 26 = .ok (.iconst 1, 1) := by decide +kernel
theorem dX12_even_27 : decode cX12_even 27 = .ok (.bipush 20, 2) := by decide +kernel
theorem dX12_even_29 : decode cX12_even 29 = .ok (.invokestatic 155, 3) := by decide +kernel
theorem dX12_even_32 : decode cX12_even 32 = .ok (.ifCond .ne 5, 3) := by decide +kernel
theorem dX12_even_35 : decode cX12_even 35 = .ok (.iconst (-1), 1) := by decide +kernel
theorem dX12_even_36 : decode cX12_even 36 = .ok (.ireturn, 1) := by decide +kernel
theorem dX12_even_37 : decode cX12_even 37 = .ok (.iconst 0, 1) := by decide +kernel
theorem dX12_even_38 : decode cX12_even 38 = .ok (.istore 4, 2) := by decide +kernel
theorem dX12_even_40 : decode cX12_even 40 = .ok (.iload 4, 2) := by decide +kernel
theorem dX12_even_42 : decode cX12_even 42 = .ok (.bipush 100, 2) := by decide +kernel
theorem dX12_even_44 : decode cX12_even 44 = .ok (.if_icmp .gt 66, 3) := by decide +kernel
theorem dX12_even_47 : decode cX12_even 47 = .ok (.aload_n 0, 1) := by decide +kernel
theorem dX12_even_48 : decode cX12_even 48 = .ok (.getfield 71, 3) := by decide +kernel
theorem dX12_even_51 : decode cX12_even 51 = .ok (.iload 4, 2) := by decide +kernel
theorem dX12_even_53 : decode cX12_even 53 = .ok (.aload_n 0, 1) := by decide +kernel
theorem dX12_even_54 : decode cX12_even 54 = .ok (.aload_n 0, 1) := by decide +kernel
theorem dX12_even_55 : decode cX12_even 55 = .ok (.iload_n 1, 1) := by decide +kernel
theorem dX12_even_56 : decode cX12_even 56 = .ok (.invokevirtual 326, 3) := by decide +kernel
theorem dX12_even_59 : decode cX12_even 59 = .ok (.aload_n 0, 1) := by decide +kernel
theorem dX12_even_60 : decode cX12_even 60 = .ok (.iload_n 2, 1) := by decide +kernel
theorem dX12_even_61 : decode cX12_even 61 = .ok (.invokevirtual 326, 3) := by decide +kernel
theorem dX12_even_64 : decode cX12_even 64 = .ok (.aload_n 0, 1) := by decide +kernel
theorem dX12_even_65 : decode cX12_even 65 = .ok (.iload_n 1, 1) := by decide +kernel
theorem dX12_even_66 : decode cX12_even 66 = .ok (.invokevirtual 326, 3) := by decide +kernel
theorem dX12_even_69 : decode cX12_even 69 = .ok (.isub, 1) := by decide +kernel
theorem dX12_even_70 : decode cX12_even 70 = .ok (.iload 4, 2) := by decide +kernel
theorem dX12_even_72 : decode cX12_even 72 = .ok (.imul, 1) := by decide +kernel
theorem dX12_even_73 : decode cX12_even 73 = .ok (.bipush 100, 2) := by decide +kernel
theorem dX12_even_75 : decode cX12_even 75 = .ok (.idiv, 1) := by decide +kernel
theorem dX12_even_76 : decode cX12_even 76 = .ok (.iadd, 1) := by decide +kernel
theorem dX12_even_77 : decode cX12_even 77 = .ok (.aload_n 0, 1) := by decide +kernel
theorem dX12_even_78 : decode cX12_even 78 = .ok (.iload_n 1, 1) := by decide +kernel
theorem dX12_even_79 : decode cX12_even 79 = .ok (.invokevirtual 329, 3) := by decide +kernel
theorem dX12_even_82 : decode cX12_even 82 = .ok (.aload_n 0, 1) := by decide +kernel
theorem dX12_even_83 : decode cX12_even 83 = .ok (.iload_n 2, 1) := by decide +kernel
theorem dX12_even_84 : decode cX12_even 84 = .ok (.invokevirtual 329, 3) := by decide +kernel
theorem dX12_even_87 : decode cX12_even 87 = .ok (.aload_n 0, 1) := by decide +kernel
theorem dX12_even_88 : decode cX12_even 88 = .ok (.iload_n 1, 1) := by decide +kernel
theorem dX12_even_89 : decode cX12_even 89 = .ok (.invokevirtual 329, 3) := by decide +kernel
theorem dX12_even_92 : decode cX12_even 92 = .ok (.isub, 1) := by decide +kernel
theorem dX12_even_93 : decode cX12_even 93 = .ok (.iload 4, 2) := by decide +kernel
theorem dX12_even_95 : decode cX12_even 95 = .ok (.imul, 1) := by decide +kernel
theorem dX12_even_96 : decode cX12_even 96 = .ok (.bipush 100, 2) := by decide +kernel
theorem dX12_even_98 : decode cX12_even 98 = .ok (.idiv, 1) := by decide +kernel
theorem dX12_even_99 : decode cX12_even 99 = .ok (.iadd, 1) := by decide +kernel
theorem dX12_even_100 : decode cX12_even 100 = .ok (.invokevirtual 317, 3) := by decide +kernel
theorem dX12_even_103 : decode cX12_even 103 = .ok (.iastore, 1) := by decide +kernel
theorem dX12_even_104 : decode cX12_even 104 = .ok (.iinc 4 1, 3) := by decide +kernel
theorem dX12_even_107 : decode cX12_even 107 = .ok (.goto (-67), 3) := by decide +kernel
theorem dX12_even_110 : decode cX12_even 110 = .ok (.aload_n 0, 1) := by decide +kernel
theorem dX12_even_111 : decode cX12_even 111 = .ok (.getfield 71, 3) := by decide +kernel
theorem dX12_even_114 : decode cX12_even 114 = .ok (.iconst 0, 1) := by decide +kernel
theorem dX12_even_115 : decode cX12_even 115 = .ok (.iaload, 1) := by decide +kernel
theorem dX12_even_116 : decode cX12_even 116 = .ok (.ifCond .eq 13, 3) := by decide +kernel
theorem dX12_even_119 : decode cX12_even 119 = .ok (.aload_n 0, 1) := by decide +kernel
theorem dX12_even_120 : decode cX12_even 120 = .ok (.getfield 71, 3) := by decide +kernel
theorem dX12_even_123 : decode cX12_even 123 = .ok (.bipush 100, 2) := by decide +kernel
theorem dX12_even_125 : decode cX12_even 125 = .ok (.iaload, 1) := by decide +kernel
theorem dX12_even_126 : decode cX12_even 126 = .ok (.ifCond .ne 5, 3) := by decide +kernel
theorem dX12_even_129 : decode cX12_even 129 = .ok (.iconst (-1), 1) := by decide +kernel
theorem dX12_even_130 : decode cX12_even 130 = .ok (.ireturn, 1) := by decide +kernel
theorem dX12_even_131 : decode cX12_even 131 = .ok (.aload_n 0, 1) := by decide +kernel
theorem dX12_even_132 : decode cX12_even 132 = .ok (.iload_n 3, 1) := by decide +kernel
theorem dX12_even_133 : decode cX12_even 133 = .ok (.iconst 1, 1) := by decide +kernel
theorem dX12_even_134 : decode cX12_even 134 = .ok (.iadd, 1) := by decide +kernel
theorem dX12_even_135 : decode cX12_even 135 = .ok (.putfield 350, 3) := by decide +kernel
theorem dX12_even_138 : decode cX12_even 138 = .ok (.iconst 0, 1) := by decide +kernel
theorem dX12_even_139 : decode cX12_even 139 = .ok (.istore 4, 2) := by decide +kernel
theorem dX12_even_141 : decode cX12_even 141 = .ok (.iconst 0, 1) := by decide +kernel
theorem dX12_even_142 : decode cX12_even 142 = .ok (.istore 5, 2) := by decide +kernel
theorem dX12_even_144 : decode cX12_even 144 = .ok (.iload 5, 2) := by decide +kernel
theorem dX12_even_146 : decode cX12_even 146 = .ok (.iload_n 3, 1) := by decide +kernel
theorem dX12_even_147 : decode cX12_even 147 = .ok (.if_icmp .gt 150, 3) := by decide +kernel
theorem dX12_even_150 : decode cX12_even 150 = .ok (.aload_n 0, 1) := by decide +kernel
theorem dX12_even_151 : decode cX12_even 151 = .ok (.getfield 71, 3) := by decide +kernel
theorem dX12_even_154 : decode cX12_even 154 = .ok (.iconst 0, 1) := by decide +kernel
theorem dX12_even_155 : decode cX12_even 155 = .ok (.iaload, 1) := by decide +kernel
theorem dX12_even_156 : decode cX12_even 156 = .ok (.aload_n 0, 1) := by decide +kernel
theorem dX12_even_157 : decode cX12_even 157 = .ok (.getfield 71, 3) := by decide +kernel
theorem dX12_even_160 : decode cX12_even 160 = .ok (.bipush 100, 2) := by decide +kernel
theorem dX12_even_162 : decode cX12_even 162 = .ok (.iaload, 1) := by decide +kernel
theorem dX12_even_163 : decode cX12_even 163 = .ok (.aload_n 0, 1) := by decide +kernel
theorem dX12_even_164 : decode cX12_even 164 = .ok (.getfield 71, 3) := by decide +kernel
theorem dX12_even_167 : decode cX12_even 167 = .ok (.iconst 0, 1) := by decide +kernel
theorem dX12_even_168 : decode cX12_even 168 = .ok (.iaload, 1) := by decide +kernel
theorem dX12_even_169 : decode cX12_even 169 = .ok (.isub, 1) := by decide +kernel
theorem dX12_even_170 : decode cX12_even 170 = .ok (.iload 5, 2) := by decide +kernel
theorem dX12_even_172 : decode cX12_even 172 = .ok (.imul, 1) := by decide +kernel
theorem dX12_even_173 : decode cX12_even 173 = .ok (.iload_n 3, 1) := by decide +kernel
theorem dX12_even_174 : decode cX12_even 174 = .ok (.idiv, 1) := by decide +kernel
theorem dX12_even_175 : decode cX12_even 175 = .ok (.iadd, 1) := by decide +kernel
theorem dX12_even_176 : decode cX12_even 176 = .ok (.istore 6, 2) := by decide +kernel
theorem dX12_even_178 : decode cX12_even 178 = .ok (.iconst 0, 1) := by decide +kernel
theorem dX12_even_179 : decode cX12_even 179 = .ok (.istore 7, 2) := by decide +kernel
theorem dX12_even_181 : decode cX12_even 181 = .ok (.iconst 1, 1) := by decide +kernel
theorem dX12_even_182 : decode cX12_even 182 = .ok (.istore 8, 2) := by decide +kernel
theorem dX12_even_184 : decode cX12_even 184 = .ok (.iload 8, 2) := by decide +kernel
theorem dX12_even_186 : decode cX12_even 186 = .ok (.bipush 100, 2) := by decide +kernel
theorem dX12_even_188 : decode cX12_even 188 = .ok (.if_icmp .gt 52, 3) := by decide +kernel
theorem dX12_even_191 : decode cX12_even 191 = .ok (.aload_n 0, 1) := by decide +kernel
theorem dX12_even_192 : decode cX12_even 192 = .ok (.getfield 71, 3) := by decide +kernel
theorem dX12_even_195 : decode cX12_even 195 = .ok (.iload 8, 2) := by decide +kernel
theorem dX12_even_197 : decode cX12_even 197 = .ok (.iaload, 1) := by decide +kernel
theorem dX12_even_198 : decode cX12_even 198 = .ok (.ifCond .le 36, 3) := by decide +kernel
theorem dX12_even_201 : decode cX12_even 201 = .ok (.aload_n 0, 1) := by decide +kernel
theorem dX12_even_202 : decode cX12_even 202 = .ok (.getfield 71, 3) := by decide +kernel
theorem dX12_even_205 : decode cX12_even 205 = .ok (.iload 8, 2) := by decide +kernel
theorem dX12_even_207 : decode cX12_even 207 = .ok (.iaload, 1) := by decide +kernel
theorem dX12_even_208 : decode cX12_even 208 = .ok (.iload 6, 2) := by decide +kernel
theorem dX12_even_210 : decode cX12_even 210 = .ok (.isub, 1) := by decide +kernel
theorem dX12_even_211 : decode cX12_even 211 = .ok (.invokestatic 335, 3) := by decide +kernel
theorem dX12_even_214 : decode cX12_even 214 = .ok (.aload_n 0, 1) := by decide +kernel
theorem dX12_even_215 : decode cX12_even 215 = .ok (.getfield 71, 3) := by decide +kernel
theorem dX12_even_218 : decode cX12_even 218 = .ok (.iload 7, 2) := by decide +kernel
theorem dX12_even_220 : decode cX12_even 220 = .ok (.iaload, 1) := by decide +kernel
theorem dX12_even_221 : decode cX12_even 221 = .ok (.iload 6, 2) := by decide +kernel
theorem dX12_even_223 : decode cX12_even 223 = .ok (.isub, 1) := by decide +kernel
theorem dX12_even_224 : decode cX12_even 224 = .ok (.invokestatic 335, 3) := by decide +kernel
theorem dX12_even_227 : decode cX12_even 227 = .ok (.if_icmp .ge 7, 3) := by decide +kernel
theorem dX12_even_230 : decode cX12_even 230 = .ok (.iload 8, 2) := by decide +kernel
theorem dX12_even_232 : decode cX12_even 232 = .ok (.istore 7, 2) := by decide +kernel
theorem dX12_even_234 : decode cX12_even 234 = .ok (.iinc 8 1, 3) := by decide +kernel
theorem dX12_even_237 : decode cX12_even 237 = .ok (.goto (-53), 3) := by decide +kernel
theorem dX12_even_240 : decode cX12_even 240 = .ok (.aload_n 0, 1) := by decide +kernel
theorem dX12_even_241 : decode cX12_even 241 = .ok (.getfield 74, 3) := by decide +kernel
theorem dX12_even_244 : decode cX12_even 244 = .ok (.iload 5, 2) := by decide +kernel
theorem dX12_even_246 : decode cX12_even 246 = .ok (.iload 7, 2) := by decide +kernel
theorem dX12_even_248 : decode cX12_even 248 = .ok (.iastore, 1) := by decide +kernel
theorem dX12_even_249 : decode cX12_even 249 = .ok (.iload 5, 2) := by decide +kernel
theorem dX12_even_251 : decode cX12_even 251 = .ok (.ifCond .le 40, 3) := by decide +kernel
theorem dX12_even_254 : decode cX12_even 254 = .ok (.iload 7, 2) := by decide +kernel
theorem dX12_even_256 : decode cX12_even 256 = .ok (.aload_n 0, 1) := by decide +kernel
theorem dX12_even_257 : decode cX12_even 257 = .ok (.getfield 74, 3) := by decide +kernel
theorem dX12_even_260 : decode cX12_even 260 = .ok (.iload 5, 2) := by decide +kernel
theorem dX12_even_262 : decode cX12_even 262 = .ok (.iconst 1, 1) := by decide +kernel
theorem dX12_even_263 : decode cX12_even 263 = .ok (.isub, 1) := by decide +kernel
theorem dX12_even_264 : decode cX12_even 264 = .ok (.iaload, 1) := by decide +kernel
theorem dX12_even_265 : decode cX12_even 265 = .ok (.isub, 1) := by decide +kernel
theorem dX12_even_266 : decode cX12_even 266 = .ok (.invokestatic 335, 3) := by decide +kernel
theorem dX12_even_269 : decode cX12_even 269 = .ok (.iload 4, 2) := by decide +kernel
theorem dX12_even_271 : decode cX12_even 271 = .ok (.if_icmp .le 20, 3) := by decide +kernel
theorem dX12_even_274 : decode cX12_even 274 = .ok (.iload 7, 2) := by decide +kernel
theorem dX12_even_276 : decode cX12_even 276 = .ok (.aload_n 0, 1) := by decide +kernel
theorem dX12_even_277 : decode cX12_even 277 = .ok (.getfield 74, 3) := by decide +kernel
theorem dX12_even_280 : decode cX12_even 280 = .ok (.iload 5, 2) := by decide +kernel
theorem dX12_even_282 : decode cX12_even 282 = .ok (.iconst 1, 1) := by decide +kernel
theorem dX12_even_283 : decode cX12_even 283 = .ok (.isub, 1) := by decide +kernel
theorem dX12_even_284 : decode cX12_even 284 = .ok (.iaload, 1) := by decide +kernel
theorem dX12_even_285 : decode cX12_even 285 = .ok (.isub, 1) := by decide +kernel
theorem dX12_even_286 : decode cX12_even 286 = .ok (.invokestatic 335, 3) := by decide +kernel
theorem dX12_even_289 : decode cX12_even 289 = .ok (.istore 4, 2) := by decide +kernel
theorem dX12_even_291 : decode cX12_even 291 = .ok (.iinc 5 1, 3) := by decide +kernel
theorem dX12_even_294 : decode cX12_even 294 = .ok (.goto (-150), 3) := by decide +kernel
theorem dX12_even_297 : decode cX12_even 297 = .ok (.iload 4, 2) := by decide +kernel
theorem dX12_even_299 : decode cX12_even 299 = .ok (.ireturn, 1) := by decide +kernel
theorem hcX12_even : yX12_even.cls ≠ "java/lang/invoke/MethodHandle" ∧ yX12_even.cls ≠ "java/lang/invoke/VarHandle" ∧ (parseMethodDescriptor yX12_even.desc).map (fun d => d.parameters.length) = some 3 := ⟨by decide +kernel, by decide +kernel, by decide +kernel⟩
def fX12_even_L40 (x1 : Int) (x2 : Int) (k110 : sg_M → Prop) : Nat → sg_M → Int → Prop
  | 0, _, _ => False
  | n_40 + 1, s_40, x4_40 => ((100 < x4_40 → k110 s_40) ∧ (¬ (100 < x4_40) → fX12_aOf s_40 x1 (fun u15 => fX12_aOf s_40 x2 (fun u17 => fX12_aOf s_40 x1 (fun u19 => sg_R ((u17 - u19) * x4_40) ∧ fX12_bOf s_40 x1 (fun u22 => fX12_bOf s_40 x2 (fun u24 => fX12_bOf s_40 x1 (fun u26 => sg_R ((u24 - u26) * x4_40) ∧ sg_R (u15 + (Int.tdiv ((u17 - u19) * x4_40) 100)) ∧ sg_R (u22 + (Int.tdiv ((u24 - u26) * x4_40) 100)) ∧ fX12_voiceOf s_40 (u15 + (Int.tdiv ((u17 - u19) * x4_40) 100)) (u22 + (Int.tdiv ((u24 - u26) * x4_40) 100)) (fun u31 s33 => (0 ≤ x4_40 ∧ x4_40 < 101) ∧ ∀ s35 : sg_M, s35 = sg_up s33 85 x4_40 u31 → sg_R (x4_40 + 1) ∧ (fX12_even_L40 x1 x2 k110 n_40) s35 (x4_40 + 1))))))))))
def fX12_even_j234 (x8_184 : Int) (k184 : Int → Int → Prop) (x7_234 : Int) : Prop := sg_R (x8_184 + 1) ∧ k184 x7_234 (x8_184 + 1)
def fX12_even_L184 (s_144 : sg_M) (v57 : Int) (k240 : Int → Prop) : Nat → Int → Int → Prop
  | 0, _, _ => False
  | n_184 + 1, x7_184, x8_184 => ((100 < x8_184 → k240 x7_184) ∧ (¬ (100 < x8_184) → (0 ≤ x8_184 ∧ x8_184 < 101) ∧ (((s_144 85 x8_184) ≤ 0 → (fX12_even_j234 x8_184 (fX12_even_L184 s_144 v57 k240 n_184)) x7_184) ∧ (¬ ((s_144 85 x8_184) ≤ 0) → (0 ≤ x8_184 ∧ x8_184 < 101) ∧ sg_R ((s_144 85 x8_184) - v57) ∧ fX12_size ((s_144 85 x8_184) - v57) (fun u70 => (0 ≤ x7_184 ∧ x7_184 < 101) ∧ sg_R ((s_144 85 x7_184) - v57) ∧ fX12_size ((s_144 85 x7_184) - v57) (fun u76 => ((u76 ≤ u70 → (fX12_even_j234 x8_184 (fX12_even_L184 s_144 v57 k240 n_184)) x7_184) ∧ (¬ (u76 ≤ u70) → (fX12_even_j234 x8_184 (fX12_even_L184 s_144 v57 k240 n_184)) x8_184))))))))
def fX12_even_j291 (x5_144 : Int) (s82 : sg_M) (k144 : sg_M → Int → Int → Prop) (x4_291 : Int) : Prop := sg_R (x5_144 + 1) ∧ k144 s82 x4_291 (x5_144 + 1)
def fX12_even_L144 (x3 : Int) (Q : Int → sg_M → Prop) : Nat → sg_M → Int → Int → Prop
  | 0, _, _, _ => False
  | n_144 + 1, s_144, x4_144, x5_144 => ((x3 < x5_144 → Q x4_144 s_144) ∧ (¬ (x3 < x5_144) → sg_R (((s_144 85 100) - (s_144 85 0)) * x5_144) ∧ (x3 ≠ 0) ∧ ∀ v57 : Int, v57 = ((s_144 85 0) + (Int.tdiv (((s_144 85 100) - (s_144 85 0)) * x5_144) x3)) → sg_R v57 ∧ (∃ n79 : Nat, fX12_even_L184 s_144 v57 (fun x7_240e184 => (0 ≤ x5_144 ∧ x5_144 < 21) ∧ ∀ s82 : sg_M, s82 = sg_up s_144 86 x5_144 x7_240e184 → ((x5_144 ≤ 0 → (fX12_even_j291 x5_144 s82 (fX12_even_L144 x3 Q n_144)) x4_144) ∧ (¬ (x5_144 ≤ 0) → (0 ≤ (x5_144 - 1) ∧ (x5_144 - 1) < 21) ∧ sg_R (x7_240e184 - (s82 86 (x5_144 - 1))) ∧ fX12_size (x7_240e184 - (s82 86 (x5_144 - 1))) (fun u90 => ((u90 ≤ x4_144 → (fX12_even_j291 x5_144 s82 (fX12_even_L144 x3 Q n_144)) x4_144) ∧ (¬ (u90 ≤ x4_144) → (0 ≤ (x5_144 - 1) ∧ (x5_144 - 1) < 21) ∧ sg_R (x7_240e184 - (s82 86 (x5_144 - 1))) ∧ fX12_size (x7_240e184 - (s82 86 (x5_144 - 1))) (fun u97 => (fX12_even_j291 x5_144 s82 (fX12_even_L144 x3 Q n_144)) u97))))))) n79 0 1)))
def fX12_even (s0 : sg_M) (x1 : Int) (x2 : Int) (x3 : Int) (Q : Int → sg_M → Prop) : Prop := ∀ s1 : sg_M, s1 = sg_up s0 64 0 0 → fX12_lay s1 (fun s3 => fX12_isWritten s3 x1 (fun u4 => ((u4 = 0 → Q (-1) s3) ∧ (¬ (u4 = 0) → fX12_isWritten s3 x2 (fun u7 => ((u7 = 0 → Q (-1) s3) ∧ (¬ (u7 = 0) → fX12_isIn x3 1 20 (fun u10 => ((u10 ≠ 0 → (∃ n38 : Nat, fX12_even_L40 x1 x2 (fun s_110e40 => (((s_110e40 85 0) = 0 → Q (-1) s_110e40) ∧ (¬ ((s_110e40 85 0) = 0) → (((s_110e40 85 100) ≠ 0 → sg_R (x3 + 1) ∧ ∀ s46 : sg_M, s46 = sg_up s_110e40 64 55 (x3 + 1) → (∃ n99 : Nat, fX12_even_L144 x3 Q n99 s46 0 0)) ∧ ((s_110e40 85 100) = 0 → Q (-1) s_110e40))))) n38 s3 0)) ∧ (u10 = 0 → Q (-1) s3))))))))))
set_option maxHeartbeats 4000000 in
set_option maxRecDepth 100000 in
theorem CX12_even {l : Launch} {G : sg_G} {La : sg_L} {s0 : sg_M} (hst : sg_St La) {x1 : Int} (r1 : sg_R x1) {x2 : Int} (r2 : sg_R x2) {x3 : Int} (r3 : sg_R x3) {Q : Int → sg_M → Prop} (hf : fX12_even s0 x1 x2 x3 Q) : sg_C l G yX12_even cX12_even 9 (some .int) 6 0 0 La s0 [sg_r 64, sg_i x1, sg_i x2, sg_i x3] (sg_HI La Q) := by
  refine sg_body (by decide +kernel) (Nat.le_of_ble_eq_true rfl) ?_
  intro p e s m args below meth c F hnm
  unfold fX12_even at hf
  show sg_W p l e (sg_rm 6 0 0) s m args below meth c (MQ below (sg_Q (some .int) G La s.heap.size (sg_HI La Q)) args s 0 0 (sg_A La s.heap.size)) 9 G (sg_A La s.heap.size) La s0 0 0 0 [(0, sg_r 64), (1, sg_i x1), (2, sg_i x2), (3, sg_i x3)] []
  refine gw_aload_n F 0 rfl rfl (by decide) dX12_even_0 ?_
  refine gw_iconst F dX12_even_1 ?_
  obtain ⟨s1, e2⟩ : ∃ z : sg_M, z = sg_up s0 64 0 0 := ⟨_, rfl⟩
  have hf := hf s1 e2
  refine gw_put0 F (so_64 hst) (by decide) rfl sg_lay_RX12 (j := 0) (by decide) (by decide) e2 tyX12_ok nmX12 rfl (tyX12_ok 0 (by decide)) rfl (host := "") (.inl kw_956) dX12_even_2 ?_
  refine gw_aload_n F 0 rfl rfl (by decide) dX12_even_5 ?_
  refine gk_HV F (gc_V F (S := []) (As := []) (T := TX12) (N := 62) (CX12_lay hst hf) (so_64 hst) (by decide) rfl kw_1043 kw_103 kw_1041 kw_1042 kw_41 hcX12_lay ⟨by decide, by decide⟩ rfl rfl (Nat.le_of_ble_eq_true rfl) ⟨by decide, by decide⟩ dX12_even_6) (fun s3 hf => ?_)
  refine gw_aload_n F 0 rfl rfl (by decide) dX12_even_9 ?_
  refine gw_iload_n F 1 rfl rfl dX12_even_10 ?_
  refine gk_PZ F (gc_V F (S := []) (As := [sg_i x1]) (T := TX12) (N := 62) (CX12_isWritten hst r1 hf) (so_64 hst) (by decide) rfl kw_1219 kw_103 kw_1217 kw_1218 kw_71 hcX12_isWritten ⟨by decide, by decide⟩ rfl rfl (Nat.le_of_ble_eq_true rfl) ⟨by decide, by decide⟩ dX12_even_11) (fun u4 h5 hf => ?_)
  refine gw_if_eq F (tgt := 35) dX12_even_14 (by decide) (sg_B_R h5) (fun c6 => ?_) (fun c6 => ?_)
  · have hf := hf.1 c6
    refine gw_iconst F dX12_even_35 ?_
    exact gr_HI F (by decide) hf (by decide) (by decide) dX12_even_36
  · have hf := hf.2 c6
    refine gw_aload_n F 0 rfl rfl (by decide) dX12_even_17 ?_
    refine gw_iload_n F 2 rfl rfl dX12_even_18 ?_
    refine gk_PZ F (gc_V F (S := []) (As := [sg_i x2]) (T := TX12) (N := 62) (CX12_isWritten hst r2 hf) (so_64 hst) (by decide) rfl kw_1219 kw_103 kw_1217 kw_1218 kw_71 hcX12_isWritten ⟨by decide, by decide⟩ rfl rfl (Nat.le_of_ble_eq_true rfl) ⟨by decide, by decide⟩ dX12_even_19) (fun u7 h8 hf => ?_)
    refine gw_if_eq F (tgt := 35) dX12_even_22 (by decide) (sg_B_R h8) (fun c9 => ?_) (fun c9 => ?_)
    · have hf := hf.1 c9
      refine gw_iconst F dX12_even_35 ?_
      exact gr_HI F (by decide) hf (by decide) (by decide) dX12_even_36
    · have hf := hf.2 c9
      refine gw_iload_n F 3 rfl rfl dX12_even_25 ?_
      refine gw_iconst F dX12_even_26 ?_
      refine gw_bipush F rfl dX12_even_27 ?_
      refine gk_PZ F (gc_S F (S := []) (As := [sg_i x3, sg_i 1, sg_i 20]) (CX12_isIn r3 (by decide) (by decide) hf) kw_1084 kw_103 kw_1082 kw_1083 hcX12_isIn ⟨by decide, by decide⟩ rfl rfl (Nat.le_of_ble_eq_true rfl) ⟨by decide, by decide⟩ dX12_even_29) (fun u10 h11 hf => ?_)
      refine gw_if_ne F (tgt := 37) dX12_even_32 (by decide) (sg_B_R h11) (fun c12 => ?_) (fun c12 => ?_)
      · have hf := hf.1 c12
        refine gw_iconst F dX12_even_37 ?_
        refine gw_istore F (by decide) rfl dX12_even_38 ?_
        have L40 : ∀ (k110 : sg_M → Prop) (hk110 : ∀ (s_110e40 : sg_M), k110 s_110e40 → sg_W p l e (sg_rm 6 0 0) s m args below meth c (MQ below (sg_Q (some .int) G La s.heap.size (sg_HI La Q)) args s 0 0 (sg_A La s.heap.size)) 9 G (sg_A La s.heap.size) La s_110e40 0 0 110 [(0, sg_r 64), (3, sg_i x3)] []), ∀ n_40 : Nat, ∀ (s_40 : sg_M) (x4_40 : Int), sg_R x4_40 → fX12_even_L40 x1 x2 k110 n_40 s_40 x4_40 → sg_W p l e (sg_rm 6 0 0) s m args below meth c (MQ below (sg_Q (some .int) G La s.heap.size (sg_HI La Q)) args s 0 0 (sg_A La s.heap.size)) 9 G (sg_A La s.heap.size) La s_40 0 0 40 [(0, sg_r 64), (1, sg_i x1), (2, sg_i x2), (3, sg_i x3), (4, sg_i x4_40)] [] := by
          intro k110 hk110 n_40
          induction n_40 with
          | zero => intro s_40 x4_40 r4_40 hf; exact hf.elim
          | succ n_40 ih =>
            intro s_40 x4_40 r4_40 hf
            unfold fX12_even_L40 at hf
            refine gw_iload F 4 rfl dX12_even_40 ?_
            refine gw_bipush F rfl dX12_even_42 ?_
            refine gw_icmp_gt F (tgt := 110) dX12_even_44 (by decide) r4_40 (by decide) (fun c13 => ?_) (fun c13 => ?_)
            · have hf := hf.1 c13
              refine gw_sub [0, 3] rfl ?_
              exact hk110 s_40 hf
            · have hf := hf.2 c13
              refine gw_aload_n F 0 rfl rfl (by decide) dX12_even_47 ?_
              refine gw_get7 F (so_64 hst) (by decide) rfl sg_lay_RX12 (j := 53) (by decide) (o1 := 85) (by first | rfl | omega) rfl (host := "") (.inl kw_1009) dX12_even_48 (fun h14 => ?_)
              refine gw_iload F 4 rfl dX12_even_51 ?_
              refine gw_aload_n F 0 rfl rfl (by decide) dX12_even_53 ?_
              refine gw_aload_n F 0 rfl rfl (by decide) dX12_even_54 ?_
              refine gw_iload_n F 1 rfl rfl dX12_even_55 ?_
              refine gk_PI F (gc_V F (S := [sg_r 64, sg_i x4_40, sg_r 85]) (As := [sg_i x1]) (T := TX12) (N := 62) (CX12_aOf hst r1 hf) (so_64 hst) (by decide) rfl kw_1222 kw_103 kw_1220 kw_1221 kw_72 hcX12_aOf ⟨by decide, by decide⟩ rfl rfl (Nat.le_of_ble_eq_true rfl) ⟨by decide, by decide⟩ dX12_even_56) (fun u15 h16 hf => ?_)
              refine gw_aload_n F 0 rfl rfl (by decide) dX12_even_59 ?_
              refine gw_iload_n F 2 rfl rfl dX12_even_60 ?_
              refine gk_PI F (gc_V F (S := [sg_i u15, sg_r 64, sg_i x4_40, sg_r 85]) (As := [sg_i x2]) (T := TX12) (N := 62) (CX12_aOf hst r2 hf) (so_64 hst) (by decide) rfl kw_1222 kw_103 kw_1220 kw_1221 kw_72 hcX12_aOf ⟨by decide, by decide⟩ rfl rfl (Nat.le_of_ble_eq_true rfl) ⟨by decide, by decide⟩ dX12_even_61) (fun u17 h18 hf => ?_)
              refine gw_aload_n F 0 rfl rfl (by decide) dX12_even_64 ?_
              refine gw_iload_n F 1 rfl rfl dX12_even_65 ?_
              refine gk_PI F (gc_V F (S := [sg_i u17, sg_i u15, sg_r 64, sg_i x4_40, sg_r 85]) (As := [sg_i x1]) (T := TX12) (N := 62) (CX12_aOf hst r1 hf) (so_64 hst) (by decide) rfl kw_1222 kw_103 kw_1220 kw_1221 kw_72 hcX12_aOf ⟨by decide, by decide⟩ rfl rfl (Nat.le_of_ble_eq_true rfl) ⟨by decide, by decide⟩ dX12_even_66) (fun u19 h20 hf => ?_)
              refine gw_isub F rfl dX12_even_69 ?_
              refine gw_iload F 4 rfl dX12_even_70 ?_
              refine gw_imul F rfl dX12_even_72 ?_
              refine gw_bipush F rfl dX12_even_73 ?_
              obtain ⟨g21, hf⟩ := hf
              refine gw_idiv F g21 (by decide) (by decide) rfl dX12_even_75 ?_
              refine gw_iadd F rfl dX12_even_76 ?_
              refine gw_aload_n F 0 rfl rfl (by decide) dX12_even_77 ?_
              refine gw_iload_n F 1 rfl rfl dX12_even_78 ?_
              refine gk_PI F (gc_V F (S := [sg_i (u15 + (Int.tdiv ((u17 - u19) * x4_40) 100)), sg_r 64, sg_i x4_40, sg_r 85]) (As := [sg_i x1]) (T := TX12) (N := 62) (CX12_bOf hst r1 hf) (so_64 hst) (by decide) rfl kw_1225 kw_103 kw_1223 kw_1224 kw_73 hcX12_bOf ⟨by decide, by decide⟩ rfl rfl (Nat.le_of_ble_eq_true rfl) ⟨by decide, by decide⟩ dX12_even_79) (fun u22 h23 hf => ?_)
              refine gw_aload_n F 0 rfl rfl (by decide) dX12_even_82 ?_
              refine gw_iload_n F 2 rfl rfl dX12_even_83 ?_
              refine gk_PI F (gc_V F (S := [sg_i u22, sg_i (u15 + (Int.tdiv ((u17 - u19) * x4_40) 100)), sg_r 64, sg_i x4_40, sg_r 85]) (As := [sg_i x2]) (T := TX12) (N := 62) (CX12_bOf hst r2 hf) (so_64 hst) (by decide) rfl kw_1225 kw_103 kw_1223 kw_1224 kw_73 hcX12_bOf ⟨by decide, by decide⟩ rfl rfl (Nat.le_of_ble_eq_true rfl) ⟨by decide, by decide⟩ dX12_even_84) (fun u24 h25 hf => ?_)
              refine gw_aload_n F 0 rfl rfl (by decide) dX12_even_87 ?_
              refine gw_iload_n F 1 rfl rfl dX12_even_88 ?_
              refine gk_PI F (gc_V F (S := [sg_i u24, sg_i u22, sg_i (u15 + (Int.tdiv ((u17 - u19) * x4_40) 100)), sg_r 64, sg_i x4_40, sg_r 85]) (As := [sg_i x1]) (T := TX12) (N := 62) (CX12_bOf hst r1 hf) (so_64 hst) (by decide) rfl kw_1225 kw_103 kw_1223 kw_1224 kw_73 hcX12_bOf ⟨by decide, by decide⟩ rfl rfl (Nat.le_of_ble_eq_true rfl) ⟨by decide, by decide⟩ dX12_even_89) (fun u26 h27 hf => ?_)
              refine gw_isub F rfl dX12_even_92 ?_
              refine gw_iload F 4 rfl dX12_even_93 ?_
              refine gw_imul F rfl dX12_even_95 ?_
              refine gw_bipush F rfl dX12_even_96 ?_
              obtain ⟨g28, hf⟩ := hf
              refine gw_idiv F g28 (by decide) (by decide) rfl dX12_even_98 ?_
              refine gw_iadd F rfl dX12_even_99 ?_
              obtain ⟨g29, hf⟩ := hf
              obtain ⟨g30, hf⟩ := hf
              refine gk_HI F (gc_V F (S := [sg_i x4_40, sg_r 85]) (As := [sg_i (u15 + (Int.tdiv ((u17 - u19) * x4_40) 100)), sg_i (u22 + (Int.tdiv ((u24 - u26) * x4_40) 100))]) (T := TX12) (N := 62) (CX12_voiceOf hst g29 g30 hf) (so_64 hst) (by decide) rfl kw_1202 kw_103 kw_1200 kw_1201 kw_68 hcX12_voiceOf ⟨by decide, by decide⟩ rfl rfl (Nat.le_of_ble_eq_true rfl) ⟨by decide, by decide⟩ dX12_even_100) (fun u31 s33 h32 hf => ?_)
              obtain ⟨⟨b340, b341⟩, hf⟩ := hf
              obtain ⟨s35, e36⟩ : ∃ z : sg_M, z = sg_up s33 85 x4_40 u31 := ⟨_, rfl⟩
              have hf := hf s35 e36
              refine gw_iast F (sa_85 hst) b340 b341 h32 e36 dX12_even_103 ?_
              refine gw_iinc F (z := (x4_40 + 1)) 4 rfl (by omega) (by decide) rfl dX12_even_104 ?_
              refine gw_goto F (tgt := 40) dX12_even_107 (by decide) ?_
              obtain ⟨g37, hf⟩ := hf
              refine gw_sub [1, 2, 3, 4, 0] rfl ?_
              exact ih s35 (x4_40 + 1) g37 hf
        obtain ⟨n38, hf⟩ := hf
        refine gw_sub [1, 2, 3, 4, 0] rfl ?_
        refine L40 _ (fun s_110e40 hf => ?_) n38 s3 0 (by decide) hf
        refine gw_aload_n F 0 rfl rfl (by decide) dX12_even_110 ?_
        refine gw_get7 F (so_64 hst) (by decide) rfl sg_lay_RX12 (j := 53) (by decide) (o1 := 85) (by first | rfl | omega) rfl (host := "") (.inl kw_1009) dX12_even_111 (fun h39 => ?_)
        refine gw_iconst F dX12_even_114 ?_
        refine gw_iald F (sa_85 hst) (by decide) (by decide) dX12_even_115 (fun h40 => ?_)
        refine gw_if_eq F (tgt := 129) dX12_even_116 (by decide) h40 (fun c41 => ?_) (fun c41 => ?_)
        · have hf := hf.1 c41
          refine gw_iconst F dX12_even_129 ?_
          exact gr_HI F (by decide) hf (by decide) (by decide) dX12_even_130
        · have hf := hf.2 c41
          refine gw_aload_n F 0 rfl rfl (by decide) dX12_even_119 ?_
          refine gw_get7 F (so_64 hst) (by decide) rfl sg_lay_RX12 (j := 53) (by decide) (o1 := 85) (by first | rfl | omega) rfl (host := "") (.inl kw_1009) dX12_even_120 (fun h42 => ?_)
          refine gw_bipush F rfl dX12_even_123 ?_
          refine gw_iald F (sa_85 hst) (by decide) (by decide) dX12_even_125 (fun h43 => ?_)
          refine gw_if_ne F (tgt := 131) dX12_even_126 (by decide) h43 (fun c44 => ?_) (fun c44 => ?_)
          · have hf := hf.1 c44
            refine gw_aload_n F 0 rfl rfl (by decide) dX12_even_131 ?_
            refine gw_iload_n F 1 rfl rfl dX12_even_132 ?_
            refine gw_iconst F dX12_even_133 ?_
            refine gw_iadd F rfl dX12_even_134 ?_
            obtain ⟨g45, hf⟩ := hf
            obtain ⟨s46, e47⟩ : ∃ z : sg_M, z = sg_up s_110e40 64 55 (x3 + 1) := ⟨_, rfl⟩
            have hf := hf s46 e47
            refine gw_put0 F (so_64 hst) (by decide) rfl sg_lay_RX12 (j := 55) (by decide) g45 e47 tyX12_ok nmX12 rfl (tyX12_ok 55 (by decide)) rfl (host := "") (.inl kw_1011) dX12_even_135 ?_
            refine gw_iconst F dX12_even_138 ?_
            refine gw_istore F (by decide) rfl dX12_even_139 ?_
            refine gw_iconst F dX12_even_141 ?_
            refine gw_istore F (by decide) rfl dX12_even_142 ?_
            have L144 : ∀ n_144 : Nat, ∀ (s_144 : sg_M) (x4_144 : Int) (x5_144 : Int), sg_R x4_144 → sg_R x5_144 → fX12_even_L144 x3 Q n_144 s_144 x4_144 x5_144 → sg_W p l e (sg_rm 6 0 0) s m args below meth c (MQ below (sg_Q (some .int) G La s.heap.size (sg_HI La Q)) args s 0 0 (sg_A La s.heap.size)) 9 G (sg_A La s.heap.size) La s_144 0 0 144 [(0, sg_r 64), (3, sg_i x3), (4, sg_i x4_144), (5, sg_i x5_144)] [] := by
              intro n_144
              induction n_144 with
              | zero => intro s_144 x4_144 x5_144 r4_144 r5_144 hf; exact hf.elim
              | succ n_144 ih =>
                intro s_144 x4_144 x5_144 r4_144 r5_144 hf
                unfold fX12_even_L144 at hf
                refine gw_iload F 3 rfl dX12_even_144 ?_
                refine gw_iload_n F 1 rfl rfl dX12_even_146 ?_
                refine gw_icmp_gt F (tgt := 297) dX12_even_147 (by decide) r5_144 r3 (fun c48 => ?_) (fun c48 => ?_)
                · have hf := hf.1 c48
                  refine gw_iload F 2 rfl dX12_even_297 ?_
                  exact gr_HI F r4_144 hf (by decide) (by decide) dX12_even_299
                · have hf := hf.2 c48
                  refine gw_aload_n F 0 rfl rfl (by decide) dX12_even_150 ?_
                  refine gw_get7 F (so_64 hst) (by decide) rfl sg_lay_RX12 (j := 53) (by decide) (o1 := 85) (by first | rfl | omega) rfl (host := "") (.inl kw_1009) dX12_even_151 (fun h49 => ?_)
                  refine gw_iconst F dX12_even_154 ?_
                  refine gw_iald F (sa_85 hst) (by decide) (by decide) dX12_even_155 (fun h50 => ?_)
                  refine gw_aload_n F 0 rfl rfl (by decide) dX12_even_156 ?_
                  refine gw_get7 F (so_64 hst) (by decide) rfl sg_lay_RX12 (j := 53) (by decide) (o1 := 85) (by first | rfl | omega) rfl (host := "") (.inl kw_1009) dX12_even_157 (fun h51 => ?_)
                  refine gw_bipush F rfl dX12_even_160 ?_
                  refine gw_iald F (sa_85 hst) (by decide) (by decide) dX12_even_162 (fun h52 => ?_)
                  refine gw_aload_n F 0 rfl rfl (by decide) dX12_even_163 ?_
                  refine gw_get7 F (so_64 hst) (by decide) rfl sg_lay_RX12 (j := 53) (by decide) (o1 := 85) (by first | rfl | omega) rfl (host := "") (.inl kw_1009) dX12_even_164 (fun h53 => ?_)
                  refine gw_iconst F dX12_even_167 ?_
                  refine gw_iald F (sa_85 hst) (by decide) (by decide) dX12_even_168 (fun h54 => ?_)
                  refine gw_isub F rfl dX12_even_169 ?_
                  refine gw_iload F 3 rfl dX12_even_170 ?_
                  refine gw_imul F rfl dX12_even_172 ?_
                  refine gw_iload_n F 1 rfl rfl dX12_even_173 ?_
                  obtain ⟨g55, hf⟩ := hf
                  obtain ⟨g56, hf⟩ := hf
                  refine gw_idiv F g55 r3 g56 rfl dX12_even_174 ?_
                  refine gw_iadd F rfl dX12_even_175 ?_
                  obtain ⟨v57, e58⟩ : ∃ z : Int, z = ((s_144 85 0) + (Int.tdiv (((s_144 85 100) - (s_144 85 0)) * x5_144) x3)) := ⟨_, rfl⟩
                  obtain ⟨g59, hf⟩ := hf v57 e58
                  refine gw_nmI e58 ?_
                  refine gw_istore F (by decide) rfl dX12_even_176 ?_
                  refine gw_iconst F dX12_even_178 ?_
                  refine gw_istore F (by decide) rfl dX12_even_179 ?_
                  refine gw_iconst F dX12_even_181 ?_
                  refine gw_istore F (by decide) rfl dX12_even_182 ?_
                  have L184 : ∀ (k240 : Int → Prop) (hk240 : ∀ (x7_240e184 : Int), sg_R x7_240e184 → k240 x7_240e184 → sg_W p l e (sg_rm 6 0 0) s m args below meth c (MQ below (sg_Q (some .int) G La s.heap.size (sg_HI La Q)) args s 0 0 (sg_A La s.heap.size)) 9 G (sg_A La s.heap.size) La s_144 0 0 240 [(0, sg_r 64), (3, sg_i x3), (4, sg_i x4_144), (5, sg_i x5_144), (7, sg_i x7_240e184)] []), ∀ n_184 : Nat, ∀ (x7_184 : Int) (x8_184 : Int), sg_R x7_184 → sg_R x8_184 → fX12_even_L184 s_144 v57 k240 n_184 x7_184 x8_184 → sg_W p l e (sg_rm 6 0 0) s m args below meth c (MQ below (sg_Q (some .int) G La s.heap.size (sg_HI La Q)) args s 0 0 (sg_A La s.heap.size)) 9 G (sg_A La s.heap.size) La s_144 0 0 184 [(0, sg_r 64), (3, sg_i x3), (4, sg_i x4_144), (5, sg_i x5_144), (6, sg_i v57), (7, sg_i x7_184), (8, sg_i x8_184)] [] := by
                    intro k240 hk240 n_184
                    induction n_184 with
                    | zero => intro x7_184 x8_184 r7_184 r8_184 hf; exact hf.elim
                    | succ n_184 ih =>
                      intro x7_184 x8_184 r7_184 r8_184 hf
                      unfold fX12_even_L184 at hf
                      refine gw_iload F 6 rfl dX12_even_184 ?_
                      refine gw_bipush F rfl dX12_even_186 ?_
                      refine gw_icmp_gt F (tgt := 240) dX12_even_188 (by decide) r8_184 (by decide) (fun c60 => ?_) (fun c60 => ?_)
                      · have hf := hf.1 c60
                        refine gw_sub [0, 1, 2, 3, 5] rfl ?_
                        exact hk240 x7_184 r7_184 hf
                      · have hf := hf.2 c60
                        refine gw_aload_n F 0 rfl rfl (by decide) dX12_even_191 ?_
                        refine gw_get7 F (so_64 hst) (by decide) rfl sg_lay_RX12 (j := 53) (by decide) (o1 := 85) (by first | rfl | omega) rfl (host := "") (.inl kw_1009) dX12_even_192 (fun h61 => ?_)
                        refine gw_iload F 6 rfl dX12_even_195 ?_
                        obtain ⟨⟨b620, b621⟩, hf⟩ := hf
                        refine gw_iald F (sa_85 hst) b620 b621 dX12_even_197 (fun h63 => ?_)
                        have J234 : ∀ (x7_234 : Int), sg_R x7_234 → (fX12_even_j234 x8_184 (fX12_even_L184 s_144 v57 k240 n_184)) x7_234 → sg_W p l e (sg_rm 6 0 0) s m args below meth c (MQ below (sg_Q (some .int) G La s.heap.size (sg_HI La Q)) args s 0 0 (sg_A La s.heap.size)) 9 G (sg_A La s.heap.size) La s_144 0 0 234 [(0, sg_r 64), (3, sg_i x3), (4, sg_i x4_144), (5, sg_i x5_144), (6, sg_i v57), (7, sg_i x7_234), (8, sg_i x8_184)] [] := by
                          intro x7_234 r7_234 hf
                          unfold fX12_even_j234 at hf
                          refine gw_iinc F (z := (x8_184 + 1)) 6 rfl (by omega) (by decide) rfl dX12_even_234 ?_
                          refine gw_goto F (tgt := 184) dX12_even_237 (by decide) ?_
                          obtain ⟨g64, hf⟩ := hf
                          refine gw_sub [1, 2, 3, 4, 5, 6, 0] rfl ?_
                          exact ih x7_234 (x8_184 + 1) r7_234 g64 hf
                        refine gw_if_le F (tgt := 234) dX12_even_198 (by decide) h63 (fun c65 => ?_) (fun c65 => ?_)
                        · have hf := hf.1 c65
                          refine gw_sub [0, 1, 2, 3, 4, 5, 6] rfl ?_
                          exact J234 x7_184 r7_184 hf
                        · have hf := hf.2 c65
                          refine gw_aload_n F 0 rfl rfl (by decide) dX12_even_201 ?_
                          refine gw_get7 F (so_64 hst) (by decide) rfl sg_lay_RX12 (j := 53) (by decide) (o1 := 85) (by first | rfl | omega) rfl (host := "") (.inl kw_1009) dX12_even_202 (fun h66 => ?_)
                          refine gw_iload F 6 rfl dX12_even_205 ?_
                          obtain ⟨⟨b670, b671⟩, hf⟩ := hf
                          refine gw_iald F (sa_85 hst) b670 b671 dX12_even_207 (fun h68 => ?_)
                          refine gw_iload F 4 rfl dX12_even_208 ?_
                          refine gw_isub F rfl dX12_even_210 ?_
                          obtain ⟨g69, hf⟩ := hf
                          refine gk_PI F (gc_S F (S := []) (As := [sg_i ((s_144 85 x8_184) - v57)]) (CX12_size g69 hf) kw_1243 kw_103 kw_1241 kw_1242 hcX12_size ⟨by decide, by decide⟩ rfl rfl (Nat.le_of_ble_eq_true rfl) ⟨by decide, by decide⟩ dX12_even_211) (fun u70 h71 hf => ?_)
                          refine gw_aload_n F 0 rfl rfl (by decide) dX12_even_214 ?_
                          refine gw_get7 F (so_64 hst) (by decide) rfl sg_lay_RX12 (j := 53) (by decide) (o1 := 85) (by first | rfl | omega) rfl (host := "") (.inl kw_1009) dX12_even_215 (fun h72 => ?_)
                          refine gw_iload F 5 rfl dX12_even_218 ?_
                          obtain ⟨⟨b730, b731⟩, hf⟩ := hf
                          refine gw_iald F (sa_85 hst) b730 b731 dX12_even_220 (fun h74 => ?_)
                          refine gw_iload F 4 rfl dX12_even_221 ?_
                          refine gw_isub F rfl dX12_even_223 ?_
                          obtain ⟨g75, hf⟩ := hf
                          refine gk_PI F (gc_S F (S := [sg_i u70]) (As := [sg_i ((s_144 85 x7_184) - v57)]) (CX12_size g75 hf) kw_1243 kw_103 kw_1241 kw_1242 hcX12_size ⟨by decide, by decide⟩ rfl rfl (Nat.le_of_ble_eq_true rfl) ⟨by decide, by decide⟩ dX12_even_224) (fun u76 h77 hf => ?_)
                          refine gw_icmp_ge F (tgt := 234) dX12_even_227 (by decide) h71 h77 (fun c78 => ?_) (fun c78 => ?_)
                          · have hf := hf.1 c78
                            refine gw_sub [0, 1, 2, 3, 4, 5, 6] rfl ?_
                            exact J234 x7_184 r7_184 hf
                          · have hf := hf.2 c78
                            refine gw_iload F 6 rfl dX12_even_230 ?_
                            refine gw_istore F (by decide) rfl dX12_even_232 ?_
                            refine gw_sub [1, 2, 3, 4, 5, 0, 6] rfl ?_
                            exact J234 x8_184 r8_184 hf
                  obtain ⟨n79, hf⟩ := hf
                  refine gw_sub [3, 4, 5, 6, 2, 1, 0] rfl ?_
                  refine L184 _ (fun x7_240e184 r7_240e184 hf => ?_) n79 0 1 (by decide) (by decide) hf
                  refine gw_aload_n F 0 rfl rfl (by decide) dX12_even_240 ?_
                  refine gw_get7 F (so_64 hst) (by decide) rfl sg_lay_RX12 (j := 54) (by decide) (o1 := 86) (by first | rfl | omega) rfl (host := "") (.inl kw_1010) dX12_even_241 (fun h80 => ?_)
                  refine gw_iload F 3 rfl dX12_even_244 ?_
                  refine gw_iload F 4 rfl dX12_even_246 ?_
                  obtain ⟨⟨b810, b811⟩, hf⟩ := hf
                  obtain ⟨s82, e83⟩ : ∃ z : sg_M, z = sg_up s_144 86 x5_144 x7_240e184 := ⟨_, rfl⟩
                  have hf := hf s82 e83
                  refine gw_iast F (sa_86 hst) b810 b811 r7_240e184 e83 dX12_even_248 ?_
                  refine gw_iload F 3 rfl dX12_even_249 ?_
                  have J291 : ∀ (x4_291 : Int), sg_R x4_291 → (fX12_even_j291 x5_144 s82 (fX12_even_L144 x3 Q n_144)) x4_291 → sg_W p l e (sg_rm 6 0 0) s m args below meth c (MQ below (sg_Q (some .int) G La s.heap.size (sg_HI La Q)) args s 0 0 (sg_A La s.heap.size)) 9 G (sg_A La s.heap.size) La s82 0 0 291 [(0, sg_r 64), (3, sg_i x3), (4, sg_i x4_291), (5, sg_i x5_144)] [] := by
                    intro x4_291 r4_291 hf
                    unfold fX12_even_j291 at hf
                    refine gw_iinc F (z := (x5_144 + 1)) 3 rfl (by omega) (by decide) rfl dX12_even_291 ?_
                    refine gw_goto F (tgt := 144) dX12_even_294 (by decide) ?_
                    obtain ⟨g84, hf⟩ := hf
                    refine gw_sub [1, 2, 3, 0] rfl ?_
                    exact ih s82 x4_291 (x5_144 + 1) r4_291 g84 hf
                  refine gw_if_le F (tgt := 291) dX12_even_251 (by decide) r5_144 (fun c85 => ?_) (fun c85 => ?_)
                  · have hf := hf.1 c85
                    refine gw_sub [0, 1, 2, 3] rfl ?_
                    exact J291 x4_144 r4_144 hf
                  · have hf := hf.2 c85
                    refine gw_iload F 4 rfl dX12_even_254 ?_
                    refine gw_aload_n F 0 rfl rfl (by decide) dX12_even_256 ?_
                    refine gw_get7 F (so_64 hst) (by decide) rfl sg_lay_RX12 (j := 54) (by decide) (o1 := 86) (by first | rfl | omega) rfl (host := "") (.inl kw_1010) dX12_even_257 (fun h86 => ?_)
                    refine gw_iload F 3 rfl dX12_even_260 ?_
                    refine gw_iconst F dX12_even_262 ?_
                    refine gw_isub F rfl dX12_even_263 ?_
                    obtain ⟨⟨b870, b871⟩, hf⟩ := hf
                    refine gw_iald F (sa_86 hst) b870 b871 dX12_even_264 (fun h88 => ?_)
                    refine gw_isub F rfl dX12_even_265 ?_
                    obtain ⟨g89, hf⟩ := hf
                    refine gk_PI F (gc_S F (S := []) (As := [sg_i (x7_240e184 - (s82 86 (x5_144 - 1)))]) (CX12_size g89 hf) kw_1243 kw_103 kw_1241 kw_1242 hcX12_size ⟨by decide, by decide⟩ rfl rfl (Nat.le_of_ble_eq_true rfl) ⟨by decide, by decide⟩ dX12_even_266) (fun u90 h91 hf => ?_)
                    refine gw_iload F 2 rfl dX12_even_269 ?_
                    refine gw_icmp_le F (tgt := 291) dX12_even_271 (by decide) h91 r4_144 (fun c92 => ?_) (fun c92 => ?_)
                    · have hf := hf.1 c92
                      refine gw_sub [0, 1, 2, 3] rfl ?_
                      exact J291 x4_144 r4_144 hf
                    · have hf := hf.2 c92
                      refine gw_iload F 4 rfl dX12_even_274 ?_
                      refine gw_aload_n F 0 rfl rfl (by decide) dX12_even_276 ?_
                      refine gw_get7 F (so_64 hst) (by decide) rfl sg_lay_RX12 (j := 54) (by decide) (o1 := 86) (by first | rfl | omega) rfl (host := "") (.inl kw_1010) dX12_even_277 (fun h93 => ?_)
                      refine gw_iload F 3 rfl dX12_even_280 ?_
                      refine gw_iconst F dX12_even_282 ?_
                      refine gw_isub F rfl dX12_even_283 ?_
                      obtain ⟨⟨b940, b941⟩, hf⟩ := hf
                      refine gw_iald F (sa_86 hst) b940 b941 dX12_even_284 (fun h95 => ?_)
                      refine gw_isub F rfl dX12_even_285 ?_
                      obtain ⟨g96, hf⟩ := hf
                      refine gk_PI F (gc_S F (S := []) (As := [sg_i (x7_240e184 - (s82 86 (x5_144 - 1)))]) (CX12_size g96 hf) kw_1243 kw_103 kw_1241 kw_1242 hcX12_size ⟨by decide, by decide⟩ rfl rfl (Nat.le_of_ble_eq_true rfl) ⟨by decide, by decide⟩ dX12_even_286) (fun u97 h98 hf => ?_)
                      refine gw_istore F (by decide) rfl dX12_even_289 ?_
                      refine gw_sub [1, 2, 0, 3] rfl ?_
                      exact J291 u97 h98 hf
            obtain ⟨n99, hf⟩ := hf
            refine gw_sub [2, 3, 1, 0] rfl ?_
            refine L144   n99 s46 0 0 (by decide) (by decide) hf
          · have hf := hf.2 c44
            refine gw_iconst F dX12_even_129 ?_
            exact gr_HI F (by decide) hf (by decide) (by decide) dX12_even_130
      · have hf := hf.2 c12
        refine gw_iconst F dX12_even_35 ?_
        exact gr_HI F (by decide) hf (by decide) (by decide) dX12_even_36

theorem dX12_isBladeOf_0 : decode cX12_isBladeOf 0 = .ok (.iconst 0, 1) := by decide +kernel
theorem dX12_isBladeOf_1 : decode cX12_isBladeOf 1 = .ok (.istore 4, 2) := by decide +kernel
theorem dX12_isBladeOf_3 : decode cX12_isBladeOf 3 = .ok (.iload 4, 2) := by decide +kernel
theorem dX12_isBladeOf_5 : decode cX12_isBladeOf 5 = .ok (.iload_n 2, 1) := by decide +kernel
theorem dX12_isBladeOf_6 : decode cX12_isBladeOf 6 = .ok (.if_icmp .ge 79, 3) := by decide +kernel
theorem dX12_isBladeOf_9 : decode cX12_isBladeOf 9 = .ok (.aload_n 0, 1) := by decide +kernel
theorem dX12_isBladeOf_10 : decode cX12_isBladeOf 10 = .ok (.aload_n 0, 1) := by decide +kernel
theorem dX12_isBladeOf_11 : decode cX12_isBladeOf 11 = .ok (.iload_n 1, 1) := by decide +kernel
theorem dX12_isBladeOf_12 : decode cX12_isBladeOf 12 = .ok (.aload_n 0, 1) := by decide +kernel
theorem dX12_isBladeOf_13 : decode cX12_isBladeOf 13 = .ok (.aload_n 0, 1) := by decide +kernel
theorem dX12_isBladeOf_14 : decode cX12_isBladeOf 14 = .ok (.getfield 7, 3) := by decide +kernel
theorem dX12_isBladeOf_17 : decode cX12_isBladeOf 17 = .ok (.iconst 3, 1) := by decide +kernel
theorem dX12_isBladeOf_18 : decode cX12_isBladeOf 18 = .ok (.iload 4, 2) := by decide +kernel
theorem dX12_isBladeOf_20 : decode cX12_isBladeOf 20 = .ok (.imul, 1) := by decide +kernel
theorem dX12_isBladeOf_21 : decode cX12_isBladeOf 21 = .ok (.iaload, 1) := by decide +kernel
theorem dX12_isBladeOf_22 : decode cX12_isBladeOf 22 = .ok (.invokevirtual 326, 3) := by decide +kernel
theorem dX12_isBladeOf_25 : decode cX12_isBladeOf 25 = .ok (.aload_n 0, 1) := by decide +kernel
theorem dX12_isBladeOf_26 : decode cX12_isBladeOf 26 = .ok (.aload_n 0, 1) := by decide +kernel
theorem dX12_isBladeOf_27 : decode cX12_isBladeOf 27 = .ok (.getfield 7, 3) := by decide +kernel
theorem dX12_isBladeOf_30 : decode cX12_isBladeOf 30 = .ok (.iconst 3, 1) := by decide +kernel
theorem dX12_isBladeOf_31 : decode cX12_isBladeOf 31 = .ok (.iload 4, 2) := by decide +kernel
theorem dX12_isBladeOf_33 : decode cX12_isBladeOf 33 = .ok (.imul, 1) := by decide +kernel
theorem dX12_isBladeOf_34 : decode cX12_isBladeOf 34 = .ok (.iaload, 1) := by decide +kernel
theorem dX12_isBladeOf_35 : decode cX12_isBladeOf 35 = .ok (.invokevirtual 329, 3) := by decide +kernel
theorem dX12_isBladeOf_38 : decode cX12_isBladeOf 38 = .ok (.iconst 0, 1) := by decide +kernel
theorem dX12_isBladeOf_39 : decode cX12_isBladeOf 39 = .ok (.iconst 0, 1) := by decide +kernel
theorem dX12_isBladeOf_40 : decode cX12_isBladeOf 40 = .ok (.invokevirtual 285, 3) := by decide +kernel
theorem dX12_isBladeOf_43 : decode cX12_isBladeOf 43 = .ok (.sipush 256, 3) := by decide +kernel
theorem dX12_isBladeOf_46 : decode cX12_isBladeOf 46 = .ok (.aload_n 0, 1) := by decide +kernel
theorem dX12_isBladeOf_47 : decode cX12_isBladeOf 47 = .ok (.getfield 7, 3) := by decide +kernel
theorem dX12_isBladeOf_50 : decode cX12_isBladeOf 50 = .ok (.iconst 3, 1) := by decide +kernel
theorem dX12_isBladeOf_51 : decode cX12_isBladeOf 51 = .ok (.iload 4, 2) := by decide +kernel
theorem dX12_isBladeOf_53 : decode cX12_isBladeOf 53 = .ok (.imul, 1) := by decide +kernel
theorem dX12_isBladeOf_54 : decode cX12_isBladeOf 54 = .ok (.iconst 1, 1) := by decide +kernel
theorem dX12_isBladeOf_55 : decode cX12_isBladeOf 55 = .ok (.iadd, 1) := by decide +kernel
theorem dX12_isBladeOf_56 : decode cX12_isBladeOf 56 = .ok (.iaload, 1) := by decide +kernel
theorem dX12_isBladeOf_57 : decode cX12_isBladeOf 57 = .ok (.imul, 1) := by decide +kernel
theorem dX12_isBladeOf_58 : decode cX12_isBladeOf 58 = .ok (.aload_n 0, 1) := by decide +kernel
theorem dX12_isBladeOf_59 : decode cX12_isBladeOf 59 = .ok (.getfield 7, 3) := by decide +kernel
theorem dX12_isBladeOf_62 : decode cX12_isBladeOf 62 = .ok (.iconst 3, 1) := by decide +kernel
theorem dX12_isBladeOf_63 : decode cX12_isBladeOf 63 = .ok (.iload 4, 2) := by decide +kernel
theorem dX12_isBladeOf_65 : decode cX12_isBladeOf 65 = .ok (.imul, 1) := by decide +kernel
theorem dX12_isBladeOf_66 : decode cX12_isBladeOf 66 = .ok (.iconst 2, 1) := by decide +kernel
theorem dX12_isBladeOf_67 : decode cX12_isBladeOf 67 = .ok (.iadd, 1) := by decide +kernel
theorem dX12_isBladeOf_68 : decode cX12_isBladeOf 68 = .ok (.iaload, 1) := by decide +kernel
theorem dX12_isBladeOf_69 : decode cX12_isBladeOf 69 = .ok (.iadd, 1) := by decide +kernel
theorem dX12_isBladeOf_70 : decode cX12_isBladeOf 70 = .ok (.iload_n 3, 1) := by decide +kernel
theorem dX12_isBladeOf_71 : decode cX12_isBladeOf 71 = .ok (.invokevirtual 341, 3) := by decide +kernel
theorem dX12_isBladeOf_74 : decode cX12_isBladeOf 74 = .ok (.ifCond .ne 5, 3) := by decide +kernel
theorem dX12_isBladeOf_77 : decode cX12_isBladeOf 77 = .ok (.iconst 0, 1) := by decide +kernel
theorem dX12_isBladeOf_78 : decode cX12_isBladeOf 78 = .ok (.ireturn, 1) := by decide +kernel
theorem dX12_isBladeOf_79 : decode cX12_isBladeOf 79 = .ok (.iinc 4 1, 3) := by decide +kernel
theorem dX12_isBladeOf_82 : decode cX12_isBladeOf 82 = .ok (.goto (-79), 3) := by decide +kernel
theorem dX12_isBladeOf_85 : decode cX12_isBladeOf 85 = .ok (.iconst 1, 1) := by decide +kernel
theorem dX12_isBladeOf_86 : decode cX12_isBladeOf 86 = .ok (.ireturn, 1) := by decide +kernel
theorem hcX12_isBladeOf : yX12_isBladeOf.cls ≠ "java/lang/invoke/MethodHandle" ∧ yX12_isBladeOf.cls ≠ "java/lang/invoke/VarHandle" ∧ (parseMethodDescriptor yX12_isBladeOf.desc).map (fun d => d.parameters.length) = some 3 := ⟨by decide +kernel, by decide +kernel, by decide +kernel⟩
def fX12_isBladeOf_L3 (x1 : Int) (x2 : Int) (x3 : Int) (Q : Int → sg_M → Prop) : Nat → sg_M → Int → Prop
  | 0, _, _ => False
  | n_3 + 1, s_3, x4_3 => ((x2 ≤ x4_3 → Q 1 s_3) ∧ (¬ (x2 ≤ x4_3) → (0 ≤ (3 * x4_3) ∧ (3 * x4_3) < 540) ∧ fX12_aOf s_3 (s_3 65 (3 * x4_3)) (fun u5 => (0 ≤ (3 * x4_3) ∧ (3 * x4_3) < 540) ∧ fX12_bOf s_3 (s_3 65 (3 * x4_3)) (fun u10 => fX12_voiceBy s_3 x1 u5 u10 0 0 (fun u12 s14 => (0 ≤ ((3 * x4_3) + 1) ∧ ((3 * x4_3) + 1) < 540) ∧ (0 ≤ ((3 * x4_3) + 2) ∧ ((3 * x4_3) + 2) < 540) ∧ sg_R ((256 * (s14 65 ((3 * x4_3) + 1))) + (s14 65 ((3 * x4_3) + 2))) ∧ fX12_isNear u12 ((256 * (s14 65 ((3 * x4_3) + 1))) + (s14 65 ((3 * x4_3) + 2))) x3 (fun u22 => ((u22 ≠ 0 → sg_R (x4_3 + 1) ∧ (fX12_isBladeOf_L3 x1 x2 x3 Q n_3) s14 (x4_3 + 1)) ∧ (u22 = 0 → Q 0 s14))))))))
def fX12_isBladeOf (s0 : sg_M) (x1 : Int) (x2 : Int) (x3 : Int) (Q : Int → sg_M → Prop) : Prop := (∃ n26 : Nat, fX12_isBladeOf_L3 x1 x2 x3 Q n26 s0 0)
set_option maxHeartbeats 4000000 in
set_option maxRecDepth 100000 in
theorem CX12_isBladeOf {l : Launch} {G : sg_G} {La : sg_L} {s0 : sg_M} (hst : sg_St La) {x1 : Int} (r1 : sg_R x1) {x2 : Int} (r2 : sg_R x2) {x3 : Int} (r3 : sg_R x3) {Q : Int → sg_M → Prop} (hf : fX12_isBladeOf s0 x1 x2 x3 Q) : sg_C l G yX12_isBladeOf cX12_isBladeOf 5 (some .boolean) 5 0 0 La s0 [sg_r 64, sg_i x1, sg_i x2, sg_i x3] (sg_HZ La Q) := by
  refine sg_body (by decide +kernel) (Nat.le_of_ble_eq_true rfl) ?_
  intro p e s m args below meth c F hnm
  unfold fX12_isBladeOf at hf
  show sg_W p l e (sg_rm 5 0 0) s m args below meth c (MQ below (sg_Q (some .boolean) G La s.heap.size (sg_HZ La Q)) args s 0 0 (sg_A La s.heap.size)) 5 G (sg_A La s.heap.size) La s0 0 0 0 [(0, sg_r 64), (1, sg_i x1), (2, sg_i x2), (3, sg_i x3)] []
  refine gw_iconst F dX12_isBladeOf_0 ?_
  refine gw_istore F (by decide) rfl dX12_isBladeOf_1 ?_
  have L3 : ∀ n_3 : Nat, ∀ (s_3 : sg_M) (x4_3 : Int), sg_R x4_3 → fX12_isBladeOf_L3 x1 x2 x3 Q n_3 s_3 x4_3 → sg_W p l e (sg_rm 5 0 0) s m args below meth c (MQ below (sg_Q (some .boolean) G La s.heap.size (sg_HZ La Q)) args s 0 0 (sg_A La s.heap.size)) 5 G (sg_A La s.heap.size) La s_3 0 0 3 [(0, sg_r 64), (1, sg_i x1), (2, sg_i x2), (3, sg_i x3), (4, sg_i x4_3)] [] := by
    intro n_3
    induction n_3 with
    | zero => intro s_3 x4_3 r4_3 hf; exact hf.elim
    | succ n_3 ih =>
      intro s_3 x4_3 r4_3 hf
      unfold fX12_isBladeOf_L3 at hf
      refine gw_iload F 4 rfl dX12_isBladeOf_3 ?_
      refine gw_iload_n F 2 rfl rfl dX12_isBladeOf_5 ?_
      refine gw_icmp_ge F (tgt := 85) dX12_isBladeOf_6 (by decide) r4_3 r2 (fun c1 => ?_) (fun c1 => ?_)
      · have hf := hf.1 c1
        refine gw_iconst F dX12_isBladeOf_85 ?_
        exact gr_HZ F (by decide) hf (by decide) (by decide) dX12_isBladeOf_86
      · have hf := hf.2 c1
        refine gw_aload_n F 0 rfl rfl (by decide) dX12_isBladeOf_9 ?_
        refine gw_aload_n F 0 rfl rfl (by decide) dX12_isBladeOf_10 ?_
        refine gw_iload_n F 1 rfl rfl dX12_isBladeOf_11 ?_
        refine gw_aload_n F 0 rfl rfl (by decide) dX12_isBladeOf_12 ?_
        refine gw_aload_n F 0 rfl rfl (by decide) dX12_isBladeOf_13 ?_
        refine gw_get7 F (so_64 hst) (by decide) rfl sg_lay_RX12 (j := 1) (by decide) (o1 := 65) (by first | rfl | omega) rfl (host := "") (.inl kw_957) dX12_isBladeOf_14 (fun h2 => ?_)
        refine gw_iconst F dX12_isBladeOf_17 ?_
        refine gw_iload F 4 rfl dX12_isBladeOf_18 ?_
        refine gw_imul F rfl dX12_isBladeOf_20 ?_
        obtain ⟨⟨b30, b31⟩, hf⟩ := hf
        refine gw_iald F (sa_65 hst) b30 b31 dX12_isBladeOf_21 (fun h4 => ?_)
        refine gk_PI F (gc_V F (S := [sg_i x1, sg_r 64, sg_r 64]) (As := [sg_i (s_3 65 (3 * x4_3))]) (T := TX12) (N := 62) (CX12_aOf hst h4 hf) (so_64 hst) (by decide) rfl kw_1222 kw_103 kw_1220 kw_1221 kw_72 hcX12_aOf ⟨by decide, by decide⟩ rfl rfl (Nat.le_of_ble_eq_true rfl) ⟨by decide, by decide⟩ dX12_isBladeOf_22) (fun u5 h6 hf => ?_)
        refine gw_aload_n F 0 rfl rfl (by decide) dX12_isBladeOf_25 ?_
        refine gw_aload_n F 0 rfl rfl (by decide) dX12_isBladeOf_26 ?_
        refine gw_get7 F (so_64 hst) (by decide) rfl sg_lay_RX12 (j := 1) (by decide) (o1 := 65) (by first | rfl | omega) rfl (host := "") (.inl kw_957) dX12_isBladeOf_27 (fun h7 => ?_)
        refine gw_iconst F dX12_isBladeOf_30 ?_
        refine gw_iload F 4 rfl dX12_isBladeOf_31 ?_
        refine gw_imul F rfl dX12_isBladeOf_33 ?_
        obtain ⟨⟨b80, b81⟩, hf⟩ := hf
        refine gw_iald F (sa_65 hst) b80 b81 dX12_isBladeOf_34 (fun h9 => ?_)
        refine gk_PI F (gc_V F (S := [sg_i u5, sg_i x1, sg_r 64, sg_r 64]) (As := [sg_i (s_3 65 (3 * x4_3))]) (T := TX12) (N := 62) (CX12_bOf hst h9 hf) (so_64 hst) (by decide) rfl kw_1225 kw_103 kw_1223 kw_1224 kw_73 hcX12_bOf ⟨by decide, by decide⟩ rfl rfl (Nat.le_of_ble_eq_true rfl) ⟨by decide, by decide⟩ dX12_isBladeOf_35) (fun u10 h11 hf => ?_)
        refine gw_iconst F dX12_isBladeOf_38 ?_
        refine gw_iconst F dX12_isBladeOf_39 ?_
        refine gk_HI F (gc_V F (S := [sg_r 64]) (As := [sg_i x1, sg_i u5, sg_i u10, sg_i 0, sg_i 0]) (T := TX12) (N := 62) (CX12_voiceBy hst r1 h6 h11 (by decide) (by decide) hf) (so_64 hst) (by decide) rfl kw_1205 kw_103 kw_1203 kw_1204 kw_69 hcX12_voiceBy ⟨by decide, by decide⟩ rfl rfl (Nat.le_of_ble_eq_true rfl) ⟨by decide, by decide⟩ dX12_isBladeOf_40) (fun u12 s14 h13 hf => ?_)
        refine gw_sipush F rfl dX12_isBladeOf_43 ?_
        refine gw_aload_n F 0 rfl rfl (by decide) dX12_isBladeOf_46 ?_
        refine gw_get7 F (so_64 hst) (by decide) rfl sg_lay_RX12 (j := 1) (by decide) (o1 := 65) (by first | rfl | omega) rfl (host := "") (.inl kw_957) dX12_isBladeOf_47 (fun h15 => ?_)
        refine gw_iconst F dX12_isBladeOf_50 ?_
        refine gw_iload F 4 rfl dX12_isBladeOf_51 ?_
        refine gw_imul F rfl dX12_isBladeOf_53 ?_
        refine gw_iconst F dX12_isBladeOf_54 ?_
        refine gw_iadd F rfl dX12_isBladeOf_55 ?_
        obtain ⟨⟨b160, b161⟩, hf⟩ := hf
        refine gw_iald F (sa_65 hst) b160 b161 dX12_isBladeOf_56 (fun h17 => ?_)
        refine gw_imul F rfl dX12_isBladeOf_57 ?_
        refine gw_aload_n F 0 rfl rfl (by decide) dX12_isBladeOf_58 ?_
        refine gw_get7 F (so_64 hst) (by decide) rfl sg_lay_RX12 (j := 1) (by decide) (o1 := 65) (by first | rfl | omega) rfl (host := "") (.inl kw_957) dX12_isBladeOf_59 (fun h18 => ?_)
        refine gw_iconst F dX12_isBladeOf_62 ?_
        refine gw_iload F 4 rfl dX12_isBladeOf_63 ?_
        refine gw_imul F rfl dX12_isBladeOf_65 ?_
        refine gw_iconst F dX12_isBladeOf_66 ?_
        refine gw_iadd F rfl dX12_isBladeOf_67 ?_
        obtain ⟨⟨b190, b191⟩, hf⟩ := hf
        refine gw_iald F (sa_65 hst) b190 b191 dX12_isBladeOf_68 (fun h20 => ?_)
        refine gw_iadd F rfl dX12_isBladeOf_69 ?_
        refine gw_iload_n F 3 rfl rfl dX12_isBladeOf_70 ?_
        obtain ⟨g21, hf⟩ := hf
        refine gk_PZ F (gc_V F (S := []) (As := [sg_i u12, sg_i ((256 * (s14 65 ((3 * x4_3) + 1))) + (s14 65 ((3 * x4_3) + 2))), sg_i x3]) (T := TX12) (N := 62) (CX12_isNear hst h13 g21 r3 hf) (so_64 hst) (by decide) rfl kw_1246 kw_103 kw_1244 kw_1245 kw_76 hcX12_isNear ⟨by decide, by decide⟩ rfl rfl (Nat.le_of_ble_eq_true rfl) ⟨by decide, by decide⟩ dX12_isBladeOf_71) (fun u22 h23 hf => ?_)
        refine gw_if_ne F (tgt := 79) dX12_isBladeOf_74 (by decide) (sg_B_R h23) (fun c24 => ?_) (fun c24 => ?_)
        · have hf := hf.1 c24
          refine gw_iinc F (z := (x4_3 + 1)) 4 rfl (by omega) (by decide) rfl dX12_isBladeOf_79 ?_
          refine gw_goto F (tgt := 3) dX12_isBladeOf_82 (by decide) ?_
          obtain ⟨g25, hf⟩ := hf
          refine gw_sub [1, 2, 3, 4, 0] rfl ?_
          exact ih s14 (x4_3 + 1) g25 hf
        · have hf := hf.2 c24
          refine gw_iconst F dX12_isBladeOf_77 ?_
          exact gr_HZ F (by decide) hf (by decide) (by decide) dX12_isBladeOf_78
  obtain ⟨n26, hf⟩ := hf
  refine gw_sub [1, 2, 3, 4, 0] rfl ?_
  refine L3   n26 s0 0 (by decide) hf

theorem dX12_isThere_0 : decode cX12_isThere 0 = .ok (.iload_n 1, 1) := by decide +kernel
theorem dX12_isThere_1 : decode cX12_isThere 1 = .ok (.iconst 0, 1) := by decide +kernel
theorem dX12_isThere_2 : decode cX12_isThere 2 = .ok (.iconst 3, 1) := by decide +kernel
theorem dX12_isThere_3 : decode cX12_isThere 3 = .ok (.invokestatic 155, 3) := by decide +kernel
theorem dX12_isThere_6 : decode cX12_isThere 6 = .ok (.ifCond .eq 26, 3) := by decide +kernel
theorem dX12_isThere_9 : decode cX12_isThere 9 = .ok (.aload_n 0, 1) := by decide +kernel
theorem dX12_isThere_10 : decode cX12_isThere 10 = .ok (.getfield 13, 3) := by decide +kernel
theorem dX12_isThere_13 : decode cX12_isThere 13 = .ok (.sipush 260, 3) := by decide +kernel
theorem dX12_isThere_16 : decode cX12_isThere 16 = .ok (.sipush 260, 3) := by decide +kernel
theorem dX12_isThere_19 : decode cX12_isThere 19 = .ok (.iload_n 1, 1) := by decide +kernel
theorem dX12_isThere_20 : decode cX12_isThere 20 = .ok (.imul, 1) := by decide +kernel
theorem dX12_isThere_21 : decode cX12_isThere 21 = .ok (.iadd, 1) := by decide +kernel
theorem dX12_isThere_22 : decode cX12_isThere 22 = .ok (.iconst 0, 1) := by decide +kernel
theorem dX12_isThere_23 : decode cX12_isThere 23 = .ok (.iadd, 1) := by decide +kernel
theorem dX12_isThere_24 : decode cX12_isThere 24 = .ok (.iaload, 1) := by decide +kernel
theorem dX12_isThere_25 : decode cX12_isThere 25 = .ok (.ifCond .le 7, 3) := by decide +kernel
theorem dX12_isThere_28 : decode cX12_isThere 28 = .ok (.iconst 1, 1) := by decide +kernel
theorem dX12_isThere_29 : decode cX12_isThere 29 = .ok (.goto 4, 3) := by decide +kernel
theorem dX12_isThere_32 : decode cX12_isThere 32 = .ok (.iconst 0, 1) := by decide +kernel
theorem dX12_isThere_33 : decode cX12_isThere 33 = .ok (.ireturn, 1) := by decide +kernel
theorem hcX12_isThere : yX12_isThere.cls ≠ "java/lang/invoke/MethodHandle" ∧ yX12_isThere.cls ≠ "java/lang/invoke/VarHandle" ∧ (parseMethodDescriptor yX12_isThere.desc).map (fun d => d.parameters.length) = some 1 := ⟨by decide +kernel, by decide +kernel, by decide +kernel⟩
def fX12_isThere (s0 : sg_M) (x1 : Int) (Q : Int → Prop) : Prop := fX12_isIn x1 0 3 (fun u1 => ((u1 = 0 → Q 0) ∧ (¬ (u1 = 0) → (0 ≤ ((260 + (260 * x1)) + 0) ∧ ((260 + (260 * x1)) + 0) < 2040) ∧ (((s0 66 ((260 + (260 * x1)) + 0)) ≤ 0 → Q 0) ∧ (¬ ((s0 66 ((260 + (260 * x1)) + 0)) ≤ 0) → Q 1)))))
set_option maxHeartbeats 4000000 in
set_option maxRecDepth 100000 in
theorem CX12_isThere {l : Launch} {G : sg_G} {La : sg_L} {s0 : sg_M} (hst : sg_St La) {x1 : Int} (r1 : sg_R x1) {Q : Int → Prop} (hf : fX12_isThere s0 x1 Q) : sg_C l G yX12_isThere cX12_isThere 2 (some .boolean) 2 0 0 La s0 [sg_r 64, sg_i x1] (sg_PZ La s0 Q) := by
  refine sg_body (by decide +kernel) (Nat.le_of_ble_eq_true rfl) ?_
  intro p e s m args below meth c F hnm
  unfold fX12_isThere at hf
  show sg_W p l e (sg_rm 2 0 0) s m args below meth c (MQ below (sg_Q (some .boolean) G La s.heap.size (sg_PZ La s0 Q)) args s 0 0 (sg_A La s.heap.size)) 2 G (sg_A La s.heap.size) La s0 0 0 0 [(0, sg_r 64), (1, sg_i x1)] []
  refine gw_iload_n F 1 rfl rfl dX12_isThere_0 ?_
  refine gw_iconst F dX12_isThere_1 ?_
  refine gw_iconst F dX12_isThere_2 ?_
  refine gk_PZ F (gc_S F (S := []) (As := [sg_i x1, sg_i 0, sg_i 3]) (CX12_isIn r1 (by decide) (by decide) hf) kw_1084 kw_103 kw_1082 kw_1083 hcX12_isIn ⟨by decide, by decide⟩ rfl rfl (Nat.le_of_ble_eq_true rfl) ⟨by decide, by decide⟩ dX12_isThere_3) (fun u1 h2 hf => ?_)
  refine gw_if_eq F (tgt := 32) dX12_isThere_6 (by decide) (sg_B_R h2) (fun c3 => ?_) (fun c3 => ?_)
  · have hf := hf.1 c3
    refine gw_iconst F dX12_isThere_32 ?_
    exact gr_PZ F (by decide) hf (by decide) (by decide) dX12_isThere_33
  · have hf := hf.2 c3
    refine gw_aload_n F 0 rfl rfl (by decide) dX12_isThere_9 ?_
    refine gw_get7 F (so_64 hst) (by decide) rfl sg_lay_RX12 (j := 14) (by decide) (o1 := 66) (by first | rfl | omega) rfl (host := "") (.inl kw_970) dX12_isThere_10 (fun h4 => ?_)
    refine gw_sipush F rfl dX12_isThere_13 ?_
    refine gw_sipush F rfl dX12_isThere_16 ?_
    refine gw_iload_n F 1 rfl rfl dX12_isThere_19 ?_
    refine gw_imul F rfl dX12_isThere_20 ?_
    refine gw_iadd F rfl dX12_isThere_21 ?_
    refine gw_iconst F dX12_isThere_22 ?_
    refine gw_iadd F rfl dX12_isThere_23 ?_
    obtain ⟨⟨b50, b51⟩, hf⟩ := hf
    refine gw_iald F (sa_66 hst) b50 b51 dX12_isThere_24 (fun h6 => ?_)
    refine gw_if_le F (tgt := 32) dX12_isThere_25 (by decide) h6 (fun c7 => ?_) (fun c7 => ?_)
    · have hf := hf.1 c7
      refine gw_iconst F dX12_isThere_32 ?_
      exact gr_PZ F (by decide) hf (by decide) (by decide) dX12_isThere_33
    · have hf := hf.2 c7
      refine gw_iconst F dX12_isThere_28 ?_
      refine gw_goto F (tgt := 33) dX12_isThere_29 (by decide) ?_
      exact gr_PZ F (by decide) hf (by decide) (by decide) dX12_isThere_33

theorem dX12_which_0 : decode cX12_which 0 = .ok (.aload_n 0, 1) := by decide +kernel
theorem dX12_which_1 : decode cX12_which 1 = .ok (.iconst 0, 1) := by decide +kernel
theorem dX12_which_2 : decode cX12_which 2 = .ok (.putfield 84, 3) := by decide +kernel
theorem dX12_which_5 : decode cX12_which 5 = .ok (.aload_n 0, 1) := by decide +kernel
theorem dX12_which_6 : decode cX12_which 6 = .ok (.invokevirtual 175, 3) := by decide +kernel
theorem dX12_which_9 : decode cX12_which 9 = .ok (.aload_n 0, 1) := by decide +kernel
theorem dX12_which_10 : decode cX12_which 10 = .ok (.invokevirtual 178, 3) := by decide +kernel
theorem dX12_which_13 : decode cX12_which 13 = .ok (.istore_n 2, 1) := by decide +kernel
theorem dX12_which_14 : decode cX12_which 14 = .ok (.iload_n 2, 1) := by decide +kernel
theorem dX12_which_15 : decode cX12_which 15 = .ok (.iconst 3, 1) := by decide +kernel
theorem dX12_which_16 : decode cX12_which 16 = .ok (.irem, 1) := by decide +kernel
theorem dX12_which_17 : decode cX12_which 17 = .ok (.ifCond .ne 26, 3) := by decide +kernel
theorem dX12_which_20 : decode cX12_which 20 = .ok (.iload_n 2, 1) := by decide +kernel
theorem dX12_which_21 : decode cX12_which 21 = .ok (.iconst 3, 1) := by decide +kernel
theorem dX12_which_22 : decode cX12_which 22 = .ok (.idiv, 1) := by decide +kernel
theorem dX12_which_23 : decode cX12_which 23 = .ok (.iconst 1, 1) := by decide +kernel
theorem dX12_which_24 : decode cX12_which 24 = .ok (.bipush 40, 2) := by decide +kernel
theorem dX12_which_26 : decode cX12_which 26 = .ok (.invokestatic 155, 3) := by decide +kernel
theorem dX12_which_29 : decode cX12_which 29 = .ok (.ifCond .eq 14, 3) := by decide +kernel
theorem dX12_which_32 : decode cX12_which 32 = .ok (.iload_n 1, 1) := by decide +kernel
theorem dX12_which_33 : decode cX12_which 33 = .ok (.iconst 0, 1) := by decide +kernel
theorem dX12_which_34 : decode cX12_which 34 = .ok (.sipush 200, 3) := by decide +kernel
theorem dX12_which_37 : decode cX12_which 37 = .ok (.invokestatic 155, 3) := by decide +kernel
theorem dX12_which_40 : decode cX12_which 40 = .ok (.ifCond .ne 5, 3) := by decide +kernel
theorem dX12_which_43 : decode cX12_which 43 = .ok (.iconst (-1), 1) := by decide +kernel
theorem dX12_which_44 : decode cX12_which 44 = .ok (.ireturn, 1) := by decide +kernel
theorem dX12_which_45 : decode cX12_which 45 = .ok (.iload_n 2, 1) := by decide +kernel
theorem dX12_which_46 : decode cX12_which 46 = .ok (.iconst 3, 1) := by decide +kernel
theorem dX12_which_47 : decode cX12_which 47 = .ok (.idiv, 1) := by decide +kernel
theorem dX12_which_48 : decode cX12_which 48 = .ok (.istore_n 2, 1) := by decide +kernel
theorem dX12_which_49 : decode cX12_which 49 = .ok (.iconst 0, 1) := by decide +kernel
theorem dX12_which_50 : decode cX12_which 50 = .ok (.istore_n 3, 1) := by decide +kernel
theorem dX12_which_51 : decode cX12_which 51 = .ok (.iload_n 3, 1) := by decide +kernel
theorem dX12_which_52 : decode cX12_which 52 = .ok (.iload_n 2, 1) := by decide +kernel
theorem dX12_which_53 : decode cX12_which 53 = .ok (.if_icmp .ge 61, 3) := by decide +kernel
theorem dX12_which_56 : decode cX12_which 56 = .ok (.aload_n 0, 1) := by decide +kernel
theorem dX12_which_57 : decode cX12_which 57 = .ok (.aload_n 0, 1) := by decide +kernel
theorem dX12_which_58 : decode cX12_which 58 = .ok (.getfield 7, 3) := by decide +kernel
theorem dX12_which_61 : decode cX12_which 61 = .ok (.iconst 3, 1) := by decide +kernel
theorem dX12_which_62 : decode cX12_which 62 = .ok (.iload_n 3, 1) := by decide +kernel
theorem dX12_which_63 : decode cX12_which 63 = .ok (.imul, 1) := by decide +kernel
theorem dX12_which_64 : decode cX12_which 64 = .ok (.iaload, 1) := by decide +kernel
theorem dX12_which_65 : decode cX12_which 65 = .ok (.invokevirtual 323, 3) := by decide +kernel
theorem dX12_which_68 : decode cX12_which 68 = .ok (.ifCond .eq 38, 3) := by decide +kernel
theorem dX12_which_71 : decode cX12_which 71 = .ok (.sipush 256, 3) := by decide +kernel
theorem dX12_which_74 : decode cX12_which 74 = .ok (.aload_n 0, 1) := by decide +kernel
theorem dX12_which_75 : decode cX12_which 75 = .ok (.getfield 7, 3) := by decide +kernel
theorem dX12_which_78 : decode cX12_which 78 = .ok (.iconst 3, 1) := by decide +kernel
theorem dX12_which_79 : decode cX12_which 79 = .ok (.iload_n 3, 1) := by decide +kernel
theorem dX12_which_80 : decode cX12_which 80 = .ok (.imul, 1) := by decide +kernel
theorem dX12_which_81 : decode cX12_which 81 = .ok (.iconst 1, 1) := by decide +kernel
theorem dX12_which_82 : decode cX12_which 82 = .ok (.iadd, 1) := by decide +kernel
theorem dX12_which_83 : decode cX12_which 83 = .ok (.iaload, 1) := by decide +kernel
theorem dX12_which_84 : decode cX12_which 84 = .ok (.imul, 1) := by decide +kernel
theorem dX12_which_85 : decode cX12_which 85 = .ok (.aload_n 0, 1) := by decide +kernel
theorem dX12_which_86 : decode cX12_which 86 = .ok (.getfield 7, 3) := by decide +kernel
theorem dX12_which_89 : decode cX12_which 89 = .ok (.iconst 3, 1) := by decide +kernel
theorem dX12_which_90 : decode cX12_which 90 = .ok (.iload_n 3, 1) := by decide +kernel
theorem dX12_which_91 : decode cX12_which 91 = .ok (.imul, 1) := by decide +kernel
theorem dX12_which_92 : decode cX12_which 92 = .ok (.iconst 2, 1) := by decide +kernel
theorem dX12_which_93 : decode cX12_which 93 = .ok (.iadd, 1) := by decide +kernel
theorem dX12_which_94 : decode cX12_which 94 = .ok (.iaload, 1) := by decide +kernel
theorem dX12_which_95 : decode cX12_which 95 = .ok (.iadd, 1) := by decide +kernel
theorem dX12_which_96 : decode cX12_which 96 = .ok (.iconst 1, 1) := by decide +kernel
theorem dX12_which_97 : decode cX12_which 97 = .ok (.sipush 2000, 3) := by decide +kernel
theorem dX12_which_100 : decode cX12_which 100 = .ok (.invokestatic 155, 3) := by decide +kernel
theorem dX12_which_103 : decode cX12_which 103 = .ok (.ifCond .ne 5, 3) := by decide +kernel
theorem dX12_which_106 : decode cX12_which 106 = .ok (.iconst (-1), 1) := by decide +kernel
theorem dX12_which_107 : decode cX12_which 107 = .ok (.ireturn, 1) := by decide +kernel
theorem dX12_which_108 : decode cX12_which 108 = .ok (.iinc 3 1, 3) := by decide +kernel
theorem dX12_which_111 : decode cX12_which 111 = .ok (.goto (-60), 3) := by decide +kernel
theorem dX12_which_114 : decode cX12_which 114 = .ok (.iconst 0, 1) := by decide +kernel
theorem dX12_which_115 : decode cX12_which 115 = .ok (.istore_n 3, 1) := by decide +kernel
theorem dX12_which_116 : decode cX12_which 116 = .ok (.iconst 0, 1) := by decide +kernel
theorem dX12_which_117 : decode cX12_which 117 = .ok (.istore 4, 2) := by decide +kernel
theorem dX12_which_119 : decode cX12_which 119 = .ok (.iload 4, 2) := by decide +kernel
theorem dX12_which_121 : decode cX12_which 121 = .ok (.iconst 4, 1) := by decide +kernel
theorem dX12_which_122 : decode cX12_which 122 = .ok (.if_icmp .ge 44, 3) := by decide +kernel
theorem dX12_which_125 : decode cX12_which 125 = .ok (.aload_n 0, 1) := by decide +kernel
theorem dX12_which_126 : decode cX12_which 126 = .ok (.iload 4, 2) := by decide +kernel
theorem dX12_which_128 : decode cX12_which 128 = .ok (.invokevirtual 353, 3) := by decide +kernel
theorem dX12_which_131 : decode cX12_which 131 = .ok (.ifCond .eq 29, 3) := by decide +kernel
theorem dX12_which_134 : decode cX12_which 134 = .ok (.aload_n 0, 1) := by decide +kernel
theorem dX12_which_135 : decode cX12_which 135 = .ok (.sipush 260, 3) := by decide +kernel
theorem dX12_which_138 : decode cX12_which 138 = .ok (.sipush 260, 3) := by decide +kernel
theorem dX12_which_141 : decode cX12_which 141 = .ok (.iload 4, 2) := by decide +kernel
theorem dX12_which_143 : decode cX12_which 143 = .ok (.imul, 1) := by decide +kernel
theorem dX12_which_144 : decode cX12_which 144 = .ok (.iadd, 1) := by decide +kernel
theorem dX12_which_145 : decode cX12_which 145 = .ok (.iload_n 2, 1) := by decide +kernel
theorem dX12_which_146 : decode cX12_which 146 = .ok (.iload_n 1, 1) := by decide +kernel
theorem dX12_which_147 : decode cX12_which 147 = .ok (.invokevirtual 356, 3) := by decide +kernel
theorem dX12_which_150 : decode cX12_which 150 = .ok (.ifCond .eq 10, 3) := by decide +kernel
theorem dX12_which_153 : decode cX12_which 153 = .ok (.iload_n 3, 1) := by decide +kernel
theorem dX12_which_154 : decode cX12_which 154 = .ok (.iconst 1, 1) := by decide +kernel
theorem dX12_which_155 : decode cX12_which 155 = .ok (.iload 4, 2) := by decide +kernel
theorem dX12_which_157 : decode cX12_which 157 = .ok (.ishl, 1) := by decide +kernel
theorem dX12_which_158 : decode cX12_which 158 = .ok (.ior, 1) := by decide +kernel
theorem dX12_which_159 : decode cX12_which 159 = .ok (.istore_n 3, 1) := by decide +kernel
theorem dX12_which_160 : decode cX12_which 160 = .ok (.iinc 4 1, 3) := by decide +kernel
theorem dX12_which_163 : decode cX12_which 163 = .ok (.goto (-44), 3) := by decide +kernel
theorem dX12_which_166 : decode cX12_which 166 = .ok (.iload_n 3, 1) := by decide +kernel
theorem dX12_which_167 : decode cX12_which 167 = .ok (.ireturn, 1) := by decide +kernel
theorem hcX12_which : yX12_which.cls ≠ "java/lang/invoke/MethodHandle" ∧ yX12_which.cls ≠ "java/lang/invoke/VarHandle" ∧ (parseMethodDescriptor yX12_which.desc).map (fun d => d.parameters.length) = some 1 := ⟨by decide +kernel, by decide +kernel, by decide +kernel⟩
def fX12_which_L51 (u4 : Int) (s6 : sg_M) (Q : Int → sg_M → Prop) (k114 : Prop) : Nat → Int → Prop
  | 0, _ => False
  | n_51 + 1, x3_51 => sg_R (Int.tdiv u4 3) ∧ (((Int.tdiv u4 3) ≤ x3_51 → k114) ∧ (¬ ((Int.tdiv u4 3) ≤ x3_51) → (0 ≤ (3 * x3_51) ∧ (3 * x3_51) < 540) ∧ fX12_isWritten s6 (s6 65 (3 * x3_51)) (fun u21 => ((u21 = 0 → Q (-1) s6) ∧ (¬ (u21 = 0) → (0 ≤ ((3 * x3_51) + 1) ∧ ((3 * x3_51) + 1) < 540) ∧ (0 ≤ ((3 * x3_51) + 2) ∧ ((3 * x3_51) + 2) < 540) ∧ sg_R ((256 * (s6 65 ((3 * x3_51) + 1))) + (s6 65 ((3 * x3_51) + 2))) ∧ fX12_isIn ((256 * (s6 65 ((3 * x3_51) + 1))) + (s6 65 ((3 * x3_51) + 2))) 1 2000 (fun u31 => ((u31 ≠ 0 → sg_R (x3_51 + 1) ∧ (fX12_which_L51 u4 s6 Q k114 n_51) (x3_51 + 1)) ∧ (u31 = 0 → Q (-1) s6))))))))
def fX12_which_j160 (x4_119 : Int) (k119 : sg_M → Int → Int → Prop) (s_160 : sg_M) (x3_160 : Int) : Prop := sg_R (x4_119 + 1) ∧ k119 s_160 x3_160 (x4_119 + 1)
def fX12_which_L119 (x1 : Int) (u4 : Int) (Q : Int → sg_M → Prop) : Nat → sg_M → Int → Int → Prop
  | 0, _, _, _ => False
  | n_119 + 1, s_119, x3_119, x4_119 => ((4 ≤ x4_119 → Q x3_119 s_119) ∧ (¬ (4 ≤ x4_119) → fX12_isThere s_119 x4_119 (fun u37 => ((u37 = 0 → (fX12_which_j160 x4_119 (fX12_which_L119 x1 u4 Q n_119)) s_119 x3_119) ∧ (¬ (u37 = 0) → sg_R (260 + (260 * x4_119)) ∧ sg_R (Int.tdiv u4 3) ∧ fX12_isBladeOf s_119 (260 + (260 * x4_119)) (Int.tdiv u4 3) x1 (fun u43 s45 => ((u43 = 0 → (fX12_which_j160 x4_119 (fX12_which_L119 x1 u4 Q n_119)) s45 x3_119) ∧ (¬ (u43 = 0) → ∀ v47 : Int, v47 = (sg_or x3_119 (sg_shl 1 x4_119)) → sg_R v47 ∧ (fX12_which_j160 x4_119 (fX12_which_L119 x1 u4 Q n_119)) s45 v47))))))))
def fX12_which (s0 : sg_M) (x1 : Int) (Q : Int → sg_M → Prop) : Prop := ∀ s1 : sg_M, s1 = sg_up s0 64 0 0 → fX12_lay s1 (fun s3 => fX12_takeTape s3 (fun u4 s6 => sg_R (Int.tmod u4 3) ∧ (((Int.tmod u4 3) ≠ 0 → Q (-1) s6) ∧ ((Int.tmod u4 3) = 0 → sg_R (Int.tdiv u4 3) ∧ fX12_isIn (Int.tdiv u4 3) 1 40 (fun u10 => ((u10 = 0 → Q (-1) s6) ∧ (¬ (u10 = 0) → fX12_isIn x1 0 200 (fun u13 => ((u13 ≠ 0 → (∃ n35 : Nat, fX12_which_L51 u4 s6 Q ((∃ n50 : Nat, fX12_which_L119 x1 u4 Q n50 s6 0 0)) n35 0)) ∧ (u13 = 0 → Q (-1) s6))))))))))
set_option maxHeartbeats 4000000 in
set_option maxRecDepth 100000 in
theorem CX12_which {l : Launch} {G : sg_G} {La : sg_L} {s0 : sg_M} (hst : sg_St La) {x1 : Int} (r1 : sg_R x1) {Q : Int → sg_M → Prop} (hf : fX12_which s0 x1 Q) : sg_C l G yX12_which cX12_which 5 (some .int) 6 0 0 La s0 [sg_r 64, sg_i x1] (sg_HI La Q) := by
  refine sg_body (by decide +kernel) (Nat.le_of_ble_eq_true rfl) ?_
  intro p e s m args below meth c F hnm
  unfold fX12_which at hf
  show sg_W p l e (sg_rm 6 0 0) s m args below meth c (MQ below (sg_Q (some .int) G La s.heap.size (sg_HI La Q)) args s 0 0 (sg_A La s.heap.size)) 5 G (sg_A La s.heap.size) La s0 0 0 0 [(0, sg_r 64), (1, sg_i x1)] []
  refine gw_aload_n F 0 rfl rfl (by decide) dX12_which_0 ?_
  refine gw_iconst F dX12_which_1 ?_
  obtain ⟨s1, e2⟩ : ∃ z : sg_M, z = sg_up s0 64 0 0 := ⟨_, rfl⟩
  have hf := hf s1 e2
  refine gw_put0 F (so_64 hst) (by decide) rfl sg_lay_RX12 (j := 0) (by decide) (by decide) e2 tyX12_ok nmX12 rfl (tyX12_ok 0 (by decide)) rfl (host := "") (.inl kw_956) dX12_which_2 ?_
  refine gw_aload_n F 0 rfl rfl (by decide) dX12_which_5 ?_
  refine gk_HV F (gc_V F (S := []) (As := []) (T := TX12) (N := 62) (CX12_lay hst hf) (so_64 hst) (by decide) rfl kw_1043 kw_103 kw_1041 kw_1042 kw_41 hcX12_lay ⟨by decide, by decide⟩ rfl rfl (Nat.le_of_ble_eq_true rfl) ⟨by decide, by decide⟩ dX12_which_6) (fun s3 hf => ?_)
  refine gw_aload_n F 0 rfl rfl (by decide) dX12_which_9 ?_
  refine gk_HI F (gc_V F (S := []) (As := []) (T := TX12) (N := 62) (CX12_takeTape hst hf) (so_64 hst) (by decide) rfl kw_1046 kw_103 kw_1044 kw_1045 kw_42 hcX12_takeTape ⟨by decide, by decide⟩ rfl rfl (Nat.le_of_ble_eq_true rfl) ⟨by decide, by decide⟩ dX12_which_10) (fun u4 s6 h5 hf => ?_)
  refine gw_istore_n F rfl (by decide) rfl dX12_which_13 ?_
  refine gw_iload_n F 0 rfl rfl dX12_which_14 ?_
  refine gw_iconst F dX12_which_15 ?_
  refine gw_irem F h5 (by decide) (by decide) rfl dX12_which_16 ?_
  obtain ⟨g7, hf⟩ := hf
  refine gw_if_ne F (tgt := 43) dX12_which_17 (by decide) g7 (fun c8 => ?_) (fun c8 => ?_)
  · have hf := hf.1 c8
    refine gw_iconst F dX12_which_43 ?_
    exact gr_HI F (by decide) hf (by decide) (by decide) dX12_which_44
  · have hf := hf.2 c8
    refine gw_iload_n F 0 rfl rfl dX12_which_20 ?_
    refine gw_iconst F dX12_which_21 ?_
    refine gw_idiv F h5 (by decide) (by decide) rfl dX12_which_22 ?_
    refine gw_iconst F dX12_which_23 ?_
    refine gw_bipush F rfl dX12_which_24 ?_
    obtain ⟨g9, hf⟩ := hf
    refine gk_PZ F (gc_S F (S := []) (As := [sg_i (Int.tdiv u4 3), sg_i 1, sg_i 40]) (CX12_isIn g9 (by decide) (by decide) hf) kw_1084 kw_103 kw_1082 kw_1083 hcX12_isIn ⟨by decide, by decide⟩ rfl rfl (Nat.le_of_ble_eq_true rfl) ⟨by decide, by decide⟩ dX12_which_26) (fun u10 h11 hf => ?_)
    refine gw_if_eq F (tgt := 43) dX12_which_29 (by decide) (sg_B_R h11) (fun c12 => ?_) (fun c12 => ?_)
    · have hf := hf.1 c12
      refine gw_iconst F dX12_which_43 ?_
      exact gr_HI F (by decide) hf (by decide) (by decide) dX12_which_44
    · have hf := hf.2 c12
      refine gw_iload_n F 2 rfl rfl dX12_which_32 ?_
      refine gw_iconst F dX12_which_33 ?_
      refine gw_sipush F rfl dX12_which_34 ?_
      refine gk_PZ F (gc_S F (S := []) (As := [sg_i x1, sg_i 0, sg_i 200]) (CX12_isIn r1 (by decide) (by decide) hf) kw_1084 kw_103 kw_1082 kw_1083 hcX12_isIn ⟨by decide, by decide⟩ rfl rfl (Nat.le_of_ble_eq_true rfl) ⟨by decide, by decide⟩ dX12_which_37) (fun u13 h14 hf => ?_)
      refine gw_if_ne F (tgt := 45) dX12_which_40 (by decide) (sg_B_R h14) (fun c15 => ?_) (fun c15 => ?_)
      · have hf := hf.1 c15
        refine gw_iload_n F 0 rfl rfl dX12_which_45 ?_
        refine gw_iconst F dX12_which_46 ?_
        refine gw_idiv F h5 (by decide) (by decide) rfl dX12_which_47 ?_
        refine gw_istore_n F rfl (by decide) rfl dX12_which_48 ?_
        refine gw_iconst F dX12_which_49 ?_
        refine gw_istore_n F rfl (by decide) rfl dX12_which_50 ?_
        have L51 : ∀ (k114 : Prop) (hk114 : k114 → sg_W p l e (sg_rm 6 0 0) s m args below meth c (MQ below (sg_Q (some .int) G La s.heap.size (sg_HI La Q)) args s 0 0 (sg_A La s.heap.size)) 5 G (sg_A La s.heap.size) La s6 0 0 114 [(0, sg_r 64), (1, sg_i x1), (2, sg_i (Int.tdiv u4 3))] []), ∀ n_51 : Nat, ∀ (x3_51 : Int), sg_R x3_51 → fX12_which_L51 u4 s6 Q k114 n_51 x3_51 → sg_W p l e (sg_rm 6 0 0) s m args below meth c (MQ below (sg_Q (some .int) G La s.heap.size (sg_HI La Q)) args s 0 0 (sg_A La s.heap.size)) 5 G (sg_A La s.heap.size) La s6 0 0 51 [(0, sg_r 64), (1, sg_i x1), (2, sg_i (Int.tdiv u4 3)), (3, sg_i x3_51)] [] := by
          intro k114 hk114 n_51
          induction n_51 with
          | zero => intro x3_51 r3_51 hf; exact hf.elim
          | succ n_51 ih =>
            intro x3_51 r3_51 hf
            unfold fX12_which_L51 at hf
            refine gw_iload_n F 3 rfl rfl dX12_which_51 ?_
            refine gw_iload_n F 2 rfl rfl dX12_which_52 ?_
            obtain ⟨g16, hf⟩ := hf
            refine gw_icmp_ge F (tgt := 114) dX12_which_53 (by decide) r3_51 g16 (fun c17 => ?_) (fun c17 => ?_)
            · have hf := hf.1 c17
              refine gw_sub [0, 1, 2] rfl ?_
              exact hk114  hf
            · have hf := hf.2 c17
              refine gw_aload_n F 0 rfl rfl (by decide) dX12_which_56 ?_
              refine gw_aload_n F 0 rfl rfl (by decide) dX12_which_57 ?_
              refine gw_get7 F (so_64 hst) (by decide) rfl sg_lay_RX12 (j := 1) (by decide) (o1 := 65) (by first | rfl | omega) rfl (host := "") (.inl kw_957) dX12_which_58 (fun h18 => ?_)
              refine gw_iconst F dX12_which_61 ?_
              refine gw_iload_n F 3 rfl rfl dX12_which_62 ?_
              refine gw_imul F rfl dX12_which_63 ?_
              obtain ⟨⟨b190, b191⟩, hf⟩ := hf
              refine gw_iald F (sa_65 hst) b190 b191 dX12_which_64 (fun h20 => ?_)
              refine gk_PZ F (gc_V F (S := []) (As := [sg_i (s6 65 (3 * x3_51))]) (T := TX12) (N := 62) (CX12_isWritten hst h20 hf) (so_64 hst) (by decide) rfl kw_1219 kw_103 kw_1217 kw_1218 kw_71 hcX12_isWritten ⟨by decide, by decide⟩ rfl rfl (Nat.le_of_ble_eq_true rfl) ⟨by decide, by decide⟩ dX12_which_65) (fun u21 h22 hf => ?_)
              refine gw_if_eq F (tgt := 106) dX12_which_68 (by decide) (sg_B_R h22) (fun c23 => ?_) (fun c23 => ?_)
              · have hf := hf.1 c23
                refine gw_iconst F dX12_which_106 ?_
                exact gr_HI F (by decide) hf (by decide) (by decide) dX12_which_107
              · have hf := hf.2 c23
                refine gw_sipush F rfl dX12_which_71 ?_
                refine gw_aload_n F 0 rfl rfl (by decide) dX12_which_74 ?_
                refine gw_get7 F (so_64 hst) (by decide) rfl sg_lay_RX12 (j := 1) (by decide) (o1 := 65) (by first | rfl | omega) rfl (host := "") (.inl kw_957) dX12_which_75 (fun h24 => ?_)
                refine gw_iconst F dX12_which_78 ?_
                refine gw_iload_n F 3 rfl rfl dX12_which_79 ?_
                refine gw_imul F rfl dX12_which_80 ?_
                refine gw_iconst F dX12_which_81 ?_
                refine gw_iadd F rfl dX12_which_82 ?_
                obtain ⟨⟨b250, b251⟩, hf⟩ := hf
                refine gw_iald F (sa_65 hst) b250 b251 dX12_which_83 (fun h26 => ?_)
                refine gw_imul F rfl dX12_which_84 ?_
                refine gw_aload_n F 0 rfl rfl (by decide) dX12_which_85 ?_
                refine gw_get7 F (so_64 hst) (by decide) rfl sg_lay_RX12 (j := 1) (by decide) (o1 := 65) (by first | rfl | omega) rfl (host := "") (.inl kw_957) dX12_which_86 (fun h27 => ?_)
                refine gw_iconst F dX12_which_89 ?_
                refine gw_iload_n F 3 rfl rfl dX12_which_90 ?_
                refine gw_imul F rfl dX12_which_91 ?_
                refine gw_iconst F dX12_which_92 ?_
                refine gw_iadd F rfl dX12_which_93 ?_
                obtain ⟨⟨b280, b281⟩, hf⟩ := hf
                refine gw_iald F (sa_65 hst) b280 b281 dX12_which_94 (fun h29 => ?_)
                refine gw_iadd F rfl dX12_which_95 ?_
                refine gw_iconst F dX12_which_96 ?_
                refine gw_sipush F rfl dX12_which_97 ?_
                obtain ⟨g30, hf⟩ := hf
                refine gk_PZ F (gc_S F (S := []) (As := [sg_i ((256 * (s6 65 ((3 * x3_51) + 1))) + (s6 65 ((3 * x3_51) + 2))), sg_i 1, sg_i 2000]) (CX12_isIn g30 (by decide) (by decide) hf) kw_1084 kw_103 kw_1082 kw_1083 hcX12_isIn ⟨by decide, by decide⟩ rfl rfl (Nat.le_of_ble_eq_true rfl) ⟨by decide, by decide⟩ dX12_which_100) (fun u31 h32 hf => ?_)
                refine gw_if_ne F (tgt := 108) dX12_which_103 (by decide) (sg_B_R h32) (fun c33 => ?_) (fun c33 => ?_)
                · have hf := hf.1 c33
                  refine gw_iinc F (z := (x3_51 + 1)) 3 rfl (by omega) (by decide) rfl dX12_which_108 ?_
                  refine gw_goto F (tgt := 51) dX12_which_111 (by decide) ?_
                  obtain ⟨g34, hf⟩ := hf
                  refine gw_sub [1, 2, 3, 0] rfl ?_
                  exact ih (x3_51 + 1) g34 hf
                · have hf := hf.2 c33
                  refine gw_iconst F dX12_which_106 ?_
                  exact gr_HI F (by decide) hf (by decide) (by decide) dX12_which_107
        obtain ⟨n35, hf⟩ := hf
        refine gw_sub [2, 3, 1, 0] rfl ?_
        refine L51 _ (fun hf => ?_) n35 0 (by decide) hf
        refine gw_iconst F dX12_which_114 ?_
        refine gw_istore_n F rfl (by decide) rfl dX12_which_115 ?_
        refine gw_iconst F dX12_which_116 ?_
        refine gw_istore F (by decide) rfl dX12_which_117 ?_
        have L119 : ∀ n_119 : Nat, ∀ (s_119 : sg_M) (x3_119 : Int) (x4_119 : Int), sg_R x3_119 → sg_R x4_119 → fX12_which_L119 x1 u4 Q n_119 s_119 x3_119 x4_119 → sg_W p l e (sg_rm 6 0 0) s m args below meth c (MQ below (sg_Q (some .int) G La s.heap.size (sg_HI La Q)) args s 0 0 (sg_A La s.heap.size)) 5 G (sg_A La s.heap.size) La s_119 0 0 119 [(0, sg_r 64), (1, sg_i x1), (2, sg_i (Int.tdiv u4 3)), (3, sg_i x3_119), (4, sg_i x4_119)] [] := by
          intro n_119
          induction n_119 with
          | zero => intro s_119 x3_119 x4_119 r3_119 r4_119 hf; exact hf.elim
          | succ n_119 ih =>
            intro s_119 x3_119 x4_119 r3_119 r4_119 hf
            unfold fX12_which_L119 at hf
            refine gw_iload F 4 rfl dX12_which_119 ?_
            refine gw_iconst F dX12_which_121 ?_
            refine gw_icmp_ge F (tgt := 166) dX12_which_122 (by decide) r4_119 (by decide) (fun c36 => ?_) (fun c36 => ?_)
            · have hf := hf.1 c36
              refine gw_iload_n F 3 rfl rfl dX12_which_166 ?_
              exact gr_HI F r3_119 hf (by decide) (by decide) dX12_which_167
            · have hf := hf.2 c36
              refine gw_aload_n F 0 rfl rfl (by decide) dX12_which_125 ?_
              refine gw_iload F 4 rfl dX12_which_126 ?_
              refine gk_PZ F (gc_V F (S := []) (As := [sg_i x4_119]) (T := TX12) (N := 62) (CX12_isThere hst r4_119 hf) (so_64 hst) (by decide) rfl kw_1281 kw_103 kw_1279 kw_1280 kw_77 hcX12_isThere ⟨by decide, by decide⟩ rfl rfl (Nat.le_of_ble_eq_true rfl) ⟨by decide, by decide⟩ dX12_which_128) (fun u37 h38 hf => ?_)
              have J160 : ∀ (s_160 : sg_M) (x3_160 : Int), sg_R x3_160 → (fX12_which_j160 x4_119 (fX12_which_L119 x1 u4 Q n_119)) s_160 x3_160 → sg_W p l e (sg_rm 6 0 0) s m args below meth c (MQ below (sg_Q (some .int) G La s.heap.size (sg_HI La Q)) args s 0 0 (sg_A La s.heap.size)) 5 G (sg_A La s.heap.size) La s_160 0 0 160 [(0, sg_r 64), (1, sg_i x1), (2, sg_i (Int.tdiv u4 3)), (3, sg_i x3_160), (4, sg_i x4_119)] [] := by
                intro s_160 x3_160 r3_160 hf
                unfold fX12_which_j160 at hf
                refine gw_iinc F (z := (x4_119 + 1)) 4 rfl (by omega) (by decide) rfl dX12_which_160 ?_
                refine gw_goto F (tgt := 119) dX12_which_163 (by decide) ?_
                obtain ⟨g39, hf⟩ := hf
                refine gw_sub [1, 2, 3, 4, 0] rfl ?_
                exact ih s_160 x3_160 (x4_119 + 1) r3_160 g39 hf
              refine gw_if_eq F (tgt := 160) dX12_which_131 (by decide) (sg_B_R h38) (fun c40 => ?_) (fun c40 => ?_)
              · have hf := hf.1 c40
                refine gw_sub [0, 1, 2, 3, 4] rfl ?_
                exact J160 s_119 x3_119 r3_119 hf
              · have hf := hf.2 c40
                refine gw_aload_n F 0 rfl rfl (by decide) dX12_which_134 ?_
                refine gw_sipush F rfl dX12_which_135 ?_
                refine gw_sipush F rfl dX12_which_138 ?_
                refine gw_iload F 4 rfl dX12_which_141 ?_
                refine gw_imul F rfl dX12_which_143 ?_
                refine gw_iadd F rfl dX12_which_144 ?_
                refine gw_iload_n F 2 rfl rfl dX12_which_145 ?_
                refine gw_iload_n F 1 rfl rfl dX12_which_146 ?_
                obtain ⟨g41, hf⟩ := hf
                obtain ⟨g42, hf⟩ := hf
                refine gk_HZ F (gc_V F (S := []) (As := [sg_i (260 + (260 * x4_119)), sg_i (Int.tdiv u4 3), sg_i x1]) (T := TX12) (N := 62) (CX12_isBladeOf hst g41 g42 r1 hf) (so_64 hst) (by decide) rfl kw_1288 kw_103 kw_1286 kw_1287 kw_78 hcX12_isBladeOf ⟨by decide, by decide⟩ rfl rfl (Nat.le_of_ble_eq_true rfl) ⟨by decide, by decide⟩ dX12_which_147) (fun u43 s45 h44 hf => ?_)
                refine gw_if_eq F (tgt := 160) dX12_which_150 (by decide) (sg_B_R h44) (fun c46 => ?_) (fun c46 => ?_)
                · have hf := hf.1 c46
                  refine gw_sub [0, 1, 2, 3, 4] rfl ?_
                  exact J160 s45 x3_119 r3_119 hf
                · have hf := hf.2 c46
                  refine gw_iload_n F 3 rfl rfl dX12_which_153 ?_
                  refine gw_iconst F dX12_which_154 ?_
                  refine gw_iload F 4 rfl dX12_which_155 ?_
                  refine gw_ishl F rfl dX12_which_157 ?_
                  refine gw_ior F rfl dX12_which_158 ?_
                  obtain ⟨v47, e48⟩ : ∃ z : Int, z = (sg_or x3_119 (sg_shl 1 x4_119)) := ⟨_, rfl⟩
                  obtain ⟨g49, hf⟩ := hf v47 e48
                  refine gw_nmI e48 ?_
                  refine gw_istore_n F rfl (by decide) rfl dX12_which_159 ?_
                  refine gw_sub [1, 2, 3, 0, 4] rfl ?_
                  exact J160 s45 v47 g49 hf
        obtain ⟨n50, hf⟩ := hf
        refine gw_sub [2, 3, 4, 1, 0] rfl ?_
        refine L119   n50 s6 0 0 (by decide) (by decide) hf
      · have hf := hf.2 c15
        refine gw_iconst F dX12_which_43 ?_
        exact gr_HI F (by decide) hf (by decide) (by decide) dX12_which_44

theorem dX12_begin_0 : decode cX12_begin 0 = .ok (.aload_n 0, 1) := by decide +kernel
theorem dX12_begin_1 : decode cX12_begin 1 = .ok (.iconst 0, 1) := by decide +kernel
theorem dX12_begin_2 : decode cX12_begin 2 = .ok (.putfield 84, 3) := by decide +kernel
theorem dX12_begin_5 : decode cX12_begin 5 = .ok (.aload_n 0, 1) := by decide +kernel
theorem dX12_begin_6 : decode cX12_begin 6 = .ok (.invokevirtual 175, 3) := by decide +kernel
theorem dX12_begin_9 : decode cX12_begin 9 = .ok (.aload_n 0, 1) := by decide +kernel
theorem dX12_begin_10 : decode cX12_begin 10 = .ok (.aload_n 0, 1) := by decide +kernel
theorem dX12_begin_11 : decode cX12_begin 11 = .ok (.invokevirtual 178, 3) := by decide +kernel
theorem dX12_begin_14 : decode cX12_begin 14 = .ok (.putfield 94, 3) := by decide +kernel
theorem dX12_begin_17 : decode cX12_begin 17 = .ok (.aload_n 0, 1) := by decide +kernel
theorem dX12_begin_18 : decode cX12_begin 18 = .ok (.iload_n 1, 1) := by decide +kernel
theorem dX12_begin_19 : decode cX12_begin 19 = .ok (.putfield 103, 3) := by decide +kernel
theorem dX12_begin_22 : decode cX12_begin 22 = .ok (.aload_n 0, 1) := by decide +kernel
theorem dX12_begin_23 : decode cX12_begin 23 = .ok (.iconst 0, 1) := by decide +kernel
theorem dX12_begin_24 : decode cX12_begin 24 = .ok (.putfield 146, 3) := by decide +kernel
theorem dX12_begin_27 : decode cX12_begin 27 = .ok (.aload_n 0, 1) := by decide +kernel
theorem dX12_begin_28 : decode cX12_begin 28 = .ok (.iconst 0, 1) := by decide +kernel
theorem dX12_begin_29 : decode cX12_begin 29 = .ok (.putfield 97, 3) := by decide +kernel
theorem dX12_begin_32 : decode cX12_begin 32 = .ok (.aload_n 0, 1) := by decide +kernel
theorem dX12_begin_33 : decode cX12_begin 33 = .ok (.invokevirtual 162, 3) := by decide +kernel
theorem dX12_begin_36 : decode cX12_begin 36 = .ok (.return_, 1) := by decide +kernel
theorem hcX12_begin : yX12_begin.cls ≠ "java/lang/invoke/MethodHandle" ∧ yX12_begin.cls ≠ "java/lang/invoke/VarHandle" ∧ (parseMethodDescriptor yX12_begin.desc).map (fun d => d.parameters.length) = some 1 := ⟨by decide +kernel, by decide +kernel, by decide +kernel⟩
def fX12_begin (s0 : sg_M) (x1 : Int) (Q : sg_M → Prop) : Prop := ∀ s1 : sg_M, s1 = sg_up s0 64 0 0 → fX12_lay s1 (fun s3 => fX12_takeTape s3 (fun u4 s6 => ∀ s7 : sg_M, s7 = sg_up s6 64 3 u4 → ∀ s9 : sg_M, s9 = sg_up s7 64 4 x1 → ∀ s11 : sg_M, s11 = sg_up s9 64 10 0 → ∀ s13 : sg_M, s13 = sg_up s11 64 5 0 → fX12_go s13 (fun s15 => Q s15)))
set_option maxHeartbeats 4000000 in
set_option maxRecDepth 100000 in
theorem CX12_begin {l : Launch} {G : sg_G} {La : sg_L} {s0 : sg_M} (hst : sg_St La) {x1 : Int} (r1 : sg_R x1) {Q : sg_M → Prop} (hf : fX12_begin s0 x1 Q) : sg_C l G yX12_begin cX12_begin 2 (none) 3 0 0 La s0 [sg_r 64, sg_i x1] (sg_HV La Q) := by
  refine sg_body (by decide +kernel) (Nat.le_of_ble_eq_true rfl) ?_
  intro p e s m args below meth c F hnm
  unfold fX12_begin at hf
  show sg_W p l e (sg_rm 3 0 0) s m args below meth c (MQ below (sg_Q (none) G La s.heap.size (sg_HV La Q)) args s 0 0 (sg_A La s.heap.size)) 2 G (sg_A La s.heap.size) La s0 0 0 0 [(0, sg_r 64), (1, sg_i x1)] []
  refine gw_aload_n F 0 rfl rfl (by decide) dX12_begin_0 ?_
  refine gw_iconst F dX12_begin_1 ?_
  obtain ⟨s1, e2⟩ : ∃ z : sg_M, z = sg_up s0 64 0 0 := ⟨_, rfl⟩
  have hf := hf s1 e2
  refine gw_put0 F (so_64 hst) (by decide) rfl sg_lay_RX12 (j := 0) (by decide) (by decide) e2 tyX12_ok nmX12 rfl (tyX12_ok 0 (by decide)) rfl (host := "") (.inl kw_956) dX12_begin_2 ?_
  refine gw_aload_n F 0 rfl rfl (by decide) dX12_begin_5 ?_
  refine gk_HV F (gc_V F (S := []) (As := []) (T := TX12) (N := 62) (CX12_lay hst hf) (so_64 hst) (by decide) rfl kw_1043 kw_103 kw_1041 kw_1042 kw_41 hcX12_lay ⟨by decide, by decide⟩ rfl rfl (Nat.le_of_ble_eq_true rfl) ⟨by decide, by decide⟩ dX12_begin_6) (fun s3 hf => ?_)
  refine gw_aload_n F 0 rfl rfl (by decide) dX12_begin_9 ?_
  refine gw_aload_n F 0 rfl rfl (by decide) dX12_begin_10 ?_
  refine gk_HI F (gc_V F (S := [sg_r 64]) (As := []) (T := TX12) (N := 62) (CX12_takeTape hst hf) (so_64 hst) (by decide) rfl kw_1046 kw_103 kw_1044 kw_1045 kw_42 hcX12_takeTape ⟨by decide, by decide⟩ rfl rfl (Nat.le_of_ble_eq_true rfl) ⟨by decide, by decide⟩ dX12_begin_11) (fun u4 s6 h5 hf => ?_)
  obtain ⟨s7, e8⟩ : ∃ z : sg_M, z = sg_up s6 64 3 u4 := ⟨_, rfl⟩
  have hf := hf s7 e8
  refine gw_put0 F (so_64 hst) (by decide) rfl sg_lay_RX12 (j := 3) (by decide) h5 e8 tyX12_ok nmX12 rfl (tyX12_ok 3 (by decide)) rfl (host := "") (.inl kw_959) dX12_begin_14 ?_
  refine gw_aload_n F 0 rfl rfl (by decide) dX12_begin_17 ?_
  refine gw_iload_n F 1 rfl rfl dX12_begin_18 ?_
  obtain ⟨s9, e10⟩ : ∃ z : sg_M, z = sg_up s7 64 4 x1 := ⟨_, rfl⟩
  have hf := hf s9 e10
  refine gw_put0 F (so_64 hst) (by decide) rfl sg_lay_RX12 (j := 4) (by decide) r1 e10 tyX12_ok nmX12 rfl (tyX12_ok 4 (by decide)) rfl (host := "") (.inl kw_960) dX12_begin_19 ?_
  refine gw_aload_n F 0 rfl rfl (by decide) dX12_begin_22 ?_
  refine gw_iconst F dX12_begin_23 ?_
  obtain ⟨s11, e12⟩ : ∃ z : sg_M, z = sg_up s9 64 10 0 := ⟨_, rfl⟩
  have hf := hf s11 e12
  refine gw_put0 F (so_64 hst) (by decide) rfl sg_lay_RX12 (j := 10) (by decide) (by decide) e12 tyX12_ok nmX12 rfl (tyX12_ok 10 (by decide)) rfl (host := "") (.inl kw_966) dX12_begin_24 ?_
  refine gw_aload_n F 0 rfl rfl (by decide) dX12_begin_27 ?_
  refine gw_iconst F dX12_begin_28 ?_
  obtain ⟨s13, e14⟩ : ∃ z : sg_M, z = sg_up s11 64 5 0 := ⟨_, rfl⟩
  have hf := hf s13 e14
  refine gw_put0 F (so_64 hst) (by decide) rfl sg_lay_RX12 (j := 5) (by decide) (by decide) e14 tyX12_ok nmX12 rfl (tyX12_ok 5 (by decide)) rfl (host := "") (.inl kw_961) dX12_begin_29 ?_
  refine gw_aload_n F 0 rfl rfl (by decide) dX12_begin_32 ?_
  refine gk_HV F (gc_V F (S := []) (As := []) (T := TX12) (N := 62) (CX12_go hst hf) (so_64 hst) (by decide) rfl kw_1049 kw_103 kw_1047 kw_1048 kw_43 hcX12_go ⟨by decide, by decide⟩ rfl rfl (Nat.le_of_ble_eq_true rfl) ⟨by decide, by decide⟩ dX12_begin_33) (fun s15 hf => ?_)
  exact gr_HV F hf (by decide) (by decide) dX12_begin_36

theorem dX12_range_0 : decode cX12_range 0 = .ok (.aload_n 0, 1) := by decide +kernel
theorem dX12_range_1 : decode cX12_range 1 = .ok (.iconst 0, 1) := by decide +kernel
theorem dX12_range_2 : decode cX12_range 2 = .ok (.putfield 84, 3) := by decide +kernel
theorem dX12_range_5 : decode cX12_range 5 = .ok (.aload_n 0, 1) := by decide +kernel
theorem dX12_range_6 : decode cX12_range 6 = .ok (.invokevirtual 175, 3) := by decide +kernel
theorem dX12_range_9 : decode cX12_range 9 = .ok (.iload_n 1, 1) := by decide +kernel
theorem dX12_range_10 : decode cX12_range 10 = .ok (.iconst 0, 1) := by decide +kernel
theorem dX12_range_11 : decode cX12_range 11 = .ok (.iconst 3, 1) := by decide +kernel
theorem dX12_range_12 : decode cX12_range 12 = .ok (.invokestatic 155, 3) := by decide +kernel
theorem dX12_range_15 : decode cX12_range 15 = .ok (.ifCond .ne 5, 3) := by decide +kernel
theorem dX12_range_18 : decode cX12_range 18 = .ok (.iconst (-1), 1) := by decide +kernel
theorem dX12_range_19 : decode cX12_range 19 = .ok (.ireturn, 1) := by decide +kernel
theorem dX12_range_20 : decode cX12_range 20 = .ok (.aload_n 0, 1) := by decide +kernel
theorem dX12_range_21 : decode cX12_range 21 = .ok (.invokevirtual 332, 3) := by decide +kernel
theorem dX12_range_24 : decode cX12_range 24 = .ok (.iconst (-1), 1) := by decide +kernel
theorem dX12_range_25 : decode cX12_range 25 = .ok (.istore_n 2, 1) := by decide +kernel
theorem dX12_range_26 : decode cX12_range 26 = .ok (.iconst (-1), 1) := by decide +kernel
theorem dX12_range_27 : decode cX12_range 27 = .ok (.istore_n 3, 1) := by decide +kernel
theorem dX12_range_28 : decode cX12_range 28 = .ok (.iconst 0, 1) := by decide +kernel
theorem dX12_range_29 : decode cX12_range 29 = .ok (.istore 4, 2) := by decide +kernel
theorem dX12_range_31 : decode cX12_range 31 = .ok (.iload 4, 2) := by decide +kernel
theorem dX12_range_33 : decode cX12_range 33 = .ok (.aload_n 0, 1) := by decide +kernel
theorem dX12_range_34 : decode cX12_range 34 = .ok (.invokevirtual 320, 3) := by decide +kernel
theorem dX12_range_37 : decode cX12_range 37 = .ok (.if_icmp .ge 70, 3) := by decide +kernel
theorem dX12_range_40 : decode cX12_range 40 = .ok (.aload_n 0, 1) := by decide +kernel
theorem dX12_range_41 : decode cX12_range 41 = .ok (.getfield 56, 3) := by decide +kernel
theorem dX12_range_44 : decode cX12_range 44 = .ok (.iload 4, 2) := by decide +kernel
theorem dX12_range_46 : decode cX12_range 46 = .ok (.iaload, 1) := by decide +kernel
theorem dX12_range_47 : decode cX12_range 47 = .ok (.ifCond .ne 6, 3) := by decide +kernel
theorem dX12_range_50 : decode cX12_range 50 = .ok (.goto 51, 3) := by decide +kernel
theorem dX12_range_53 : decode cX12_range 53 = .ok (.iload_n 2, 1) := by decide +kernel
theorem dX12_range_54 : decode cX12_range 54 = .ok (.iconst (-1), 1) := by decide +kernel
theorem dX12_range_55 : decode cX12_range 55 = .ok (.if_icmp .eq 19, 3) := by decide +kernel
theorem dX12_range_58 : decode cX12_range 58 = .ok (.aload_n 0, 1) := by decide +kernel
theorem dX12_range_59 : decode cX12_range 59 = .ok (.getfield 56, 3) := by decide +kernel
theorem dX12_range_62 : decode cX12_range 62 = .ok (.iload 4, 2) := by decide +kernel
theorem dX12_range_64 : decode cX12_range 64 = .ok (.iaload, 1) := by decide +kernel
theorem dX12_range_65 : decode cX12_range 65 = .ok (.aload_n 0, 1) := by decide +kernel
theorem dX12_range_66 : decode cX12_range 66 = .ok (.getfield 56, 3) := by decide +kernel
theorem dX12_range_69 : decode cX12_range 69 = .ok (.iload_n 2, 1) := by decide +kernel
theorem dX12_range_70 : decode cX12_range 70 = .ok (.iaload, 1) := by decide +kernel
theorem dX12_range_71 : decode cX12_range 71 = .ok (.if_icmp .ge 6, 3) := by decide +kernel
theorem dX12_range_74 : decode cX12_range 74 = .ok (.iload 4, 2) := by decide +kernel
theorem dX12_range_76 : decode cX12_range 76 = .ok (.istore_n 2, 1) := by decide +kernel
theorem dX12_range_77 : decode cX12_range 77 = .ok (.iload_n 3, 1) := by decide +kernel
theorem dX12_range_78 : decode cX12_range 78 = .ok (.iconst (-1), 1) := by decide +kernel
theorem dX12_range_79 : decode cX12_range 79 = .ok (.if_icmp .eq 19, 3) := by decide +kernel
theorem dX12_range_82 : decode cX12_range 82 = .ok (.aload_n 0, 1) := by decide +kernel
theorem dX12_range_83 : decode cX12_range 83 = .ok (.getfield 56, 3) := by decide +kernel
theorem dX12_range_86 : decode cX12_range 86 = .ok (.iload 4, 2) := by decide +kernel
theorem dX12_range_88 : decode cX12_range 88 = .ok (.iaload, 1) := by decide +kernel
theorem dX12_range_89 : decode cX12_range 89 = .ok (.aload_n 0, 1) := by decide +kernel
theorem dX12_range_90 : decode cX12_range 90 = .ok (.getfield 56, 3) := by decide +kernel
theorem dX12_range_93 : decode cX12_range 93 = .ok (.iload_n 3, 1) := by decide +kernel
theorem dX12_range_94 : decode cX12_range 94 = .ok (.iaload, 1) := by decide +kernel
theorem dX12_range_95 : decode cX12_range 95 = .ok (.if_icmp .le 6, 3) := by decide +kernel
theorem dX12_range_98 : decode cX12_range 98 = .ok (.iload 4, 2) := by decide +kernel
theorem dX12_range_100 : decode cX12_range 100 = .ok (.istore_n 3, 1) := by decide +kernel
theorem dX12_range_101 : decode cX12_range 101 = .ok (.iinc 4 1, 3) := by decide +kernel
theorem dX12_range_104 : decode cX12_range 104 = .ok (.goto (-73), 3) := by decide +kernel
theorem dX12_range_107 : decode cX12_range 107 = .ok (.iload_n 2, 1) := by decide +kernel
theorem dX12_range_108 : decode cX12_range 108 = .ok (.iconst (-1), 1) := by decide +kernel
theorem dX12_range_109 : decode cX12_range 109 = .ok (.if_icmp .ne 5, 3) := by decide +kernel
theorem dX12_range_112 : decode cX12_range 112 = .ok (.iconst (-1), 1) := by decide +kernel
theorem dX12_range_113 : decode cX12_range 113 = .ok (.ireturn, 1) := by decide +kernel
theorem dX12_range_114 : decode cX12_range 114 = .ok (.iload_n 1, 1) := by decide +kernel
theorem dX12_range_115 : decode cX12_range 115 = .ok (.ifCond .ne 12, 3) := by decide +kernel
theorem dX12_range_118 : decode cX12_range 118 = .ok (.aload_n 0, 1) := by decide +kernel
theorem dX12_range_119 : decode cX12_range 119 = .ok (.getfield 56, 3) := by decide +kernel
theorem dX12_range_122 : decode cX12_range 122 = .ok (.iload_n 2, 1) := by decide +kernel
theorem dX12_range_123 : decode cX12_range 123 = .ok (.iaload, 1) := by decide +kernel
theorem dX12_range_124 : decode cX12_range 124 = .ok (.goto 27, 3) := by decide +kernel
theorem dX12_range_127 : decode cX12_range 127 = .ok (.iload_n 1, 1) := by decide +kernel
theorem dX12_range_128 : decode cX12_range 128 = .ok (.iconst 1, 1) := by decide +kernel
theorem dX12_range_129 : decode cX12_range 129 = .ok (.if_icmp .ne 12, 3) := by decide +kernel
theorem dX12_range_132 : decode cX12_range 132 = .ok (.aload_n 0, 1) := by decide +kernel
theorem dX12_range_133 : decode cX12_range 133 = .ok (.getfield 56, 3) := by decide +kernel
theorem dX12_range_136 : decode cX12_range 136 = .ok (.iload_n 3, 1) := by decide +kernel
theorem dX12_range_137 : decode cX12_range 137 = .ok (.iaload, 1) := by decide +kernel
theorem dX12_range_138 : decode cX12_range 138 = .ok (.goto 13, 3) := by decide +kernel
theorem dX12_range_141 : decode cX12_range 141 = .ok (.iload_n 1, 1) := by decide +kernel
theorem dX12_range_142 : decode cX12_range 142 = .ok (.iconst 2, 1) := by decide +kernel
theorem dX12_range_143 : decode cX12_range 143 = .ok (.if_icmp .ne 7, 3) := by decide +kernel
theorem dX12_range_146 : decode cX12_range 146 = .ok (.iload_n 2, 1) := by decide +kernel
theorem dX12_range_147 : decode cX12_range 147 = .ok (.goto 4, 3) := by decide +kernel
theorem dX12_range_150 : decode cX12_range 150 = .ok (.iload_n 3, 1) := by decide +kernel
theorem dX12_range_151 : decode cX12_range 151 = .ok (.ireturn, 1) := by decide +kernel
theorem hcX12_range : yX12_range.cls ≠ "java/lang/invoke/MethodHandle" ∧ yX12_range.cls ≠ "java/lang/invoke/VarHandle" ∧ (parseMethodDescriptor yX12_range.desc).map (fun d => d.parameters.length) = some 1 := ⟨by decide +kernel, by decide +kernel, by decide +kernel⟩
def fX12_range_j101 (x4_31 : Int) (k31 : Int → Int → Int → Prop) (x2_101 : Int) (x3_101 : Int) : Prop := sg_R (x4_31 + 1) ∧ k31 x2_101 x3_101 (x4_31 + 1)
def fX12_range_j98 (x4_31 : Int) (x2_77 : Int) (k101 : Int → Int → Prop)  : Prop := k101 x2_77 x4_31
def fX12_range_j77 (s7 : sg_M) (x3_31 : Int) (x4_31 : Int) (k101 : Int → Int → Prop) (x2_77 : Int) : Prop := ((x3_31 = (-1) → (fX12_range_j98 x4_31 x2_77 k101)) ∧ (¬ (x3_31 = (-1)) → (0 ≤ x4_31 ∧ x4_31 < 40) ∧ (0 ≤ x3_31 ∧ x3_31 < 40) ∧ (((s7 80 x4_31) ≤ (s7 80 x3_31) → k101 x2_77 x3_31) ∧ (¬ ((s7 80 x4_31) ≤ (s7 80 x3_31)) → (fX12_range_j98 x4_31 x2_77 k101)))))
def fX12_range_j74 (x4_31 : Int) (k77 : Int → Prop)  : Prop := k77 x4_31
def fX12_range_L31 (s7 : sg_M) (k107 : Int → Int → Prop) : Nat → Int → Int → Int → Prop
  | 0, _, _, _ => False
  | n_31 + 1, x2_31, x3_31, x4_31 => fX12_bends s7 (fun u8 => ((u8 ≤ x4_31 → k107 x2_31 x3_31) ∧ (¬ (u8 ≤ x4_31) → (0 ≤ x4_31 ∧ x4_31 < 40) ∧ (((s7 80 x4_31) ≠ 0 → ((x2_31 = (-1) → (fX12_range_j74 x4_31 (fX12_range_j77 s7 x3_31 x4_31 (fX12_range_j101 x4_31 (fX12_range_L31 s7 k107 n_31))))) ∧ (¬ (x2_31 = (-1)) → (0 ≤ x4_31 ∧ x4_31 < 40) ∧ (0 ≤ x2_31 ∧ x2_31 < 40) ∧ (((s7 80 x2_31) ≤ (s7 80 x4_31) → (fX12_range_j77 s7 x3_31 x4_31 (fX12_range_j101 x4_31 (fX12_range_L31 s7 k107 n_31))) x2_31) ∧ (¬ ((s7 80 x2_31) ≤ (s7 80 x4_31)) → (fX12_range_j74 x4_31 (fX12_range_j77 s7 x3_31 x4_31 (fX12_range_j101 x4_31 (fX12_range_L31 s7 k107 n_31))))))))) ∧ ((s7 80 x4_31) = 0 → (fX12_range_j101 x4_31 (fX12_range_L31 s7 k107 n_31)) x2_31 x3_31)))))
def fX12_range (s0 : sg_M) (x1 : Int) (Q : Int → sg_M → Prop) : Prop := ∀ s1 : sg_M, s1 = sg_up s0 64 0 0 → fX12_lay s1 (fun s3 => fX12_isIn x1 0 3 (fun u4 => ((u4 ≠ 0 → fX12_sing s3 (fun s7 => (∃ n32 : Nat, fX12_range_L31 s7 (fun x2_107e31 x3_107e31 => ((x2_107e31 ≠ (-1) → ((x1 ≠ 0 → ((x1 ≠ 1 → ((x1 ≠ 2 → Q x3_107e31 s7) ∧ (x1 = 2 → Q x2_107e31 s7))) ∧ (x1 = 1 → (0 ≤ x3_107e31 ∧ x3_107e31 < 40) ∧ Q (s7 80 x3_107e31) s7))) ∧ (x1 = 0 → (0 ≤ x2_107e31 ∧ x2_107e31 < 40) ∧ Q (s7 80 x2_107e31) s7))) ∧ (x2_107e31 = (-1) → Q (-1) s7))) n32 (-1) (-1) 0))) ∧ (u4 = 0 → Q (-1) s3))))
set_option maxHeartbeats 4000000 in
set_option maxRecDepth 100000 in
theorem CX12_range {l : Launch} {G : sg_G} {La : sg_L} {s0 : sg_M} (hst : sg_St La) {x1 : Int} (r1 : sg_R x1) {Q : Int → sg_M → Prop} (hf : fX12_range s0 x1 Q) : sg_C l G yX12_range cX12_range 5 (some .int) 7 0 0 La s0 [sg_r 64, sg_i x1] (sg_HI La Q) := by
  refine sg_body (by decide +kernel) (Nat.le_of_ble_eq_true rfl) ?_
  intro p e s m args below meth c F hnm
  unfold fX12_range at hf
  show sg_W p l e (sg_rm 7 0 0) s m args below meth c (MQ below (sg_Q (some .int) G La s.heap.size (sg_HI La Q)) args s 0 0 (sg_A La s.heap.size)) 5 G (sg_A La s.heap.size) La s0 0 0 0 [(0, sg_r 64), (1, sg_i x1)] []
  refine gw_aload_n F 0 rfl rfl (by decide) dX12_range_0 ?_
  refine gw_iconst F dX12_range_1 ?_
  obtain ⟨s1, e2⟩ : ∃ z : sg_M, z = sg_up s0 64 0 0 := ⟨_, rfl⟩
  have hf := hf s1 e2
  refine gw_put0 F (so_64 hst) (by decide) rfl sg_lay_RX12 (j := 0) (by decide) (by decide) e2 tyX12_ok nmX12 rfl (tyX12_ok 0 (by decide)) rfl (host := "") (.inl kw_956) dX12_range_2 ?_
  refine gw_aload_n F 0 rfl rfl (by decide) dX12_range_5 ?_
  refine gk_HV F (gc_V F (S := []) (As := []) (T := TX12) (N := 62) (CX12_lay hst hf) (so_64 hst) (by decide) rfl kw_1043 kw_103 kw_1041 kw_1042 kw_41 hcX12_lay ⟨by decide, by decide⟩ rfl rfl (Nat.le_of_ble_eq_true rfl) ⟨by decide, by decide⟩ dX12_range_6) (fun s3 hf => ?_)
  refine gw_iload_n F 1 rfl rfl dX12_range_9 ?_
  refine gw_iconst F dX12_range_10 ?_
  refine gw_iconst F dX12_range_11 ?_
  refine gk_PZ F (gc_S F (S := []) (As := [sg_i x1, sg_i 0, sg_i 3]) (CX12_isIn r1 (by decide) (by decide) hf) kw_1084 kw_103 kw_1082 kw_1083 hcX12_isIn ⟨by decide, by decide⟩ rfl rfl (Nat.le_of_ble_eq_true rfl) ⟨by decide, by decide⟩ dX12_range_12) (fun u4 h5 hf => ?_)
  refine gw_if_ne F (tgt := 20) dX12_range_15 (by decide) (sg_B_R h5) (fun c6 => ?_) (fun c6 => ?_)
  · have hf := hf.1 c6
    refine gw_aload_n F 0 rfl rfl (by decide) dX12_range_20 ?_
    refine gk_HV F (gc_V F (S := []) (As := []) (T := TX12) (N := 62) (CX12_sing hst hf) (so_64 hst) (by decide) rfl kw_1232 kw_103 kw_1230 kw_1231 kw_74 hcX12_sing ⟨by decide, by decide⟩ rfl rfl (Nat.le_of_ble_eq_true rfl) ⟨by decide, by decide⟩ dX12_range_21) (fun s7 hf => ?_)
    refine gw_iconst F dX12_range_24 ?_
    refine gw_istore_n F rfl (by decide) rfl dX12_range_25 ?_
    refine gw_iconst F dX12_range_26 ?_
    refine gw_istore_n F rfl (by decide) rfl dX12_range_27 ?_
    refine gw_iconst F dX12_range_28 ?_
    refine gw_istore F (by decide) rfl dX12_range_29 ?_
    have L31 : ∀ (k107 : Int → Int → Prop) (hk107 : ∀ (x2_107e31 : Int) (x3_107e31 : Int), sg_R x2_107e31 → sg_R x3_107e31 → k107 x2_107e31 x3_107e31 → sg_W p l e (sg_rm 7 0 0) s m args below meth c (MQ below (sg_Q (some .int) G La s.heap.size (sg_HI La Q)) args s 0 0 (sg_A La s.heap.size)) 5 G (sg_A La s.heap.size) La s7 0 0 107 [(0, sg_r 64), (1, sg_i x1), (2, sg_i x2_107e31), (3, sg_i x3_107e31)] []), ∀ n_31 : Nat, ∀ (x2_31 : Int) (x3_31 : Int) (x4_31 : Int), sg_R x2_31 → sg_R x3_31 → sg_R x4_31 → fX12_range_L31 s7 k107 n_31 x2_31 x3_31 x4_31 → sg_W p l e (sg_rm 7 0 0) s m args below meth c (MQ below (sg_Q (some .int) G La s.heap.size (sg_HI La Q)) args s 0 0 (sg_A La s.heap.size)) 5 G (sg_A La s.heap.size) La s7 0 0 31 [(0, sg_r 64), (1, sg_i x1), (2, sg_i x2_31), (3, sg_i x3_31), (4, sg_i x4_31)] [] := by
      intro k107 hk107 n_31
      induction n_31 with
      | zero => intro x2_31 x3_31 x4_31 r2_31 r3_31 r4_31 hf; exact hf.elim
      | succ n_31 ih =>
        intro x2_31 x3_31 x4_31 r2_31 r3_31 r4_31 hf
        unfold fX12_range_L31 at hf
        refine gw_iload F 4 rfl dX12_range_31 ?_
        refine gw_aload_n F 0 rfl rfl (by decide) dX12_range_33 ?_
        refine gk_PI F (gc_V F (S := [sg_i x4_31]) (As := []) (T := TX12) (N := 62) (CX12_bends hst hf) (so_64 hst) (by decide) rfl kw_1212 kw_103 kw_1210 kw_1211 kw_70 hcX12_bends ⟨by decide, by decide⟩ rfl rfl (Nat.le_of_ble_eq_true rfl) ⟨by decide, by decide⟩ dX12_range_34) (fun u8 h9 hf => ?_)
        refine gw_icmp_ge F (tgt := 107) dX12_range_37 (by decide) r4_31 h9 (fun c10 => ?_) (fun c10 => ?_)
        · have hf := hf.1 c10
          refine gw_sub [0, 1, 2, 3] rfl ?_
          exact hk107 x2_31 x3_31 r2_31 r3_31 hf
        · have hf := hf.2 c10
          refine gw_aload_n F 0 rfl rfl (by decide) dX12_range_40 ?_
          refine gw_get7 F (so_64 hst) (by decide) rfl sg_lay_RX12 (j := 46) (by decide) (o1 := 80) (by first | rfl | omega) rfl (host := "") (.inl kw_1002) dX12_range_41 (fun h11 => ?_)
          refine gw_iload F 4 rfl dX12_range_44 ?_
          obtain ⟨⟨b120, b121⟩, hf⟩ := hf
          refine gw_iald F (sa_80 hst) b120 b121 dX12_range_46 (fun h13 => ?_)
          have J101 : ∀ (x2_101 : Int) (x3_101 : Int), sg_R x2_101 → sg_R x3_101 → (fX12_range_j101 x4_31 (fX12_range_L31 s7 k107 n_31)) x2_101 x3_101 → sg_W p l e (sg_rm 7 0 0) s m args below meth c (MQ below (sg_Q (some .int) G La s.heap.size (sg_HI La Q)) args s 0 0 (sg_A La s.heap.size)) 5 G (sg_A La s.heap.size) La s7 0 0 101 [(0, sg_r 64), (1, sg_i x1), (2, sg_i x2_101), (3, sg_i x3_101), (4, sg_i x4_31)] [] := by
            intro x2_101 x3_101 r2_101 r3_101 hf
            unfold fX12_range_j101 at hf
            refine gw_iinc F (z := (x4_31 + 1)) 4 rfl (by omega) (by decide) rfl dX12_range_101 ?_
            refine gw_goto F (tgt := 31) dX12_range_104 (by decide) ?_
            obtain ⟨g14, hf⟩ := hf
            refine gw_sub [1, 2, 3, 4, 0] rfl ?_
            exact ih x2_101 x3_101 (x4_31 + 1) r2_101 r3_101 g14 hf
          refine gw_if_ne F (tgt := 53) dX12_range_47 (by decide) h13 (fun c15 => ?_) (fun c15 => ?_)
          · have hf := hf.1 c15
            refine gw_iload_n F 2 rfl rfl dX12_range_53 ?_
            refine gw_iconst F dX12_range_54 ?_
            have J77 : ∀ (x2_77 : Int), sg_R x2_77 → (fX12_range_j77 s7 x3_31 x4_31 (fX12_range_j101 x4_31 (fX12_range_L31 s7 k107 n_31))) x2_77 → sg_W p l e (sg_rm 7 0 0) s m args below meth c (MQ below (sg_Q (some .int) G La s.heap.size (sg_HI La Q)) args s 0 0 (sg_A La s.heap.size)) 5 G (sg_A La s.heap.size) La s7 0 0 77 [(0, sg_r 64), (1, sg_i x1), (2, sg_i x2_77), (3, sg_i x3_31), (4, sg_i x4_31)] [] := by
              intro x2_77 r2_77 hf
              unfold fX12_range_j77 at hf
              refine gw_iload_n F 3 rfl rfl dX12_range_77 ?_
              refine gw_iconst F dX12_range_78 ?_
              have J98 : (fX12_range_j98 x4_31 x2_77 (fX12_range_j101 x4_31 (fX12_range_L31 s7 k107 n_31))) → sg_W p l e (sg_rm 7 0 0) s m args below meth c (MQ below (sg_Q (some .int) G La s.heap.size (sg_HI La Q)) args s 0 0 (sg_A La s.heap.size)) 5 G (sg_A La s.heap.size) La s7 0 0 98 [(0, sg_r 64), (1, sg_i x1), (2, sg_i x2_77), (4, sg_i x4_31)] [] := by
                intro hf
                unfold fX12_range_j98 at hf
                refine gw_iload F 3 rfl dX12_range_98 ?_
                refine gw_istore_n F rfl (by decide) rfl dX12_range_100 ?_
                refine gw_sub [1, 2, 3, 0, 4] rfl ?_
                exact J101 x2_77 x4_31 r2_77 r4_31 hf
              refine gw_icmp_eq F (tgt := 98) dX12_range_79 (by decide) r3_31 (by decide) (fun c16 => ?_) (fun c16 => ?_)
              · have hf := hf.1 c16
                refine gw_sub [0, 1, 2, 4] rfl ?_
                exact J98  hf
              · have hf := hf.2 c16
                refine gw_aload_n F 0 rfl rfl (by decide) dX12_range_82 ?_
                refine gw_get7 F (so_64 hst) (by decide) rfl sg_lay_RX12 (j := 46) (by decide) (o1 := 80) (by first | rfl | omega) rfl (host := "") (.inl kw_1002) dX12_range_83 (fun h17 => ?_)
                refine gw_iload F 4 rfl dX12_range_86 ?_
                obtain ⟨⟨b180, b181⟩, hf⟩ := hf
                refine gw_iald F (sa_80 hst) b180 b181 dX12_range_88 (fun h19 => ?_)
                refine gw_aload_n F 0 rfl rfl (by decide) dX12_range_89 ?_
                refine gw_get7 F (so_64 hst) (by decide) rfl sg_lay_RX12 (j := 46) (by decide) (o1 := 80) (by first | rfl | omega) rfl (host := "") (.inl kw_1002) dX12_range_90 (fun h20 => ?_)
                refine gw_iload_n F 3 rfl rfl dX12_range_93 ?_
                obtain ⟨⟨b210, b211⟩, hf⟩ := hf
                refine gw_iald F (sa_80 hst) b210 b211 dX12_range_94 (fun h22 => ?_)
                refine gw_icmp_le F (tgt := 101) dX12_range_95 (by decide) h19 h22 (fun c23 => ?_) (fun c23 => ?_)
                · have hf := hf.1 c23
                  refine gw_sub [0, 1, 2, 3, 4] rfl ?_
                  exact J101 x2_77 x3_31 r2_77 r3_31 hf
                · have hf := hf.2 c23
                  refine gw_sub [0, 1, 2, 4] rfl ?_
                  exact J98  hf
            have J74 : (fX12_range_j74 x4_31 (fX12_range_j77 s7 x3_31 x4_31 (fX12_range_j101 x4_31 (fX12_range_L31 s7 k107 n_31)))) → sg_W p l e (sg_rm 7 0 0) s m args below meth c (MQ below (sg_Q (some .int) G La s.heap.size (sg_HI La Q)) args s 0 0 (sg_A La s.heap.size)) 5 G (sg_A La s.heap.size) La s7 0 0 74 [(0, sg_r 64), (1, sg_i x1), (3, sg_i x3_31), (4, sg_i x4_31)] [] := by
              intro hf
              unfold fX12_range_j74 at hf
              refine gw_iload F 3 rfl dX12_range_74 ?_
              refine gw_istore_n F rfl (by decide) rfl dX12_range_76 ?_
              refine gw_sub [1, 2, 0, 3, 4] rfl ?_
              exact J77 x4_31 r4_31 hf
            refine gw_icmp_eq F (tgt := 74) dX12_range_55 (by decide) r2_31 (by decide) (fun c24 => ?_) (fun c24 => ?_)
            · have hf := hf.1 c24
              refine gw_sub [0, 1, 3, 4] rfl ?_
              exact J74  hf
            · have hf := hf.2 c24
              refine gw_aload_n F 0 rfl rfl (by decide) dX12_range_58 ?_
              refine gw_get7 F (so_64 hst) (by decide) rfl sg_lay_RX12 (j := 46) (by decide) (o1 := 80) (by first | rfl | omega) rfl (host := "") (.inl kw_1002) dX12_range_59 (fun h25 => ?_)
              refine gw_iload F 4 rfl dX12_range_62 ?_
              obtain ⟨⟨b260, b261⟩, hf⟩ := hf
              refine gw_iald F (sa_80 hst) b260 b261 dX12_range_64 (fun h27 => ?_)
              refine gw_aload_n F 0 rfl rfl (by decide) dX12_range_65 ?_
              refine gw_get7 F (so_64 hst) (by decide) rfl sg_lay_RX12 (j := 46) (by decide) (o1 := 80) (by first | rfl | omega) rfl (host := "") (.inl kw_1002) dX12_range_66 (fun h28 => ?_)
              refine gw_iload_n F 2 rfl rfl dX12_range_69 ?_
              obtain ⟨⟨b290, b291⟩, hf⟩ := hf
              refine gw_iald F (sa_80 hst) b290 b291 dX12_range_70 (fun h30 => ?_)
              refine gw_icmp_ge F (tgt := 77) dX12_range_71 (by decide) h27 h30 (fun c31 => ?_) (fun c31 => ?_)
              · have hf := hf.1 c31
                refine gw_sub [0, 1, 2, 3, 4] rfl ?_
                exact J77 x2_31 r2_31 hf
              · have hf := hf.2 c31
                refine gw_sub [0, 1, 3, 4] rfl ?_
                exact J74  hf
          · have hf := hf.2 c15
            refine gw_goto F (tgt := 101) dX12_range_50 (by decide) ?_
            refine gw_sub [0, 1, 2, 3, 4] rfl ?_
            exact J101 x2_31 x3_31 r2_31 r3_31 hf
    obtain ⟨n32, hf⟩ := hf
    refine gw_sub [3, 4, 2, 1, 0] rfl ?_
    refine L31 _ (fun x2_107e31 x3_107e31 r2_107e31 r3_107e31 hf => ?_) n32 (-1) (-1) 0 (by decide) (by decide) (by decide) hf
    refine gw_iload_n F 2 rfl rfl dX12_range_107 ?_
    refine gw_iconst F dX12_range_108 ?_
    refine gw_icmp_ne F (tgt := 114) dX12_range_109 (by decide) r2_107e31 (by decide) (fun c33 => ?_) (fun c33 => ?_)
    · have hf := hf.1 c33
      refine gw_iload_n F 1 rfl rfl dX12_range_114 ?_
      refine gw_if_ne F (tgt := 127) dX12_range_115 (by decide) r1 (fun c34 => ?_) (fun c34 => ?_)
      · have hf := hf.1 c34
        refine gw_iload_n F 1 rfl rfl dX12_range_127 ?_
        refine gw_iconst F dX12_range_128 ?_
        refine gw_icmp_ne F (tgt := 141) dX12_range_129 (by decide) r1 (by decide) (fun c35 => ?_) (fun c35 => ?_)
        · have hf := hf.1 c35
          refine gw_iload_n F 1 rfl rfl dX12_range_141 ?_
          refine gw_iconst F dX12_range_142 ?_
          refine gw_icmp_ne F (tgt := 150) dX12_range_143 (by decide) r1 (by decide) (fun c36 => ?_) (fun c36 => ?_)
          · have hf := hf.1 c36
            refine gw_iload_n F 3 rfl rfl dX12_range_150 ?_
            exact gr_HI F r3_107e31 hf (by decide) (by decide) dX12_range_151
          · have hf := hf.2 c36
            refine gw_iload_n F 2 rfl rfl dX12_range_146 ?_
            refine gw_goto F (tgt := 151) dX12_range_147 (by decide) ?_
            exact gr_HI F r2_107e31 hf (by decide) (by decide) dX12_range_151
        · have hf := hf.2 c35
          refine gw_aload_n F 0 rfl rfl (by decide) dX12_range_132 ?_
          refine gw_get7 F (so_64 hst) (by decide) rfl sg_lay_RX12 (j := 46) (by decide) (o1 := 80) (by first | rfl | omega) rfl (host := "") (.inl kw_1002) dX12_range_133 (fun h37 => ?_)
          refine gw_iload_n F 3 rfl rfl dX12_range_136 ?_
          obtain ⟨⟨b380, b381⟩, hf⟩ := hf
          refine gw_iald F (sa_80 hst) b380 b381 dX12_range_137 (fun h39 => ?_)
          refine gw_goto F (tgt := 151) dX12_range_138 (by decide) ?_
          exact gr_HI F h39 hf (by decide) (by decide) dX12_range_151
      · have hf := hf.2 c34
        refine gw_aload_n F 0 rfl rfl (by decide) dX12_range_118 ?_
        refine gw_get7 F (so_64 hst) (by decide) rfl sg_lay_RX12 (j := 46) (by decide) (o1 := 80) (by first | rfl | omega) rfl (host := "") (.inl kw_1002) dX12_range_119 (fun h40 => ?_)
        refine gw_iload_n F 2 rfl rfl dX12_range_122 ?_
        obtain ⟨⟨b410, b411⟩, hf⟩ := hf
        refine gw_iald F (sa_80 hst) b410 b411 dX12_range_123 (fun h42 => ?_)
        refine gw_goto F (tgt := 151) dX12_range_124 (by decide) ?_
        exact gr_HI F h42 hf (by decide) (by decide) dX12_range_151
    · have hf := hf.2 c33
      refine gw_iconst F dX12_range_112 ?_
      exact gr_HI F (by decide) hf (by decide) (by decide) dX12_range_113
  · have hf := hf.2 c6
    refine gw_iconst F dX12_range_18 ?_
    exact gr_HI F (by decide) hf (by decide) (by decide) dX12_range_19
