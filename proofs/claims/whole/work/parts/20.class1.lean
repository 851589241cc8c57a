theorem dX11_end_0 : decode cX11_end 0 = .ok (.iload_n 1, 1) := by decide +kernel
theorem dX11_end_1 : decode cX11_end 1 = .ok (.ifCond .lt 14, 3) := by decide +kernel
theorem dX11_end_4 : decode cX11_end 4 = .ok (.iload_n 1, 1) := by decide +kernel
theorem dX11_end_5 : decode cX11_end 5 = .ok (.aload_n 0, 1) := by decide +kernel
theorem dX11_end_6 : decode cX11_end 6 = .ok (.getfield 10, 3) := by decide +kernel
theorem dX11_end_9 : decode cX11_end 9 = .ok (.getfield 122, 3) := by decide +kernel
theorem dX11_end_12 : decode cX11_end 12 = .ok (.if_icmp .le 5, 3) := by decide +kernel
theorem dX11_end_15 : decode cX11_end 15 = .ok (.iconst 0, 1) := by decide +kernel
theorem dX11_end_16 : decode cX11_end 16 = .ok (.ireturn, 1) := by decide +kernel
theorem dX11_end_17 : decode cX11_end 17 = .ok (.aload_n 0, 1) := by decide +kernel
theorem dX11_end_18 : decode cX11_end 18 = .ok (.getfield 10, 3) := by decide +kernel
theorem dX11_end_21 : decode cX11_end 21 = .ok (.iload_n 1, 1) := by decide +kernel
theorem dX11_end_22 : decode cX11_end 22 = .ok (.putfield 122, 3) := by decide +kernel
theorem dX11_end_25 : decode cX11_end 25 = .ok (.iconst 1, 1) := by decide +kernel
theorem dX11_end_26 : decode cX11_end 26 = .ok (.ireturn, 1) := by decide +kernel
theorem hcX11_end : yX11_end.cls ≠ "java/lang/invoke/MethodHandle" ∧ yX11_end.cls ≠ "java/lang/invoke/VarHandle" ∧ (parseMethodDescriptor yX11_end.desc).map (fun d => d.parameters.length) = some 1 := ⟨by decide +kernel, by decide +kernel, by decide +kernel⟩
def fX11_end (s0 : sg_M) (x1 : Int) (Q : Int → sg_M → Prop) : Prop := ((x1 < 0 → Q 0 s0) ∧ (¬ (x1 < 0) → ((x1 ≤ (s0 1 1) → ∀ s6 : sg_M, s6 = sg_up s0 1 1 x1 → Q 1 s6) ∧ (¬ (x1 ≤ (s0 1 1)) → Q 0 s0))))
set_option maxHeartbeats 4000000 in
set_option maxRecDepth 100000 in
theorem CX11_end {l : Launch} {G : sg_G} {La : sg_L} {s0 : sg_M} (hst : sg_St La) {x1 : Int} (r1 : sg_R x1) {Q : Int → sg_M → Prop} (hf : fX11_end s0 x1 Q) : sg_C l G yX11_end cX11_end 2 (some .boolean) 1 0 0 La s0 [sg_r 0, sg_i x1] (sg_HZ La Q) := by
  refine sg_body (by decide +kernel) (Nat.le_of_ble_eq_true rfl) ?_
  intro p e s m args below meth c F hnm
  unfold fX11_end at hf
  show sg_W p l e (sg_rm 1 0 0) s m args below meth c (MQ below (sg_Q (some .boolean) G La s.heap.size (sg_HZ La Q)) args s 0 0 (sg_A La s.heap.size)) 2 G (sg_A La s.heap.size) La s0 0 0 0 [(0, sg_r 0), (1, sg_i x1)] []
  refine gw_iload_n F 1 rfl rfl dX11_end_0 ?_
  refine gw_if_lt F (tgt := 15) dX11_end_1 (by decide) r1 (fun c1 => ?_) (fun c1 => ?_)
  · have hf := hf.1 c1
    refine gw_iconst F dX11_end_15 ?_
    exact gr_HZ F (by decide) hf (by decide) (by decide) dX11_end_16
  · have hf := hf.2 c1
    refine gw_iload_n F 1 rfl rfl dX11_end_4 ?_
    refine gw_aload_n F 0 rfl rfl (by decide) dX11_end_5 ?_
    refine gw_get7 F (so_0 hst) (by decide) rfl sg_lay_RX11 (j := 0) (by decide) (o1 := 1) (by first | rfl | omega) rfl (host := "") (.inl kw_326) dX11_end_6 (fun h2 => ?_)
    refine gw_get0 F (so_1 hst) (by decide) rfl sg_lay_RX8 (j := 1) (by decide) rfl (.inr kw_128) dX11_end_9 (fun h3 => ?_)
    refine gw_icmp_le F (tgt := 17) dX11_end_12 (by decide) r1 h3 (fun c4 => ?_) (fun c4 => ?_)
    · have hf := hf.1 c4
      refine gw_aload_n F 0 rfl rfl (by decide) dX11_end_17 ?_
      refine gw_get7 F (so_0 hst) (by decide) rfl sg_lay_RX11 (j := 0) (by decide) (o1 := 1) (by first | rfl | omega) rfl (host := "") (.inl kw_326) dX11_end_18 (fun h5 => ?_)
      refine gw_iload_n F 1 rfl rfl dX11_end_21 ?_
      obtain ⟨s6, e7⟩ : ∃ z : sg_M, z = sg_up s0 1 1 x1 := ⟨_, rfl⟩
      have hf := hf s6 e7
      refine gw_put0 F (so_1 hst) (by decide) rfl sg_lay_RX8 (j := 1) (by decide) r1 e7 tyX8_ok nmX8 rfl (tyX8_ok 1 (by decide)) rfl (.inr kw_128) dX11_end_22 ?_
      refine gw_iconst F dX11_end_25 ?_
      exact gr_HZ F (by decide) hf (by decide) (by decide) dX11_end_26
    · have hf := hf.2 c4
      refine gw_iconst F dX11_end_15 ?_
      exact gr_HZ F (by decide) hf (by decide) (by decide) dX11_end_16

theorem dX0_isPlace_0 : decode cX0_isPlace 0 = .ok (.iload_n 1, 1) := by decide +kernel
theorem dX0_isPlace_1 : decode cX0_isPlace 1 = .ok (.ifCond .le 22, 3) := by decide +kernel
theorem dX0_isPlace_4 : decode cX0_isPlace 4 = .ok (.aload_n 0, 1) := by decide +kernel
theorem dX0_isPlace_5 : decode cX0_isPlace 5 = .ok (.getfield 15, 3) := by decide +kernel
theorem dX0_isPlace_8 : decode cX0_isPlace 8 = .ok (.iload_n 1, 1) := by decide +kernel
theorem dX0_isPlace_9 : decode cX0_isPlace 9 = .ok (.iaload, 1) := by decide +kernel
theorem dX0_isPlace_10 : decode cX0_isPlace 10 = .ok (.aload_n 0, 1) := by decide +kernel
theorem dX0_isPlace_11 : decode cX0_isPlace 11 = .ok (.getfield 15, 3) := by decide +kernel
theorem dX0_isPlace_14 : decode cX0_isPlace 14 = .ok (.iload_n 1, 1) := by decide +kernel
theorem dX0_isPlace_15 : decode cX0_isPlace 15 = .ok (.iconst 1, 1) := by decide +kernel
theorem dX0_isPlace_16 : decode cX0_isPlace 16 = .ok (.isub, 1) := by decide +kernel
theorem dX0_isPlace_17 : decode cX0_isPlace 17 = .ok (.iaload, 1) := by decide +kernel
theorem dX0_isPlace_18 : decode cX0_isPlace 18 = .ok (.if_icmp .lt 5, 3) := by decide +kernel
theorem dX0_isPlace_21 : decode cX0_isPlace 21 = .ok (.iconst 0, 1) := by decide +kernel
theorem dX0_isPlace_22 : decode cX0_isPlace 22 = .ok (.ireturn, 1) := by decide +kernel
theorem dX0_isPlace_23 : decode cX0_isPlace 23 = .ok (.iload_n 1, 1) := by decide +kernel
theorem dX0_isPlace_24 : decode cX0_isPlace 24 = .ok (.iconst 1, 1) := by decide +kernel
theorem dX0_isPlace_25 : decode cX0_isPlace 25 = .ok (.iadd, 1) := by decide +kernel
theorem dX0_isPlace_26 : decode cX0_isPlace 26 = .ok (.istore_n 2, 1) := by decide +kernel
theorem dX0_isPlace_27 : decode cX0_isPlace 27 = .ok (.iload_n 2, 1) := by decide +kernel
theorem dX0_isPlace_28 : decode cX0_isPlace 28 = .ok (.aload_n 0, 1) := by decide +kernel
theorem dX0_isPlace_29 : decode cX0_isPlace 29 = .ok (.getfield 27, 3) := by decide +kernel
theorem dX0_isPlace_32 : decode cX0_isPlace 32 = .ok (.if_icmp .ge 24, 3) := by decide +kernel
theorem dX0_isPlace_35 : decode cX0_isPlace 35 = .ok (.aload_n 0, 1) := by decide +kernel
theorem dX0_isPlace_36 : decode cX0_isPlace 36 = .ok (.getfield 15, 3) := by decide +kernel
theorem dX0_isPlace_39 : decode cX0_isPlace 39 = .ok (.iload_n 2, 1) := by decide +kernel
theorem dX0_isPlace_40 : decode cX0_isPlace 40 = .ok (.iaload, 1) := by decide +kernel
theorem dX0_isPlace_41 : decode cX0_isPlace 41 = .ok (.aload_n 0, 1) := by decide +kernel
theorem dX0_isPlace_42 : decode cX0_isPlace 42 = .ok (.getfield 15, 3) := by decide +kernel
theorem dX0_isPlace_45 : decode cX0_isPlace 45 = .ok (.iload_n 1, 1) := by decide +kernel
theorem dX0_isPlace_46 : decode cX0_isPlace 46 = .ok (.iaload, 1) := by decide +kernel
theorem dX0_isPlace_47 : decode cX0_isPlace 47 = .ok (.if_icmp .ne 9, 3) := by decide +kernel
theorem dX0_isPlace_50 : decode cX0_isPlace 50 = .ok (.iinc 2 1, 3) := by decide +kernel
theorem dX0_isPlace_53 : decode cX0_isPlace 53 = .ok (.goto (-26), 3) := by decide +kernel
theorem dX0_isPlace_56 : decode cX0_isPlace 56 = .ok (.iload_n 2, 1) := by decide +kernel
theorem dX0_isPlace_57 : decode cX0_isPlace 57 = .ok (.aload_n 0, 1) := by decide +kernel
theorem dX0_isPlace_58 : decode cX0_isPlace 58 = .ok (.getfield 27, 3) := by decide +kernel
theorem dX0_isPlace_61 : decode cX0_isPlace 61 = .ok (.if_icmp .ge 18, 3) := by decide +kernel
theorem dX0_isPlace_64 : decode cX0_isPlace 64 = .ok (.aload_n 0, 1) := by decide +kernel
theorem dX0_isPlace_65 : decode cX0_isPlace 65 = .ok (.getfield 15, 3) := by decide +kernel
theorem dX0_isPlace_68 : decode cX0_isPlace 68 = .ok (.iload_n 2, 1) := by decide +kernel
theorem dX0_isPlace_69 : decode cX0_isPlace 69 = .ok (.iaload, 1) := by decide +kernel
theorem dX0_isPlace_70 : decode cX0_isPlace 70 = .ok (.aload_n 0, 1) := by decide +kernel
theorem dX0_isPlace_71 : decode cX0_isPlace 71 = .ok (.getfield 15, 3) := by decide +kernel
theorem dX0_isPlace_74 : decode cX0_isPlace 74 = .ok (.iload_n 1, 1) := by decide +kernel
theorem dX0_isPlace_75 : decode cX0_isPlace 75 = .ok (.iaload, 1) := by decide +kernel
theorem dX0_isPlace_76 : decode cX0_isPlace 76 = .ok (.if_icmp .le 7, 3) := by decide +kernel
theorem dX0_isPlace_79 : decode cX0_isPlace 79 = .ok (.iconst 1, 1) := by decide +kernel
theorem dX0_isPlace_80 : decode cX0_isPlace 80 = .ok (.goto 4, 3) := by decide +kernel
theorem dX0_isPlace_83 : decode cX0_isPlace 83 = .ok (.iconst 0, 1) := by decide +kernel
theorem dX0_isPlace_84 : decode cX0_isPlace 84 = .ok (.ireturn, 1) := by decide +kernel
theorem hcX0_isPlace : yX0_isPlace.cls ≠ "java/lang/invoke/MethodHandle" ∧ yX0_isPlace.cls ≠ "java/lang/invoke/VarHandle" ∧ (parseMethodDescriptor yX0_isPlace.desc).map (fun d => d.parameters.length) = some 1 := ⟨by decide +kernel, by decide +kernel, by decide +kernel⟩
def fX0_isPlace_L27 (s0 : sg_M) (x1 : Int) (k56 : Int → Prop) : Nat → Int → Prop
  | 0, _ => False
  | n_27 + 1, x2_27 => (((s0 32 3) ≤ x2_27 → k56 x2_27) ∧ (¬ ((s0 32 3) ≤ x2_27) → (0 ≤ x2_27 ∧ x2_27 < 60) ∧ (0 ≤ x1 ∧ x1 < 60) ∧ (((s0 34 x2_27) ≠ (s0 34 x1) → k56 x2_27) ∧ ((s0 34 x2_27) = (s0 34 x1) → sg_R (x2_27 + 1) ∧ (fX0_isPlace_L27 s0 x1 k56 n_27) (x2_27 + 1)))))
def fX0_isPlace_j23 (s0 : sg_M) (x1 : Int) (Q : Int → Prop)  : Prop := sg_R (x1 + 1) ∧ (∃ n12 : Nat, fX0_isPlace_L27 s0 x1 (fun x2_56e27 => (((s0 32 3) ≤ x2_56e27 → Q 1) ∧ (¬ ((s0 32 3) ≤ x2_56e27) → (0 ≤ x2_56e27 ∧ x2_56e27 < 60) ∧ (0 ≤ x1 ∧ x1 < 60) ∧ (((s0 34 x2_56e27) ≤ (s0 34 x1) → Q 0) ∧ (¬ ((s0 34 x2_56e27) ≤ (s0 34 x1)) → Q 1))))) n12 (x1 + 1))
def fX0_isPlace (s0 : sg_M) (x1 : Int) (Q : Int → Prop) : Prop := ((x1 ≤ 0 → (fX0_isPlace_j23 s0 x1 Q)) ∧ (¬ (x1 ≤ 0) → (0 ≤ x1 ∧ x1 < 60) ∧ (0 ≤ (x1 - 1) ∧ (x1 - 1) < 60) ∧ (((s0 34 x1) < (s0 34 (x1 - 1)) → (fX0_isPlace_j23 s0 x1 Q)) ∧ (¬ ((s0 34 x1) < (s0 34 (x1 - 1))) → Q 0))))
set_option maxHeartbeats 4000000 in
set_option maxRecDepth 100000 in
theorem CX0_isPlace {l : Launch} {G : sg_G} {La : sg_L} {s0 : sg_M} (hst : sg_St La) {x1 : Int} (r1 : sg_R x1) {Q : Int → Prop} (hf : fX0_isPlace s0 x1 Q) : sg_C l G yX0_isPlace cX0_isPlace 3 (some .boolean) 1 0 0 La s0 [sg_r 32, sg_i x1] (sg_PZ La s0 Q) := by
  refine sg_body (by decide +kernel) (Nat.le_of_ble_eq_true rfl) ?_
  intro p e s m args below meth c F hnm
  unfold fX0_isPlace at hf
  show sg_W p l e (sg_rm 1 0 0) s m args below meth c (MQ below (sg_Q (some .boolean) G La s.heap.size (sg_PZ La s0 Q)) args s 0 0 (sg_A La s.heap.size)) 3 G (sg_A La s.heap.size) La s0 0 0 0 [(0, sg_r 32), (1, sg_i x1)] []
  refine gw_iload_n F 1 rfl rfl dX0_isPlace_0 ?_
  have J23 : (fX0_isPlace_j23 s0 x1 Q) → sg_W p l e (sg_rm 1 0 0) s m args below meth c (MQ below (sg_Q (some .boolean) G La s.heap.size (sg_PZ La s0 Q)) args s 0 0 (sg_A La s.heap.size)) 3 G (sg_A La s.heap.size) La s0 0 0 23 [(0, sg_r 32), (1, sg_i x1)] [] := by
    intro hf
    unfold fX0_isPlace_j23 at hf
    refine gw_iload_n F 1 rfl rfl dX0_isPlace_23 ?_
    refine gw_iconst F dX0_isPlace_24 ?_
    refine gw_iadd F rfl dX0_isPlace_25 ?_
    refine gw_istore_n F rfl (by decide) rfl dX0_isPlace_26 ?_
    have L27 : ∀ (k56 : Int → Prop) (hk56 : ∀ (x2_56e27 : Int), sg_R x2_56e27 → k56 x2_56e27 → sg_W p l e (sg_rm 1 0 0) s m args below meth c (MQ below (sg_Q (some .boolean) G La s.heap.size (sg_PZ La s0 Q)) args s 0 0 (sg_A La s.heap.size)) 3 G (sg_A La s.heap.size) La s0 0 0 56 [(0, sg_r 32), (1, sg_i x1), (2, sg_i x2_56e27)] []), ∀ n_27 : Nat, ∀ (x2_27 : Int), sg_R x2_27 → fX0_isPlace_L27 s0 x1 k56 n_27 x2_27 → sg_W p l e (sg_rm 1 0 0) s m args below meth c (MQ below (sg_Q (some .boolean) G La s.heap.size (sg_PZ La s0 Q)) args s 0 0 (sg_A La s.heap.size)) 3 G (sg_A La s.heap.size) La s0 0 0 27 [(0, sg_r 32), (1, sg_i x1), (2, sg_i x2_27)] [] := by
      intro k56 hk56 n_27
      induction n_27 with
      | zero => intro x2_27 r2_27 hf; exact hf.elim
      | succ n_27 ih =>
        intro x2_27 r2_27 hf
        unfold fX0_isPlace_L27 at hf
        refine gw_iload_n F 2 rfl rfl dX0_isPlace_27 ?_
        refine gw_aload_n F 0 rfl rfl (by decide) dX0_isPlace_28 ?_
        refine gw_get0 F (so_32 hst) (by decide) rfl sg_lay_RX0 (j := 3) (by decide) rfl (host := "") (.inl kw_257) dX0_isPlace_29 (fun h1 => ?_)
        refine gw_icmp_ge F (tgt := 56) dX0_isPlace_32 (by decide) r2_27 h1 (fun c2 => ?_) (fun c2 => ?_)
        · have hf := hf.1 c2
          refine gw_sub [0, 1, 2] rfl ?_
          exact hk56 x2_27 r2_27 hf
        · have hf := hf.2 c2
          refine gw_aload_n F 0 rfl rfl (by decide) dX0_isPlace_35 ?_
          refine gw_get3 F (so_32 hst) (by decide) rfl sg_lay_RX0 (j := 1) (by decide) (o1 := 34) (by first | rfl | omega) rfl (host := "") (.inl kw_253) dX0_isPlace_36 (fun h3 => ?_)
          refine gw_iload_n F 2 rfl rfl dX0_isPlace_39 ?_
          obtain ⟨⟨b40, b41⟩, hf⟩ := hf
          refine gw_iald F (sa_34 hst) b40 b41 dX0_isPlace_40 (fun h5 => ?_)
          refine gw_aload_n F 0 rfl rfl (by decide) dX0_isPlace_41 ?_
          refine gw_get3 F (so_32 hst) (by decide) rfl sg_lay_RX0 (j := 1) (by decide) (o1 := 34) (by first | rfl | omega) rfl (host := "") (.inl kw_253) dX0_isPlace_42 (fun h6 => ?_)
          refine gw_iload_n F 1 rfl rfl dX0_isPlace_45 ?_
          obtain ⟨⟨b70, b71⟩, hf⟩ := hf
          refine gw_iald F (sa_34 hst) b70 b71 dX0_isPlace_46 (fun h8 => ?_)
          refine gw_icmp_ne F (tgt := 56) dX0_isPlace_47 (by decide) h5 h8 (fun c9 => ?_) (fun c9 => ?_)
          · have hf := hf.1 c9
            refine gw_sub [0, 1, 2] rfl ?_
            exact hk56 x2_27 r2_27 hf
          · have hf := hf.2 c9
            refine gw_iinc F (z := (x2_27 + 1)) 2 rfl (by omega) (by decide) rfl dX0_isPlace_50 ?_
            refine gw_goto F (tgt := 27) dX0_isPlace_53 (by decide) ?_
            obtain ⟨g10, hf⟩ := hf
            refine gw_sub [1, 2, 0] rfl ?_
            exact ih (x2_27 + 1) g10 hf
    obtain ⟨g11, hf⟩ := hf
    obtain ⟨n12, hf⟩ := hf
    refine gw_sub [1, 2, 0] rfl ?_
    refine L27 _ (fun x2_56e27 r2_56e27 hf => ?_) n12 (x1 + 1) g11 hf
    refine gw_iload_n F 2 rfl rfl dX0_isPlace_56 ?_
    refine gw_aload_n F 0 rfl rfl (by decide) dX0_isPlace_57 ?_
    refine gw_get0 F (so_32 hst) (by decide) rfl sg_lay_RX0 (j := 3) (by decide) rfl (host := "") (.inl kw_257) dX0_isPlace_58 (fun h13 => ?_)
    refine gw_icmp_ge F (tgt := 79) dX0_isPlace_61 (by decide) r2_56e27 h13 (fun c14 => ?_) (fun c14 => ?_)
    · have hf := hf.1 c14
      refine gw_iconst F dX0_isPlace_79 ?_
      refine gw_goto F (tgt := 84) dX0_isPlace_80 (by decide) ?_
      exact gr_PZ F (by decide) hf (by decide) (by decide) dX0_isPlace_84
    · have hf := hf.2 c14
      refine gw_aload_n F 0 rfl rfl (by decide) dX0_isPlace_64 ?_
      refine gw_get3 F (so_32 hst) (by decide) rfl sg_lay_RX0 (j := 1) (by decide) (o1 := 34) (by first | rfl | omega) rfl (host := "") (.inl kw_253) dX0_isPlace_65 (fun h15 => ?_)
      refine gw_iload_n F 2 rfl rfl dX0_isPlace_68 ?_
      obtain ⟨⟨b160, b161⟩, hf⟩ := hf
      refine gw_iald F (sa_34 hst) b160 b161 dX0_isPlace_69 (fun h17 => ?_)
      refine gw_aload_n F 0 rfl rfl (by decide) dX0_isPlace_70 ?_
      refine gw_get3 F (so_32 hst) (by decide) rfl sg_lay_RX0 (j := 1) (by decide) (o1 := 34) (by first | rfl | omega) rfl (host := "") (.inl kw_253) dX0_isPlace_71 (fun h18 => ?_)
      refine gw_iload_n F 1 rfl rfl dX0_isPlace_74 ?_
      obtain ⟨⟨b190, b191⟩, hf⟩ := hf
      refine gw_iald F (sa_34 hst) b190 b191 dX0_isPlace_75 (fun h20 => ?_)
      refine gw_icmp_le F (tgt := 83) dX0_isPlace_76 (by decide) h17 h20 (fun c21 => ?_) (fun c21 => ?_)
      · have hf := hf.1 c21
        refine gw_iconst F dX0_isPlace_83 ?_
        exact gr_PZ F (by decide) hf (by decide) (by decide) dX0_isPlace_84
      · have hf := hf.2 c21
        refine gw_iconst F dX0_isPlace_79 ?_
        refine gw_goto F (tgt := 84) dX0_isPlace_80 (by decide) ?_
        exact gr_PZ F (by decide) hf (by decide) (by decide) dX0_isPlace_84
  refine gw_if_le F (tgt := 23) dX0_isPlace_1 (by decide) r1 (fun c22 => ?_) (fun c22 => ?_)
  · have hf := hf.1 c22
    refine gw_sub [0, 1] rfl ?_
    exact J23  hf
  · have hf := hf.2 c22
    refine gw_aload_n F 0 rfl rfl (by decide) dX0_isPlace_4 ?_
    refine gw_get3 F (so_32 hst) (by decide) rfl sg_lay_RX0 (j := 1) (by decide) (o1 := 34) (by first | rfl | omega) rfl (host := "") (.inl kw_253) dX0_isPlace_5 (fun h23 => ?_)
    refine gw_iload_n F 1 rfl rfl dX0_isPlace_8 ?_
    obtain ⟨⟨b240, b241⟩, hf⟩ := hf
    refine gw_iald F (sa_34 hst) b240 b241 dX0_isPlace_9 (fun h25 => ?_)
    refine gw_aload_n F 0 rfl rfl (by decide) dX0_isPlace_10 ?_
    refine gw_get3 F (so_32 hst) (by decide) rfl sg_lay_RX0 (j := 1) (by decide) (o1 := 34) (by first | rfl | omega) rfl (host := "") (.inl kw_253) dX0_isPlace_11 (fun h26 => ?_)
    refine gw_iload_n F 1 rfl rfl dX0_isPlace_14 ?_
    refine gw_iconst F dX0_isPlace_15 ?_
    refine gw_isub F rfl dX0_isPlace_16 ?_
    obtain ⟨⟨b270, b271⟩, hf⟩ := hf
    refine gw_iald F (sa_34 hst) b270 b271 dX0_isPlace_17 (fun h28 => ?_)
    refine gw_icmp_lt F (tgt := 23) dX0_isPlace_18 (by decide) h25 h28 (fun c29 => ?_) (fun c29 => ?_)
    · have hf := hf.1 c29
      refine gw_sub [0, 1] rfl ?_
      exact J23  hf
    · have hf := hf.2 c29
      refine gw_iconst F dX0_isPlace_21 ?_
      exact gr_PZ F (by decide) hf (by decide) (by decide) dX0_isPlace_22

theorem dX11_within_0 : decode cX11_within 0 = .ok (.iload_n 1, 1) := by decide +kernel
theorem dX11_within_1 : decode cX11_within 1 = .ok (.ineg, 1) := by decide +kernel
theorem dX11_within_2 : decode cX11_within 2 = .ok (.iload_n 1, 1) := by decide +kernel
theorem dX11_within_3 : decode cX11_within 3 = .ok (.iload_n 0, 1) := by decide +kernel
theorem dX11_within_4 : decode cX11_within 4 = .ok (.invokestatic 297, 3) := by decide +kernel
theorem dX11_within_7 : decode cX11_within 7 = .ok (.invokestatic 291, 3) := by decide +kernel
theorem dX11_within_10 : decode cX11_within 10 = .ok (.ireturn, 1) := by decide +kernel
theorem hcX11_within : yX11_within.cls ≠ "java/lang/invoke/MethodHandle" ∧ yX11_within.cls ≠ "java/lang/invoke/VarHandle" ∧ (parseMethodDescriptor yX11_within.desc).map (fun d => d.parameters.length) = some 2 := ⟨by decide +kernel, by decide +kernel, by decide +kernel⟩
def fX11_within (x0 : Int) (x1 : Int) (Q : Int → Prop) : Prop := sg_R (-x1) ∧ Q (sg_max (-x1) (sg_min x1 x0))
set_option maxHeartbeats 4000000 in
set_option maxRecDepth 100000 in
theorem CX11_within {l : Launch} {G : sg_G} {La : sg_L} {s0 : sg_M} {x0 : Int} (r0 : sg_R x0) {x1 : Int} (r1 : sg_R x1) {Q : Int → Prop} (hf : fX11_within x0 x1 Q) : sg_C l G yX11_within cX11_within 2 (some .int) 1 0 0 La s0 [sg_i x0, sg_i x1] (sg_PI La s0 Q) := by
  refine sg_body (by decide +kernel) (Nat.le_of_ble_eq_true rfl) ?_
  intro p e s m args below meth c F hnm
  unfold fX11_within at hf
  show sg_W p l e (sg_rm 1 0 0) s m args below meth c (MQ below (sg_Q (some .int) G La s.heap.size (sg_PI La s0 Q)) args s 0 0 (sg_A La s.heap.size)) 2 G (sg_A La s.heap.size) La s0 0 0 0 [(0, sg_i x0), (1, sg_i x1)] []
  refine gw_iload_n F 1 rfl rfl dX11_within_0 ?_
  refine gw_ineg F rfl dX11_within_1 ?_
  refine gw_iload_n F 1 rfl rfl dX11_within_2 ?_
  refine gw_iload_n F 0 rfl rfl dX11_within_3 ?_
  refine gw_min F r1 r0 rfl kw_522 kw_min1 kw_math kw_min2 (Nat.le_of_ble_eq_true rfl) (by decide) (by decide) (by decide) (by decide) dX11_within_4 ?_
  obtain ⟨g1, hf⟩ := hf
  refine gw_max F g1 (sg_min_R r1 r0) rfl kw_523 kw_max1 kw_math kw_max2 (Nat.le_of_ble_eq_true rfl) (by decide) (by decide) (by decide) (by decide) dX11_within_7 ?_
  exact gr_PI F (sg_max_R g1 (sg_min_R r1 r0)) hf (by decide) (by decide) dX11_within_10

theorem dX1_has_0 : decode cX1_has 0 = .ok (.iload_n 1, 1) := by decide +kernel
theorem dX1_has_1 : decode cX1_has 1 = .ok (.ifCond .lt 21, 3) := by decide +kernel
theorem dX1_has_4 : decode cX1_has 4 = .ok (.iload_n 1, 1) := by decide +kernel
theorem dX1_has_5 : decode cX1_has 5 = .ok (.aload_n 0, 1) := by decide +kernel
theorem dX1_has_6 : decode cX1_has 6 = .ok (.getfield 24, 3) := by decide +kernel
theorem dX1_has_9 : decode cX1_has 9 = .ok (.if_icmp .ge 13, 3) := by decide +kernel
theorem dX1_has_12 : decode cX1_has 12 = .ok (.iload_n 1, 1) := by decide +kernel
theorem dX1_has_13 : decode cX1_has 13 = .ok (.bipush 60, 2) := by decide +kernel
theorem dX1_has_15 : decode cX1_has 15 = .ok (.if_icmp .ge 7, 3) := by decide +kernel
theorem dX1_has_18 : decode cX1_has 18 = .ok (.iconst 1, 1) := by decide +kernel
theorem dX1_has_19 : decode cX1_has 19 = .ok (.goto 4, 3) := by decide +kernel
theorem dX1_has_22 : decode cX1_has 22 = .ok (.iconst 0, 1) := by decide +kernel
theorem dX1_has_23 : decode cX1_has 23 = .ok (.ireturn, 1) := by decide +kernel
theorem hcX1_has : yX1_has.cls ≠ "java/lang/invoke/MethodHandle" ∧ yX1_has.cls ≠ "java/lang/invoke/VarHandle" ∧ (parseMethodDescriptor yX1_has.desc).map (fun d => d.parameters.length) = some 1 := ⟨by decide +kernel, by decide +kernel, by decide +kernel⟩
def fX1_has (s0 : sg_M) (o : Int) (x1 : Int) (Q : Int → Prop) : Prop := ((x1 < 0 → Q 0) ∧ (¬ (x1 < 0) → (((s0 o 4) ≤ x1 → Q 0) ∧ (¬ ((s0 o 4) ≤ x1) → ((60 ≤ x1 → Q 0) ∧ (¬ (60 ≤ x1) → Q 1))))))
set_option maxHeartbeats 4000000 in
set_option maxRecDepth 100000 in
theorem CX1_has {l : Launch} {G : sg_G} {La : sg_L} {s0 : sg_M} {o : Int} (to : sg_O La o 1) {x1 : Int} (r1 : sg_R x1) {Q : Int → Prop} (hf : fX1_has s0 o x1 Q) : sg_C l G yX1_has cX1_has 2 (some .boolean) 1 0 0 La s0 [sg_r o, sg_i x1] (sg_PZ La s0 Q) := by
  refine sg_body (by decide +kernel) (Nat.le_of_ble_eq_true rfl) ?_
  intro p e s m args below meth c F hnm
  unfold fX1_has at hf
  show sg_W p l e (sg_rm 1 0 0) s m args below meth c (MQ below (sg_Q (some .boolean) G La s.heap.size (sg_PZ La s0 Q)) args s 0 0 (sg_A La s.heap.size)) 2 G (sg_A La s.heap.size) La s0 0 0 0 [(0, sg_r o), (1, sg_i x1)] []
  refine gw_iload_n F 1 rfl rfl dX1_has_0 ?_
  refine gw_if_lt F (tgt := 22) dX1_has_1 (by decide) r1 (fun c1 => ?_) (fun c1 => ?_)
  · have hf := hf.1 c1
    refine gw_iconst F dX1_has_22 ?_
    exact gr_PZ F (by decide) hf (by decide) (by decide) dX1_has_23
  · have hf := hf.2 c1
    refine gw_iload_n F 1 rfl rfl dX1_has_4 ?_
    refine gw_aload_n F 0 rfl rfl to.1 dX1_has_5 ?_
    refine gw_get0 F to (by decide) rfl sg_lay_RX1 (j := 4) (by decide) rfl (host := "") (.inl kw_163) dX1_has_6 (fun h2 => ?_)
    refine gw_icmp_ge F (tgt := 22) dX1_has_9 (by decide) r1 h2 (fun c3 => ?_) (fun c3 => ?_)
    · have hf := hf.1 c3
      refine gw_iconst F dX1_has_22 ?_
      exact gr_PZ F (by decide) hf (by decide) (by decide) dX1_has_23
    · have hf := hf.2 c3
      refine gw_iload_n F 1 rfl rfl dX1_has_12 ?_
      refine gw_bipush F rfl dX1_has_13 ?_
      refine gw_icmp_ge F (tgt := 22) dX1_has_15 (by decide) r1 (by decide) (fun c4 => ?_) (fun c4 => ?_)
      · have hf := hf.1 c4
        refine gw_iconst F dX1_has_22 ?_
        exact gr_PZ F (by decide) hf (by decide) (by decide) dX1_has_23
      · have hf := hf.2 c4
        refine gw_iconst F dX1_has_18 ?_
        refine gw_goto F (tgt := 23) dX1_has_19 (by decide) ?_
        exact gr_PZ F (by decide) hf (by decide) (by decide) dX1_has_23

theorem dX1_stiffness_0 : decode cX1_stiffness 0 = .ok (.aload_n 0, 1) := by decide +kernel
theorem dX1_stiffness_1 : decode cX1_stiffness 1 = .ok (.iload_n 1, 1) := by decide +kernel
theorem dX1_stiffness_2 : decode cX1_stiffness 2 = .ok (.invokevirtual 38, 3) := by decide +kernel
theorem dX1_stiffness_5 : decode cX1_stiffness 5 = .ok (.ifCond .eq 40, 3) := by decide +kernel
theorem dX1_stiffness_8 : decode cX1_stiffness 8 = .ok (.aload_n 0, 1) := by decide +kernel
theorem dX1_stiffness_9 : decode cX1_stiffness 9 = .ok (.getfield 9, 3) := by decide +kernel
theorem dX1_stiffness_12 : decode cX1_stiffness 12 = .ok (.iload_n 1, 1) := by decide +kernel
theorem dX1_stiffness_13 : decode cX1_stiffness 13 = .ok (.iaload, 1) := by decide +kernel
theorem dX1_stiffness_14 : decode cX1_stiffness 14 = .ok (.aload_n 0, 1) := by decide +kernel
theorem dX1_stiffness_15 : decode cX1_stiffness 15 = .ok (.getfield 18, 3) := by decide +kernel
theorem dX1_stiffness_18 : decode cX1_stiffness 18 = .ok (.iload_n 1, 1) := by decide +kernel
theorem dX1_stiffness_19 : decode cX1_stiffness 19 = .ok (.iaload, 1) := by decide +kernel
theorem dX1_stiffness_20 : decode cX1_stiffness 20 = .ok (.isub, 1) := by decide +kernel
theorem dX1_stiffness_21 : decode cX1_stiffness 21 = .ok (.aload_n 0, 1) := by decide +kernel
theorem dX1_stiffness_22 : decode cX1_stiffness 22 = .ok (.getfield 15, 3) := by decide +kernel
theorem dX1_stiffness_25 : decode cX1_stiffness 25 = .ok (.iload_n 1, 1) := by decide +kernel
theorem dX1_stiffness_26 : decode cX1_stiffness 26 = .ok (.iaload, 1) := by decide +kernel
theorem dX1_stiffness_27 : decode cX1_stiffness 27 = .ok (.imul, 1) := by decide +kernel
theorem dX1_stiffness_28 : decode cX1_stiffness 28 = .ok (.aload_n 0, 1) := by decide +kernel
theorem dX1_stiffness_29 : decode cX1_stiffness 29 = .ok (.getfield 15, 3) := by decide +kernel
theorem dX1_stiffness_32 : decode cX1_stiffness 32 = .ok (.iload_n 1, 1) := by decide +kernel
theorem dX1_stiffness_33 : decode cX1_stiffness 33 = .ok (.iaload, 1) := by decide +kernel
theorem dX1_stiffness_34 : decode cX1_stiffness 34 = .ok (.imul, 1) := by decide +kernel
theorem dX1_stiffness_35 : decode cX1_stiffness 35 = .ok (.aload_n 0, 1) := by decide +kernel
theorem dX1_stiffness_36 : decode cX1_stiffness 36 = .ok (.getfield 15, 3) := by decide +kernel
theorem dX1_stiffness_39 : decode cX1_stiffness 39 = .ok (.iload_n 1, 1) := by decide +kernel
theorem dX1_stiffness_40 : decode cX1_stiffness 40 = .ok (.iaload, 1) := by decide +kernel
theorem dX1_stiffness_41 : decode cX1_stiffness 41 = .ok (.imul, 1) := by decide +kernel
theorem dX1_stiffness_42 : decode cX1_stiffness 42 = .ok (.goto 4, 3) := by decide +kernel
theorem dX1_stiffness_45 : decode cX1_stiffness 45 = .ok (.iconst 0, 1) := by decide +kernel
theorem dX1_stiffness_46 : decode cX1_stiffness 46 = .ok (.ireturn, 1) := by decide +kernel
theorem hcX1_stiffness : yX1_stiffness.cls ≠ "java/lang/invoke/MethodHandle" ∧ yX1_stiffness.cls ≠ "java/lang/invoke/VarHandle" ∧ (parseMethodDescriptor yX1_stiffness.desc).map (fun d => d.parameters.length) = some 1 := ⟨by decide +kernel, by decide +kernel, by decide +kernel⟩
def fX1_stiffness (s0 : sg_M) (o : Int) (x1 : Int) (Q : Int → Prop) : Prop := fX1_has s0 o x1 (fun u1 => ((u1 = 0 → Q 0) ∧ (¬ (u1 = 0) → (0 ≤ x1 ∧ x1 < 60) ∧ (0 ≤ x1 ∧ x1 < 60) ∧ (0 ≤ x1 ∧ x1 < 60) ∧ (0 ≤ x1 ∧ x1 < 60) ∧ (0 ≤ x1 ∧ x1 < 60) ∧ sg_R (((((s0 (o + 1) x1) - (s0 (o + 3) x1)) * (s0 (o + 2) x1)) * (s0 (o + 2) x1)) * (s0 (o + 2) x1)) ∧ Q (((((s0 (o + 1) x1) - (s0 (o + 3) x1)) * (s0 (o + 2) x1)) * (s0 (o + 2) x1)) * (s0 (o + 2) x1)))))
set_option maxHeartbeats 4000000 in
set_option maxRecDepth 100000 in
theorem CX1_stiffness {l : Launch} {G : sg_G} {La : sg_L} {s0 : sg_M} {o : Int} (to : sg_O La o 1) {x1 : Int} (r1 : sg_R x1) {Q : Int → Prop} (hf : fX1_stiffness s0 o x1 Q) : sg_C l G yX1_stiffness cX1_stiffness 2 (some .int) 2 0 0 La s0 [sg_r o, sg_i x1] (sg_PI La s0 Q) := by
  refine sg_body (by decide +kernel) (Nat.le_of_ble_eq_true rfl) ?_
  intro p e s m args below meth c F hnm
  unfold fX1_stiffness at hf
  show sg_W p l e (sg_rm 2 0 0) s m args below meth c (MQ below (sg_Q (some .int) G La s.heap.size (sg_PI La s0 Q)) args s 0 0 (sg_A La s.heap.size)) 2 G (sg_A La s.heap.size) La s0 0 0 0 [(0, sg_r o), (1, sg_i x1)] []
  refine gw_aload_n F 0 rfl rfl to.1 dX1_stiffness_0 ?_
  refine gw_iload_n F 1 rfl rfl dX1_stiffness_1 ?_
  refine gk_PZ F (gc_V F (S := []) (As := [sg_i x1]) (T := TX1) (N := 7) (CX1_has to r1 hf) to (by decide) rfl kw_518 kw_94 kw_515 kw_516 kw_517 hcX1_has ⟨by decide, by decide⟩ rfl rfl (Nat.le_of_ble_eq_true rfl) ⟨by decide, by decide⟩ dX1_stiffness_2) (fun u1 h2 hf => ?_)
  refine gw_if_eq F (tgt := 45) dX1_stiffness_5 (by decide) (sg_B_R h2) (fun c3 => ?_) (fun c3 => ?_)
  · have hf := hf.1 c3
    refine gw_iconst F dX1_stiffness_45 ?_
    exact gr_PI F (by decide) hf (by decide) (by decide) dX1_stiffness_46
  · have hf := hf.2 c3
    refine gw_aload_n F 0 rfl rfl to.1 dX1_stiffness_8 ?_
    refine gw_get3 F to (by decide) rfl sg_lay_RX1 (j := 0) (by decide) (o1 := (o + 1)) (by first | rfl | omega) rfl (host := "") (.inl kw_158) dX1_stiffness_9 (fun h4 => ?_)
    refine gw_iload_n F 1 rfl rfl dX1_stiffness_12 ?_
    obtain ⟨⟨b50, b51⟩, hf⟩ := hf
    refine gw_iald F (sg_AN_of (sg_O_of h4 (by decide)) (by decide) (by decide) (by decide)) b50 b51 dX1_stiffness_13 (fun h6 => ?_)
    refine gw_aload_n F 0 rfl rfl to.1 dX1_stiffness_14 ?_
    refine gw_get3 F to (by decide) rfl sg_lay_RX1 (j := 2) (by decide) (o1 := (o + 3)) (by first | rfl | omega) rfl (host := "") (.inl kw_161) dX1_stiffness_15 (fun h7 => ?_)
    refine gw_iload_n F 1 rfl rfl dX1_stiffness_18 ?_
    obtain ⟨⟨b80, b81⟩, hf⟩ := hf
    refine gw_iald F (sg_AN_of (sg_O_of h7 (by decide)) (by decide) (by decide) (by decide)) b80 b81 dX1_stiffness_19 (fun h9 => ?_)
    refine gw_isub F rfl dX1_stiffness_20 ?_
    refine gw_aload_n F 0 rfl rfl to.1 dX1_stiffness_21 ?_
    refine gw_get3 F to (by decide) rfl sg_lay_RX1 (j := 1) (by decide) (o1 := (o + 2)) (by first | rfl | omega) rfl (host := "") (.inl kw_159) dX1_stiffness_22 (fun h10 => ?_)
    refine gw_iload_n F 1 rfl rfl dX1_stiffness_25 ?_
    obtain ⟨⟨b110, b111⟩, hf⟩ := hf
    refine gw_iald F (sg_AN_of (sg_O_of h10 (by decide)) (by decide) (by decide) (by decide)) b110 b111 dX1_stiffness_26 (fun h12 => ?_)
    refine gw_imul F rfl dX1_stiffness_27 ?_
    refine gw_aload_n F 0 rfl rfl to.1 dX1_stiffness_28 ?_
    refine gw_get3 F to (by decide) rfl sg_lay_RX1 (j := 1) (by decide) (o1 := (o + 2)) (by first | rfl | omega) rfl (host := "") (.inl kw_159) dX1_stiffness_29 (fun h13 => ?_)
    refine gw_iload_n F 1 rfl rfl dX1_stiffness_32 ?_
    obtain ⟨⟨b140, b141⟩, hf⟩ := hf
    refine gw_iald F (sg_AN_of (sg_O_of h13 (by decide)) (by decide) (by decide) (by decide)) b140 b141 dX1_stiffness_33 (fun h15 => ?_)
    refine gw_imul F rfl dX1_stiffness_34 ?_
    refine gw_aload_n F 0 rfl rfl to.1 dX1_stiffness_35 ?_
    refine gw_get3 F to (by decide) rfl sg_lay_RX1 (j := 1) (by decide) (o1 := (o + 2)) (by first | rfl | omega) rfl (host := "") (.inl kw_159) dX1_stiffness_36 (fun h16 => ?_)
    refine gw_iload_n F 1 rfl rfl dX1_stiffness_39 ?_
    obtain ⟨⟨b170, b171⟩, hf⟩ := hf
    refine gw_iald F (sg_AN_of (sg_O_of h16 (by decide)) (by decide) (by decide) (by decide)) b170 b171 dX1_stiffness_40 (fun h18 => ?_)
    refine gw_imul F rfl dX1_stiffness_41 ?_
    refine gw_goto F (tgt := 46) dX1_stiffness_42 (by decide) ?_
    obtain ⟨g19, hf⟩ := hf
    exact gr_PI F g19 hf (by decide) (by decide) dX1_stiffness_46

theorem dX1_curve_0 : decode cX1_curve 0 = .ok (.aload_n 0, 1) := by decide +kernel
theorem dX1_curve_1 : decode cX1_curve 1 = .ok (.getfield 24, 3) := by decide +kernel
theorem dX1_curve_4 : decode cX1_curve 4 = .ok (.iconst 1, 1) := by decide +kernel
theorem dX1_curve_5 : decode cX1_curve 5 = .ok (.isub, 1) := by decide +kernel
theorem dX1_curve_6 : decode cX1_curve 6 = .ok (.istore 4, 2) := by decide +kernel
theorem dX1_curve_8 : decode cX1_curve 8 = .ok (.aload_n 0, 1) := by decide +kernel
theorem dX1_curve_9 : decode cX1_curve 9 = .ok (.iload_n 3, 1) := by decide +kernel
theorem dX1_curve_10 : decode cX1_curve 10 = .ok (.invokevirtual 42, 3) := by decide +kernel
theorem dX1_curve_13 : decode cX1_curve 13 = .ok (.istore 5, 2) := by decide +kernel
theorem dX1_curve_15 : decode cX1_curve 15 = .ok (.iload 4, 2) := by decide +kernel
theorem dX1_curve_17 : decode cX1_curve 17 = .ok (.iconst 1, 1) := by decide +kernel
theorem dX1_curve_18 : decode cX1_curve 18 = .ok (.if_icmp .lt 17, 3) := by decide +kernel
theorem dX1_curve_21 : decode cX1_curve 21 = .ok (.iload 5, 2) := by decide +kernel
theorem dX1_curve_23 : decode cX1_curve 23 = .ok (.iconst 1, 1) := by decide +kernel
theorem dX1_curve_24 : decode cX1_curve 24 = .ok (.if_icmp .lt 11, 3) := by decide +kernel
theorem dX1_curve_27 : decode cX1_curve 27 = .ok (.aload_n 0, 1) := by decide +kernel
theorem dX1_curve_28 : decode cX1_curve 28 = .ok (.iload_n 3, 1) := by decide +kernel
theorem dX1_curve_29 : decode cX1_curve 29 = .ok (.invokevirtual 38, 3) := by decide +kernel
theorem dX1_curve_32 : decode cX1_curve 32 = .ok (.ifCond .ne 5, 3) := by decide +kernel
theorem dX1_curve_35 : decode cX1_curve 35 = .ok (.iconst 0, 1) := by decide +kernel
theorem dX1_curve_36 : decode cX1_curve 36 = .ok (.ireturn, 1) := by decide +kernel
theorem dX1_curve_37 : decode cX1_curve 37 = .ok (.iload_n 1, 1) := by decide +kernel
theorem dX1_curve_38 : decode cX1_curve 38 = .ok (.iload 4, 2) := by decide +kernel
theorem dX1_curve_40 : decode cX1_curve 40 = .ok (.iload_n 3, 1) := by decide +kernel
theorem dX1_curve_41 : decode cX1_curve 41 = .ok (.isub, 1) := by decide +kernel
theorem dX1_curve_42 : decode cX1_curve 42 = .ok (.imul, 1) := by decide +kernel
theorem dX1_curve_43 : decode cX1_curve 43 = .ok (.iload_n 2, 1) := by decide +kernel
theorem dX1_curve_44 : decode cX1_curve 44 = .ok (.iload_n 3, 1) := by decide +kernel
theorem dX1_curve_45 : decode cX1_curve 45 = .ok (.imul, 1) := by decide +kernel
theorem dX1_curve_46 : decode cX1_curve 46 = .ok (.iadd, 1) := by decide +kernel
theorem dX1_curve_47 : decode cX1_curve 47 = .ok (.iload 4, 2) := by decide +kernel
theorem dX1_curve_49 : decode cX1_curve 49 = .ok (.idiv, 1) := by decide +kernel
theorem dX1_curve_50 : decode cX1_curve 50 = .ok (.istore 6, 2) := by decide +kernel
theorem dX1_curve_52 : decode cX1_curve 52 = .ok (.iload 6, 2) := by decide +kernel
theorem dX1_curve_54 : decode cX1_curve 54 = .ok (.sipush 1000, 3) := by decide +kernel
theorem dX1_curve_57 : decode cX1_curve 57 = .ok (.imul, 1) := by decide +kernel
theorem dX1_curve_58 : decode cX1_curve 58 = .ok (.iload 5, 2) := by decide +kernel
theorem dX1_curve_60 : decode cX1_curve 60 = .ok (.idiv, 1) := by decide +kernel
theorem dX1_curve_61 : decode cX1_curve 61 = .ok (.aload_n 0, 1) := by decide +kernel
theorem dX1_curve_62 : decode cX1_curve 62 = .ok (.getfield 21, 3) := by decide +kernel
theorem dX1_curve_65 : decode cX1_curve 65 = .ok (.iload_n 3, 1) := by decide +kernel
theorem dX1_curve_66 : decode cX1_curve 66 = .ok (.iaload, 1) := by decide +kernel
theorem dX1_curve_67 : decode cX1_curve 67 = .ok (.iadd, 1) := by decide +kernel
theorem dX1_curve_68 : decode cX1_curve 68 = .ok (.sipush 2000, 3) := by decide +kernel
theorem dX1_curve_71 : decode cX1_curve 71 = .ok (.invokestatic 46, 3) := by decide +kernel
theorem dX1_curve_74 : decode cX1_curve 74 = .ok (.ireturn, 1) := by decide +kernel
theorem hcX1_curve : yX1_curve.cls ≠ "java/lang/invoke/MethodHandle" ∧ yX1_curve.cls ≠ "java/lang/invoke/VarHandle" ∧ (parseMethodDescriptor yX1_curve.desc).map (fun d => d.parameters.length) = some 3 := ⟨by decide +kernel, by decide +kernel, by decide +kernel⟩
def fX1_curve (s0 : sg_M) (o : Int) (x1 : Int) (x2 : Int) (x3 : Int) (Q : Int → Prop) : Prop := fX1_stiffness s0 o x3 (fun u2 => sg_R ((s0 o 4) - 1) ∧ ((((s0 o 4) - 1) < 1 → Q 0) ∧ (¬ (((s0 o 4) - 1) < 1) → ((u2 < 1 → Q 0) ∧ (¬ (u2 < 1) → fX1_has s0 o x3 (fun u7 => ((u7 ≠ 0 → sg_R ((x1 * (((s0 o 4) - 1) - x3)) + (x2 * x3)) ∧ (((s0 o 4) - 1) ≠ 0) ∧ ∀ v12 : Int, v12 = (Int.tdiv ((x1 * (((s0 o 4) - 1) - x3)) + (x2 * x3)) ((s0 o 4) - 1)) → sg_R v12 ∧ sg_R (v12 * 1000) ∧ (u2 ≠ 0) ∧ (0 ≤ x3 ∧ x3 < 60) ∧ sg_R ((Int.tdiv (v12 * 1000) u2) + (s0 (o + 4) x3)) ∧ fX11_within ((Int.tdiv (v12 * 1000) u2) + (s0 (o + 4) x3)) 2000 (fun u21 => Q u21)) ∧ (u7 = 0 → Q 0))))))))
set_option maxHeartbeats 4000000 in
set_option maxRecDepth 100000 in
theorem CX1_curve {l : Launch} {G : sg_G} {La : sg_L} {s0 : sg_M} {o : Int} (to : sg_O La o 1) {x1 : Int} (r1 : sg_R x1) {x2 : Int} (r2 : sg_R x2) {x3 : Int} (r3 : sg_R x3) {Q : Int → Prop} (hf : fX1_curve s0 o x1 x2 x3 Q) : sg_C l G yX1_curve cX1_curve 7 (some .int) 3 0 0 La s0 [sg_r o, sg_i x1, sg_i x2, sg_i x3] (sg_PI La s0 Q) := by
  refine sg_body (by decide +kernel) (Nat.le_of_ble_eq_true rfl) ?_
  intro p e s m args below meth c F hnm
  unfold fX1_curve at hf
  show sg_W p l e (sg_rm 3 0 0) s m args below meth c (MQ below (sg_Q (some .int) G La s.heap.size (sg_PI La s0 Q)) args s 0 0 (sg_A La s.heap.size)) 7 G (sg_A La s.heap.size) La s0 0 0 0 [(0, sg_r o), (1, sg_i x1), (2, sg_i x2), (3, sg_i x3)] []
  refine gw_aload_n F 0 rfl rfl to.1 dX1_curve_0 ?_
  refine gw_get0 F to (by decide) rfl sg_lay_RX1 (j := 4) (by decide) rfl (host := "") (.inl kw_163) dX1_curve_1 (fun h1 => ?_)
  refine gw_iconst F dX1_curve_4 ?_
  refine gw_isub F rfl dX1_curve_5 ?_
  refine gw_istore F (by decide) rfl dX1_curve_6 ?_
  refine gw_aload_n F 1 rfl rfl to.1 dX1_curve_8 ?_
  refine gw_iload_n F 4 rfl rfl dX1_curve_9 ?_
  refine gk_PI F (gc_V F (S := []) (As := [sg_i x3]) (T := TX1) (N := 7) (CX1_stiffness to r3 hf) to (by decide) rfl kw_514 kw_94 kw_512 kw_513 kw_4 hcX1_stiffness ⟨by decide, by decide⟩ rfl rfl (Nat.le_of_ble_eq_true rfl) ⟨by decide, by decide⟩ dX1_curve_10) (fun u2 h3 hf => ?_)
  refine gw_istore F (by decide) rfl dX1_curve_13 ?_
  refine gw_iload F 1 rfl dX1_curve_15 ?_
  refine gw_iconst F dX1_curve_17 ?_
  obtain ⟨g4, hf⟩ := hf
  refine gw_icmp_lt F (tgt := 35) dX1_curve_18 (by decide) g4 (by decide) (fun c5 => ?_) (fun c5 => ?_)
  · have hf := hf.1 c5
    refine gw_iconst F dX1_curve_35 ?_
    exact gr_PI F (by decide) hf (by decide) (by decide) dX1_curve_36
  · have hf := hf.2 c5
    refine gw_iload F 0 rfl dX1_curve_21 ?_
    refine gw_iconst F dX1_curve_23 ?_
    refine gw_icmp_lt F (tgt := 35) dX1_curve_24 (by decide) h3 (by decide) (fun c6 => ?_) (fun c6 => ?_)
    · have hf := hf.1 c6
      refine gw_iconst F dX1_curve_35 ?_
      exact gr_PI F (by decide) hf (by decide) (by decide) dX1_curve_36
    · have hf := hf.2 c6
      refine gw_aload_n F 2 rfl rfl to.1 dX1_curve_27 ?_
      refine gw_iload_n F 5 rfl rfl dX1_curve_28 ?_
      refine gk_PZ F (gc_V F (S := []) (As := [sg_i x3]) (T := TX1) (N := 7) (CX1_has to r3 hf) to (by decide) rfl kw_518 kw_94 kw_515 kw_516 kw_517 hcX1_has ⟨by decide, by decide⟩ rfl rfl (Nat.le_of_ble_eq_true rfl) ⟨by decide, by decide⟩ dX1_curve_29) (fun u7 h8 hf => ?_)
      refine gw_if_ne F (tgt := 37) dX1_curve_32 (by decide) (sg_B_R h8) (fun c9 => ?_) (fun c9 => ?_)
      · have hf := hf.1 c9
        refine gw_iload_n F 3 rfl rfl dX1_curve_37 ?_
        refine gw_iload F 1 rfl dX1_curve_38 ?_
        refine gw_iload_n F 5 rfl rfl dX1_curve_40 ?_
        refine gw_isub F rfl dX1_curve_41 ?_
        refine gw_imul F rfl dX1_curve_42 ?_
        refine gw_iload_n F 4 rfl rfl dX1_curve_43 ?_
        refine gw_iload_n F 5 rfl rfl dX1_curve_44 ?_
        refine gw_imul F rfl dX1_curve_45 ?_
        refine gw_iadd F rfl dX1_curve_46 ?_
        refine gw_iload F 1 rfl dX1_curve_47 ?_
        obtain ⟨g10, hf⟩ := hf
        obtain ⟨g11, hf⟩ := hf
        refine gw_idiv F g10 g4 g11 rfl dX1_curve_49 ?_
        obtain ⟨v12, e13⟩ : ∃ z : Int, z = (Int.tdiv ((x1 * (((s0 o 4) - 1) - x3)) + (x2 * x3)) ((s0 o 4) - 1)) := ⟨_, rfl⟩
        obtain ⟨g14, hf⟩ := hf v12 e13
        refine gw_nmI e13 ?_
        refine gw_istore F (by decide) rfl dX1_curve_50 ?_
        refine gw_iload F 0 rfl dX1_curve_52 ?_
        refine gw_sipush F rfl dX1_curve_54 ?_
        refine gw_imul F rfl dX1_curve_57 ?_
        refine gw_iload F 1 rfl dX1_curve_58 ?_
        obtain ⟨g15, hf⟩ := hf
        obtain ⟨g16, hf⟩ := hf
        refine gw_idiv F g15 h3 g16 rfl dX1_curve_60 ?_
        refine gw_aload_n F 3 rfl rfl to.1 dX1_curve_61 ?_
        refine gw_get3 F to (by decide) rfl sg_lay_RX1 (j := 3) (by decide) (o1 := (o + 4)) (by first | rfl | omega) rfl (host := "") (.inl kw_162) dX1_curve_62 (fun h17 => ?_)
        refine gw_iload_n F 6 rfl rfl dX1_curve_65 ?_
        obtain ⟨⟨b180, b181⟩, hf⟩ := hf
        refine gw_iald F (sg_AN_of (sg_O_of h17 (by decide)) (by decide) (by decide) (by decide)) b180 b181 dX1_curve_66 (fun h19 => ?_)
        refine gw_iadd F rfl dX1_curve_67 ?_
        refine gw_sipush F rfl dX1_curve_68 ?_
        obtain ⟨g20, hf⟩ := hf
        refine gk_PI F (gc_SN F (S := []) (As := [sg_i ((Int.tdiv (v12 * 1000) u2) + (s0 (o + 4) x3)), sg_i 2000]) (CX11_within g20 (by decide) hf) kw_521 kw_90 kw_519 kw_520 hcX11_within ⟨by decide, by decide⟩ rfl rfl (Nat.le_of_ble_eq_true rfl) ⟨by decide, by decide⟩ dX1_curve_71) (fun u21 h22 hf => ?_)
        exact gr_PI F h22 hf (by decide) (by decide) dX1_curve_74
      · have hf := hf.2 c9
        refine gw_iconst F dX1_curve_35 ?_
        exact gr_PI F (by decide) hf (by decide) (by decide) dX1_curve_36

theorem dX4_add_0 : decode cX4_add 0 = .ok (.aload_n 0, 1) := by decide +kernel
theorem dX4_add_1 : decode cX4_add 1 = .ok (.getfield 9, 3) := by decide +kernel
theorem dX4_add_4 : decode cX4_add 4 = .ok (.ifCond .lt 35, 3) := by decide +kernel
theorem dX4_add_7 : decode cX4_add 7 = .ok (.aload_n 0, 1) := by decide +kernel
theorem dX4_add_8 : decode cX4_add 8 = .ok (.getfield 9, 3) := by decide +kernel
theorem dX4_add_11 : decode cX4_add 11 = .ok (.aload_n 0, 1) := by decide +kernel
theorem dX4_add_12 : decode cX4_add 12 = .ok (.getfield 25, 3) := by decide +kernel
theorem dX4_add_15 : decode cX4_add 15 = .ok (.arraylength, 1) := by decide +kernel
theorem dX4_add_16 : decode cX4_add 16 = .ok (.if_icmp .ge 23, 3) := by decide +kernel
theorem dX4_add_19 : decode cX4_add 19 = .ok (.aload_n 0, 1) := by decide +kernel
theorem dX4_add_20 : decode cX4_add 20 = .ok (.getfield 25, 3) := by decide +kernel
theorem dX4_add_23 : decode cX4_add 23 = .ok (.aload_n 0, 1) := by decide +kernel
theorem dX4_add_24 : decode cX4_add 24 = .ok (.getfield 9, 3) := by decide +kernel
theorem dX4_add_27 : decode cX4_add 27 = .ok (.iload_n 1, 1) := by decide +kernel
theorem dX4_add_28 : decode cX4_add 28 = .ok (.iastore, 1) := by decide +kernel
theorem dX4_add_29 : decode cX4_add 29 = .ok (.aload_n 0, 1) := by decide +kernel
theorem dX4_add_30 : decode cX4_add 30 = .ok (.dup, 1) := by decide +kernel
theorem dX4_add_31 : decode cX4_add 31 = .ok (.getfield 9, 3) := by decide +kernel
theorem dX4_add_34 : decode cX4_add 34 = .ok (.iconst 1, 1) := by decide +kernel
theorem dX4_add_35 : decode cX4_add 35 = .ok (.iadd, 1) := by decide +kernel
theorem dX4_add_36 : decode cX4_add 36 = .ok (.putfield 9, 3) := by decide +kernel
theorem dX4_add_39 : decode cX4_add 39 = .ok (.return_, 1) := by decide +kernel
theorem hcX4_add : yX4_add.cls ≠ "java/lang/invoke/MethodHandle" ∧ yX4_add.cls ≠ "java/lang/invoke/VarHandle" ∧ (parseMethodDescriptor yX4_add.desc).map (fun d => d.parameters.length) = some 1 := ⟨by decide +kernel, by decide +kernel, by decide +kernel⟩
def fX4_add (La : sg_L) (s0 : sg_M) (o : Int) (x1 : Int) (Q : sg_M → Prop) : Prop := (((s0 o 1) < 0 → Q s0) ∧ (¬ ((s0 o 1) < 0) → sg_R (sg_ln La (o + 1)) ∧ (((sg_ln La (o + 1)) ≤ (s0 o 1) → Q s0) ∧ (¬ ((sg_ln La (o + 1)) ≤ (s0 o 1)) → (0 ≤ (s0 o 1) ∧ (s0 o 1) < (sg_ln La (o + 1))) ∧ ∀ s10 : sg_M, s10 = sg_up s0 (o + 1) (s0 o 1) x1 → sg_R ((s10 o 1) + 1) ∧ ∀ s14 : sg_M, s14 = sg_up s10 o 1 ((s10 o 1) + 1) → Q s14))))
set_option maxHeartbeats 4000000 in
set_option maxRecDepth 100000 in
theorem CX4_add {l : Launch} {G : sg_G} {La : sg_L} {s0 : sg_M} {o : Int} (to : sg_O La o 4) {x1 : Int} (r1 : sg_R x1) {Q : sg_M → Prop} (hf : fX4_add La s0 o x1 Q) : sg_C l G yX4_add cX4_add 2 (none) 1 0 0 La s0 [sg_r o, sg_i x1] (sg_HV La Q) := by
  refine sg_body (by decide +kernel) (Nat.le_of_ble_eq_true rfl) ?_
  intro p e s m args below meth c F hnm
  unfold fX4_add at hf
  show sg_W p l e (sg_rm 1 0 0) s m args below meth c (MQ below (sg_Q (none) G La s.heap.size (sg_HV La Q)) args s 0 0 (sg_A La s.heap.size)) 2 G (sg_A La s.heap.size) La s0 0 0 0 [(0, sg_r o), (1, sg_i x1)] []
  refine gw_aload_n F 0 rfl rfl to.1 dX4_add_0 ?_
  refine gw_get0 F to (by decide) rfl sg_lay_RX4 (j := 1) (by decide) rfl (host := "") (.inl kw_200) dX4_add_1 (fun h1 => ?_)
  refine gw_if_lt F (tgt := 39) dX4_add_4 (by decide) h1 (fun c2 => ?_) (fun c2 => ?_)
  · have hf := hf.1 c2
    exact gr_HV F hf (by decide) (by decide) dX4_add_39
  · have hf := hf.2 c2
    refine gw_aload_n F 0 rfl rfl to.1 dX4_add_7 ?_
    refine gw_get0 F to (by decide) rfl sg_lay_RX4 (j := 1) (by decide) rfl (host := "") (.inl kw_200) dX4_add_8 (fun h3 => ?_)
    refine gw_aload_n F 0 rfl rfl to.1 dX4_add_11 ?_
    refine gw_get3 F to (by decide) rfl sg_lay_RX4 (j := 0) (by decide) (o1 := (o + 1)) (by first | rfl | omega) rfl (host := "") (.inl kw_199) dX4_add_12 (fun h4 => ?_)
    refine gw_alen F (sg_AN_any h4) dX4_add_15 ?_
    obtain ⟨g5, hf⟩ := hf
    refine gw_icmp_ge F (tgt := 39) dX4_add_16 (by decide) h3 g5 (fun c6 => ?_) (fun c6 => ?_)
    · have hf := hf.1 c6
      exact gr_HV F hf (by decide) (by decide) dX4_add_39
    · have hf := hf.2 c6
      refine gw_aload_n F 0 rfl rfl to.1 dX4_add_19 ?_
      refine gw_get3 F to (by decide) rfl sg_lay_RX4 (j := 0) (by decide) (o1 := (o + 1)) (by first | rfl | omega) rfl (host := "") (.inl kw_199) dX4_add_20 (fun h7 => ?_)
      refine gw_aload_n F 0 rfl rfl to.1 dX4_add_23 ?_
      refine gw_get0 F to (by decide) rfl sg_lay_RX4 (j := 1) (by decide) rfl (host := "") (.inl kw_200) dX4_add_24 (fun h8 => ?_)
      refine gw_iload_n F 1 rfl rfl dX4_add_27 ?_
      obtain ⟨⟨b90, b91⟩, hf⟩ := hf
      obtain ⟨s10, e11⟩ : ∃ z : sg_M, z = sg_up s0 (o + 1) (s0 o 1) x1 := ⟨_, rfl⟩
      have hf := hf s10 e11
      refine gw_iast F (sg_AN_any h7) b90 b91 r1 e11 dX4_add_28 ?_
      refine gw_aload_n F 0 rfl rfl to.1 dX4_add_29 ?_
      refine gw_dup F rfl dX4_add_30 ?_
      refine gw_get0 F to (by decide) rfl sg_lay_RX4 (j := 1) (by decide) rfl (host := "") (.inl kw_200) dX4_add_31 (fun h12 => ?_)
      refine gw_iconst F dX4_add_34 ?_
      refine gw_iadd F rfl dX4_add_35 ?_
      obtain ⟨g13, hf⟩ := hf
      obtain ⟨s14, e15⟩ : ∃ z : sg_M, z = sg_up s10 o 1 ((s10 o 1) + 1) := ⟨_, rfl⟩
      have hf := hf s14 e15
      refine gw_put0 F to (by decide) rfl sg_lay_RX4 (j := 1) (by decide) g13 e15 tyX4_ok nmX4 rfl (tyX4_ok 1 (by decide)) rfl (host := "") (.inl kw_200) dX4_add_36 ?_
      exact gr_HV F hf (by decide) (by decide) dX4_add_39

theorem dX4_clear_0 : decode cX4_clear 0 = .ok (.aload_n 0, 1) := by decide +kernel
theorem dX4_clear_1 : decode cX4_clear 1 = .ok (.iconst 0, 1) := by decide +kernel
theorem dX4_clear_2 : decode cX4_clear 2 = .ok (.putfield 9, 3) := by decide +kernel
theorem dX4_clear_5 : decode cX4_clear 5 = .ok (.return_, 1) := by decide +kernel
theorem hcX4_clear : yX4_clear.cls ≠ "java/lang/invoke/MethodHandle" ∧ yX4_clear.cls ≠ "java/lang/invoke/VarHandle" ∧ (parseMethodDescriptor yX4_clear.desc).map (fun d => d.parameters.length) = some 0 := ⟨by decide +kernel, by decide +kernel, by decide +kernel⟩
def fX4_clear (s0 : sg_M) (o : Int) (Q : sg_M → Prop) : Prop := ∀ s1 : sg_M, s1 = sg_up s0 o 1 0 → Q s1
set_option maxHeartbeats 4000000 in
set_option maxRecDepth 100000 in
theorem CX4_clear {l : Launch} {G : sg_G} {La : sg_L} {s0 : sg_M} {o : Int} (to : sg_O La o 4) {Q : sg_M → Prop} (hf : fX4_clear s0 o Q) : sg_C l G yX4_clear cX4_clear 1 (none) 1 0 0 La s0 [sg_r o] (sg_HV La Q) := by
  refine sg_body (by decide +kernel) (Nat.le_of_ble_eq_true rfl) ?_
  intro p e s m args below meth c F hnm
  unfold fX4_clear at hf
  show sg_W p l e (sg_rm 1 0 0) s m args below meth c (MQ below (sg_Q (none) G La s.heap.size (sg_HV La Q)) args s 0 0 (sg_A La s.heap.size)) 1 G (sg_A La s.heap.size) La s0 0 0 0 [(0, sg_r o)] []
  refine gw_aload_n F 0 rfl rfl to.1 dX4_clear_0 ?_
  refine gw_iconst F dX4_clear_1 ?_
  obtain ⟨s1, e2⟩ : ∃ z : sg_M, z = sg_up s0 o 1 0 := ⟨_, rfl⟩
  have hf := hf s1 e2
  refine gw_put0 F to (by decide) rfl sg_lay_RX4 (j := 1) (by decide) (by decide) e2 tyX4_ok nmX4 rfl (tyX4_ok 1 (by decide)) rfl (host := "") (.inl kw_200) dX4_clear_2 ?_
  exact gr_HV F hf (by decide) (by decide) dX4_clear_5

theorem dX0_bendTo_0 : decode cX0_bendTo 0 = .ok (.aload_n 0, 1) := by decide +kernel
theorem dX0_bendTo_1 : decode cX0_bendTo 1 = .ok (.aload_n 1, 1) := by decide +kernel
theorem dX0_bendTo_2 : decode cX0_bendTo 2 = .ok (.getfield 53, 3) := by decide +kernel
theorem dX0_bendTo_5 : decode cX0_bendTo 5 = .ok (.bipush 60, 2) := by decide +kernel
theorem dX0_bendTo_7 : decode cX0_bendTo 7 = .ok (.invokestatic 56, 3) := by decide +kernel
theorem dX0_bendTo_10 : decode cX0_bendTo 10 = .ok (.putfield 27, 3) := by decide +kernel
theorem dX0_bendTo_13 : decode cX0_bendTo 13 = .ok (.aload_n 0, 1) := by decide +kernel
theorem dX0_bendTo_14 : decode cX0_bendTo 14 = .ok (.aload_n 1, 1) := by decide +kernel
theorem dX0_bendTo_15 : decode cX0_bendTo 15 = .ok (.getfield 62, 3) := by decide +kernel
theorem dX0_bendTo_18 : decode cX0_bendTo 18 = .ok (.putfield 31, 3) := by decide +kernel
theorem dX0_bendTo_21 : decode cX0_bendTo 21 = .ok (.aload_n 0, 1) := by decide +kernel
theorem dX0_bendTo_22 : decode cX0_bendTo 22 = .ok (.iconst (-1), 1) := by decide +kernel
theorem dX0_bendTo_23 : decode cX0_bendTo 23 = .ok (.putfield 34, 3) := by decide +kernel
theorem dX0_bendTo_26 : decode cX0_bendTo 26 = .ok (.aload_n 0, 1) := by decide +kernel
theorem dX0_bendTo_27 : decode cX0_bendTo 27 = .ok (.iconst 0, 1) := by decide +kernel
theorem dX0_bendTo_28 : decode cX0_bendTo 28 = .ok (.putfield 37, 3) := by decide +kernel
theorem dX0_bendTo_31 : decode cX0_bendTo 31 = .ok (.iconst 0, 1) := by decide +kernel
theorem dX0_bendTo_32 : decode cX0_bendTo 32 = .ok (.istore 4, 2) := by decide +kernel
theorem dX0_bendTo_34 : decode cX0_bendTo 34 = .ok (.iload 4, 2) := by decide +kernel
theorem dX0_bendTo_36 : decode cX0_bendTo 36 = .ok (.aload_n 0, 1) := by decide +kernel
theorem dX0_bendTo_37 : decode cX0_bendTo 37 = .ok (.getfield 27, 3) := by decide +kernel
theorem dX0_bendTo_40 : decode cX0_bendTo 40 = .ok (.if_icmp .ge 94, 3) := by decide +kernel
theorem dX0_bendTo_43 : decode cX0_bendTo 43 = .ok (.aload_n 1, 1) := by decide +kernel
theorem dX0_bendTo_44 : decode cX0_bendTo 44 = .ok (.iload_n 2, 1) := by decide +kernel
theorem dX0_bendTo_45 : decode cX0_bendTo 45 = .ok (.iload_n 3, 1) := by decide +kernel
theorem dX0_bendTo_46 : decode cX0_bendTo 46 = .ok (.iload 4, 2) := by decide +kernel
theorem dX0_bendTo_48 : decode cX0_bendTo 48 = .ok (.invokevirtual 63, 3) := by decide +kernel
theorem dX0_bendTo_51 : decode cX0_bendTo 51 = .ok (.istore 5, 2) := by decide +kernel
theorem dX0_bendTo_53 : decode cX0_bendTo 53 = .ok (.iload 5, 2) := by decide +kernel
theorem dX0_bendTo_55 : decode cX0_bendTo 55 = .ok (.invokestatic 67, 3) := by decide +kernel
theorem dX0_bendTo_58 : decode cX0_bendTo 58 = .ok (.aload_n 1, 1) := by decide +kernel
theorem dX0_bendTo_59 : decode cX0_bendTo 59 = .ok (.getfield 71, 3) := by decide +kernel
theorem dX0_bendTo_62 : decode cX0_bendTo 62 = .ok (.iload 4, 2) := by decide +kernel
theorem dX0_bendTo_64 : decode cX0_bendTo 64 = .ok (.iaload, 1) := by decide +kernel
theorem dX0_bendTo_65 : decode cX0_bendTo 65 = .ok (.imul, 1) := by decide +kernel
theorem dX0_bendTo_66 : decode cX0_bendTo 66 = .ok (.istore 6, 2) := by decide +kernel
theorem dX0_bendTo_68 : decode cX0_bendTo 68 = .ok (.aload_n 0, 1) := by decide +kernel
theorem dX0_bendTo_69 : decode cX0_bendTo 69 = .ok (.getfield 9, 3) := by decide +kernel
theorem dX0_bendTo_72 : decode cX0_bendTo 72 = .ok (.iload 4, 2) := by decide +kernel
theorem dX0_bendTo_74 : decode cX0_bendTo 74 = .ok (.iload 5, 2) := by decide +kernel
theorem dX0_bendTo_76 : decode cX0_bendTo 76 = .ok (.invokestatic 67, 3) := by decide +kernel
theorem dX0_bendTo_79 : decode cX0_bendTo 79 = .ok (.iastore, 1) := by decide +kernel
theorem dX0_bendTo_80 : decode cX0_bendTo 80 = .ok (.aload_n 0, 1) := by decide +kernel
theorem dX0_bendTo_81 : decode cX0_bendTo 81 = .ok (.getfield 15, 3) := by decide +kernel
theorem dX0_bendTo_84 : decode cX0_bendTo 84 = .ok (.iload 4, 2) := by decide +kernel
theorem dX0_bendTo_86 : decode cX0_bendTo 86 = .ok (.iload 5, 2) := by decide +kernel
theorem dX0_bendTo_88 : decode cX0_bendTo 88 = .ok (.iload 5, 2) := by decide +kernel
theorem dX0_bendTo_90 : decode cX0_bendTo 90 = .ok (.imul, 1) := by decide +kernel
theorem dX0_bendTo_91 : decode cX0_bendTo 91 = .ok (.iastore, 1) := by decide +kernel
theorem dX0_bendTo_92 : decode cX0_bendTo 92 = .ok (.aload_n 0, 1) := by decide +kernel
theorem dX0_bendTo_93 : decode cX0_bendTo 93 = .ok (.aload_n 0, 1) := by decide +kernel
theorem dX0_bendTo_94 : decode cX0_bendTo 94 = .ok (.getfield 37, 3) := by decide +kernel
theorem dX0_bendTo_97 : decode cX0_bendTo 97 = .ok (.iload 6, 2) := by decide +kernel
theorem dX0_bendTo_99 : decode cX0_bendTo 99 = .ok (.invokestatic 74, 3) := by decide +kernel
theorem dX0_bendTo_102 : decode cX0_bendTo 102 = .ok (.putfield 37, 3) := by decide +kernel
theorem dX0_bendTo_105 : decode cX0_bendTo 105 = .ok (.aload_n 0, 1) := by decide +kernel
theorem dX0_bendTo_106 : decode cX0_bendTo 106 = .ok (.getfield 34, 3) := by decide +kernel
theorem dX0_bendTo_109 : decode cX0_bendTo 109 = .ok (.iconst (-1), 1) := by decide +kernel
theorem dX0_bendTo_110 : decode cX0_bendTo 110 = .ok (.if_icmp .ne 18, 3) := by decide +kernel
theorem dX0_bendTo_113 : decode cX0_bendTo 113 = .ok (.iload 6, 2) := by decide +kernel
theorem dX0_bendTo_115 : decode cX0_bendTo 115 = .ok (.aload_n 1, 1) := by decide +kernel
theorem dX0_bendTo_116 : decode cX0_bendTo 116 = .ok (.getfield 77, 3) := by decide +kernel
theorem dX0_bendTo_119 : decode cX0_bendTo 119 = .ok (.if_icmp .le 9, 3) := by decide +kernel
theorem dX0_bendTo_122 : decode cX0_bendTo 122 = .ok (.aload_n 0, 1) := by decide +kernel
theorem dX0_bendTo_123 : decode cX0_bendTo 123 = .ok (.iload 4, 2) := by decide +kernel
theorem dX0_bendTo_125 : decode cX0_bendTo 125 = .ok (.putfield 34, 3) := by decide +kernel
theorem dX0_bendTo_128 : decode cX0_bendTo 128 = .ok (.iinc 4 1, 3) := by decide +kernel
theorem dX0_bendTo_131 : decode cX0_bendTo 131 = .ok (.goto (-97), 3) := by decide +kernel
theorem dX0_bendTo_134 : decode cX0_bendTo 134 = .ok (.aload_n 0, 1) := by decide +kernel
theorem dX0_bendTo_135 : decode cX0_bendTo 135 = .ok (.getfield 23, 3) := by decide +kernel
theorem dX0_bendTo_138 : decode cX0_bendTo 138 = .ok (.invokevirtual 80, 3) := by decide +kernel
theorem dX0_bendTo_141 : decode cX0_bendTo 141 = .ok (.iconst 0, 1) := by decide +kernel
theorem dX0_bendTo_142 : decode cX0_bendTo 142 = .ok (.istore 4, 2) := by decide +kernel
theorem dX0_bendTo_144 : decode cX0_bendTo 144 = .ok (.iload 4, 2) := by decide +kernel
theorem dX0_bendTo_146 : decode cX0_bendTo 146 = .ok (.aload_n 0, 1) := by decide +kernel
theorem dX0_bendTo_147 : decode cX0_bendTo 147 = .ok (.getfield 27, 3) := by decide +kernel
theorem dX0_bendTo_150 : decode cX0_bendTo 150 = .ok (.if_icmp .ge 27, 3) := by decide +kernel
theorem dX0_bendTo_153 : decode cX0_bendTo 153 = .ok (.aload_n 0, 1) := by decide +kernel
theorem dX0_bendTo_154 : decode cX0_bendTo 154 = .ok (.iload 4, 2) := by decide +kernel
theorem dX0_bendTo_156 : decode cX0_bendTo 156 = .ok (.invokevirtual 83, 3) := by decide +kernel
theorem dX0_bendTo_159 : decode cX0_bendTo 159 = .ok (.ifCond .eq 12, 3) := by decide +kernel
theorem dX0_bendTo_162 : decode cX0_bendTo 162 = .ok (.aload_n 0, 1) := by decide +kernel
theorem dX0_bendTo_163 : decode cX0_bendTo 163 = .ok (.getfield 23, 3) := by decide +kernel
theorem dX0_bendTo_166 : decode cX0_bendTo 166 = .ok (.iload 4, 2) := by decide +kernel
theorem dX0_bendTo_168 : decode cX0_bendTo 168 = .ok (.invokevirtual 87, 3) := by decide +kernel
theorem dX0_bendTo_171 : decode cX0_bendTo 171 = .ok (.iinc 4 1, 3) := by decide +kernel
theorem dX0_bendTo_174 : decode cX0_bendTo 174 = .ok (.goto (-30), 3) := by decide +kernel
theorem dX0_bendTo_177 : decode cX0_bendTo 177 = .ok (.return_, 1) := by decide +kernel
theorem hcX0_bendTo : yX0_bendTo.cls ≠ "java/lang/invoke/MethodHandle" ∧ yX0_bendTo.cls ≠ "java/lang/invoke/VarHandle" ∧ (parseMethodDescriptor yX0_bendTo.desc).map (fun d => d.parameters.length) = some 3 := ⟨by decide +kernel, by decide +kernel, by decide +kernel⟩
def fX0_bendTo_j128 (x4_34 : Int) (k34 : sg_M → Int → Prop) (s_128 : sg_M) : Prop := sg_R (x4_34 + 1) ∧ k34 s_128 (x4_34 + 1)
def fX0_bendTo_L34 (o1 : Int) (x2 : Int) (x3 : Int) (k134 : sg_M → Prop) : Nat → sg_M → Int → Prop
  | 0, _, _ => False
  | n_34 + 1, s_34, x4_34 => (((s_34 32 3) ≤ x4_34 → k134 s_34) ∧ (¬ ((s_34 32 3) ≤ x4_34) → fX1_curve s_34 o1 x2 x3 x4_34 (fun u13 => (0 ≤ x4_34 ∧ x4_34 < 60) ∧ ∀ v18 : Int, v18 = ((sg_abs u13) * (s_34 (o1 + 2) x4_34)) → sg_R v18 ∧ (0 ≤ x4_34 ∧ x4_34 < 60) ∧ sg_R (sg_abs u13) ∧ ∀ s24 : sg_M, s24 = sg_up s_34 33 x4_34 (sg_abs u13) → (0 ≤ x4_34 ∧ x4_34 < 60) ∧ sg_R (u13 * u13) ∧ ∀ s29 : sg_M, s29 = sg_up s24 34 x4_34 (u13 * u13) → ∀ s32 : sg_M, s32 = sg_up s29 32 6 (sg_max (s29 32 6) v18) → (((s32 32 5) ≠ (-1) → (fX0_bendTo_j128 x4_34 (fX0_bendTo_L34 o1 x2 x3 k134 n_34)) s32) ∧ ((s32 32 5) = (-1) → ((v18 ≤ (s32 o1 6) → (fX0_bendTo_j128 x4_34 (fX0_bendTo_L34 o1 x2 x3 k134 n_34)) s32) ∧ (¬ (v18 ≤ (s32 o1 6)) → ∀ s39 : sg_M, s39 = sg_up s32 32 5 x4_34 → (fX0_bendTo_j128 x4_34 (fX0_bendTo_L34 o1 x2 x3 k134 n_34)) s39)))))))
def fX0_bendTo_j171 (x4_144 : Int) (k144 : sg_M → Int → Prop) (s_171 : sg_M) : Prop := sg_R (x4_144 + 1) ∧ k144 s_171 (x4_144 + 1)
def fX0_bendTo_L144 (La : sg_L) (Q : sg_M → Prop) : Nat → sg_M → Int → Prop
  | 0, _, _ => False
  | n_144 + 1, s_144, x4_144 => (((s_144 32 3) ≤ x4_144 → Q s_144) ∧ (¬ ((s_144 32 3) ≤ x4_144) → fX0_isPlace s_144 x4_144 (fun u46 => ((u46 = 0 → (fX0_bendTo_j171 x4_144 (fX0_bendTo_L144 La Q n_144)) s_144) ∧ (¬ (u46 = 0) → fX4_add La s_144 35 x4_144 (fun s51 => (fX0_bendTo_j171 x4_144 (fX0_bendTo_L144 La Q n_144)) s51))))))
def fX0_bendTo (La : sg_L) (s0 : sg_M) (o1 : Int) (x2 : Int) (x3 : Int) (Q : sg_M → Prop) : Prop := ∀ s2 : sg_M, s2 = sg_up s0 32 3 (sg_min (s0 o1 4) 60) → ∀ s5 : sg_M, s5 = sg_up s2 32 4 (s2 o1 5) → ∀ s7 : sg_M, s7 = sg_up s5 32 5 (-1) → ∀ s9 : sg_M, s9 = sg_up s7 32 6 0 → (∃ n41 : Nat, fX0_bendTo_L34 o1 x2 x3 (fun s_134e34 => fX4_clear s_134e34 35 (fun s43 => (∃ n52 : Nat, fX0_bendTo_L144 La Q n52 s43 0))) n41 s9 0)
set_option maxHeartbeats 4000000 in
set_option maxRecDepth 100000 in
theorem CX0_bendTo {l : Launch} {G : sg_G} {La : sg_L} {s0 : sg_M} (hst : sg_St La) {o1 : Int} (t1 : sg_O La o1 1) {x2 : Int} (r2 : sg_R x2) {x3 : Int} (r3 : sg_R x3) {Q : sg_M → Prop} (hf : fX0_bendTo La s0 o1 x2 x3 Q) : sg_C l G yX0_bendTo cX0_bendTo 7 (none) 4 0 0 La s0 [sg_r 32, sg_r o1, sg_i x2, sg_i x3] (sg_HV La Q) := by
  refine sg_body (by decide +kernel) (Nat.le_of_ble_eq_true rfl) ?_
  intro p e s m args below meth c F hnm
  unfold fX0_bendTo at hf
  show sg_W p l e (sg_rm 4 0 0) s m args below meth c (MQ below (sg_Q (none) G La s.heap.size (sg_HV La Q)) args s 0 0 (sg_A La s.heap.size)) 7 G (sg_A La s.heap.size) La s0 0 0 0 [(0, sg_r 32), (1, sg_r o1), (2, sg_i x2), (3, sg_i x3)] []
  refine gw_aload_n F 0 rfl rfl (by decide) dX0_bendTo_0 ?_
  refine gw_aload_n F 1 rfl rfl t1.1 dX0_bendTo_1 ?_
  refine gw_get0 F t1 (by decide) rfl sg_lay_RX1 (j := 4) (by decide) rfl (.inr kw_164) dX0_bendTo_2 (fun h1 => ?_)
  refine gw_bipush F rfl dX0_bendTo_5 ?_
  refine gw_min F h1 (by decide) rfl kw_507 kw_min1 kw_math kw_min2 (Nat.le_of_ble_eq_true rfl) (by decide) (by decide) (by decide) (by decide) dX0_bendTo_7 ?_
  obtain ⟨s2, e3⟩ : ∃ z : sg_M, z = sg_up s0 32 3 (sg_min (s0 o1 4) 60) := ⟨_, rfl⟩
  have hf := hf s2 e3
  refine gw_put0 F (so_32 hst) (by decide) rfl sg_lay_RX0 (j := 3) (by decide) (sg_min_R h1 (by decide)) e3 tyX0_ok nmX0 rfl (tyX0_ok 3 (by decide)) rfl (host := "") (.inl kw_257) dX0_bendTo_10 ?_
  refine gw_aload_n F 0 rfl rfl (by decide) dX0_bendTo_13 ?_
  refine gw_aload_n F 1 rfl rfl t1.1 dX0_bendTo_14 ?_
  refine gw_get0 F t1 (by decide) rfl sg_lay_RX1 (j := 5) (by decide) rfl (.inr kw_167) dX0_bendTo_15 (fun h4 => ?_)
  obtain ⟨s5, e6⟩ : ∃ z : sg_M, z = sg_up s2 32 4 (s2 o1 5) := ⟨_, rfl⟩
  have hf := hf s5 e6
  refine gw_put0 F (so_32 hst) (by decide) rfl sg_lay_RX0 (j := 4) (by decide) h4 e6 tyX0_ok nmX0 rfl (tyX0_ok 4 (by decide)) rfl (host := "") (.inl kw_258) dX0_bendTo_18 ?_
  refine gw_aload_n F 0 rfl rfl (by decide) dX0_bendTo_21 ?_
  refine gw_iconst F dX0_bendTo_22 ?_
  obtain ⟨s7, e8⟩ : ∃ z : sg_M, z = sg_up s5 32 5 (-1) := ⟨_, rfl⟩
  have hf := hf s7 e8
  refine gw_put0 F (so_32 hst) (by decide) rfl sg_lay_RX0 (j := 5) (by decide) (by decide) e8 tyX0_ok nmX0 rfl (tyX0_ok 5 (by decide)) rfl (host := "") (.inl kw_259) dX0_bendTo_23 ?_
  refine gw_aload_n F 0 rfl rfl (by decide) dX0_bendTo_26 ?_
  refine gw_iconst F dX0_bendTo_27 ?_
  obtain ⟨s9, e10⟩ : ∃ z : sg_M, z = sg_up s7 32 6 0 := ⟨_, rfl⟩
  have hf := hf s9 e10
  refine gw_put0 F (so_32 hst) (by decide) rfl sg_lay_RX0 (j := 6) (by decide) (by decide) e10 tyX0_ok nmX0 rfl (tyX0_ok 6 (by decide)) rfl (host := "") (.inl kw_262) dX0_bendTo_28 ?_
  refine gw_iconst F dX0_bendTo_31 ?_
  refine gw_istore F (by decide) rfl dX0_bendTo_32 ?_
  have L34 : ∀ (k134 : sg_M → Prop) (hk134 : ∀ (s_134e34 : sg_M), k134 s_134e34 → sg_W p l e (sg_rm 4 0 0) s m args below meth c (MQ below (sg_Q (none) G La s.heap.size (sg_HV La Q)) args s 0 0 (sg_A La s.heap.size)) 7 G (sg_A La s.heap.size) La s_134e34 0 0 134 [(0, sg_r 32)] []), ∀ n_34 : Nat, ∀ (s_34 : sg_M) (x4_34 : Int), sg_R x4_34 → fX0_bendTo_L34 o1 x2 x3 k134 n_34 s_34 x4_34 → sg_W p l e (sg_rm 4 0 0) s m args below meth c (MQ below (sg_Q (none) G La s.heap.size (sg_HV La Q)) args s 0 0 (sg_A La s.heap.size)) 7 G (sg_A La s.heap.size) La s_34 0 0 34 [(0, sg_r 32), (1, sg_r o1), (2, sg_i x2), (3, sg_i x3), (4, sg_i x4_34)] [] := by
    intro k134 hk134 n_34
    induction n_34 with
    | zero => intro s_34 x4_34 r4_34 hf; exact hf.elim
    | succ n_34 ih =>
      intro s_34 x4_34 r4_34 hf
      unfold fX0_bendTo_L34 at hf
      refine gw_iload F 4 rfl dX0_bendTo_34 ?_
      refine gw_aload_n F 0 rfl rfl (by decide) dX0_bendTo_36 ?_
      refine gw_get0 F (so_32 hst) (by decide) rfl sg_lay_RX0 (j := 3) (by decide) rfl (host := "") (.inl kw_257) dX0_bendTo_37 (fun h11 => ?_)
      refine gw_icmp_ge F (tgt := 134) dX0_bendTo_40 (by decide) r4_34 h11 (fun c12 => ?_) (fun c12 => ?_)
      · have hf := hf.1 c12
        refine gw_sub [0] rfl ?_
        exact hk134 s_34 hf
      · have hf := hf.2 c12
        refine gw_aload_n F 1 rfl rfl t1.1 dX0_bendTo_43 ?_
        refine gw_iload_n F 2 rfl rfl dX0_bendTo_44 ?_
        refine gw_iload_n F 3 rfl rfl dX0_bendTo_45 ?_
        refine gw_iload F 4 rfl dX0_bendTo_46 ?_
        refine gk_PI F (gc_V F (S := []) (As := [sg_i x2, sg_i x3, sg_i x4_34]) (T := TX1) (N := 7) (CX1_curve t1 r2 r3 r4_34 hf) t1 (by decide) rfl kw_511 kw_94 kw_508 kw_509 kw_510 hcX1_curve ⟨by decide, by decide⟩ rfl rfl (Nat.le_of_ble_eq_true rfl) ⟨by decide, by decide⟩ dX0_bendTo_48) (fun u13 h14 hf => ?_)
        refine gw_istore F (by decide) rfl dX0_bendTo_51 ?_
        refine gw_iload F 0 rfl dX0_bendTo_53 ?_
        refine gw_abs F h14 rfl kw_524 kw_abs1 kw_math kw_abs2 (Nat.le_of_ble_eq_true rfl) (by decide) (by decide) (by decide) (by decide) dX0_bendTo_55 ?_
        refine gw_aload_n F 2 rfl rfl t1.1 dX0_bendTo_58 ?_
        refine gw_get3 F t1 (by decide) rfl sg_lay_RX1 (j := 1) (by decide) (o1 := (o1 + 2)) (by first | rfl | omega) rfl (.inr kw_160) dX0_bendTo_59 (fun h15 => ?_)
        refine gw_iload F 5 rfl dX0_bendTo_62 ?_
        obtain ⟨⟨b160, b161⟩, hf⟩ := hf
        refine gw_iald F (sg_AN_of (sg_O_of h15 (by decide)) (by decide) (by decide) (by decide)) b160 b161 dX0_bendTo_64 (fun h17 => ?_)
        refine gw_imul F rfl dX0_bendTo_65 ?_
        obtain ⟨v18, e19⟩ : ∃ z : Int, z = ((sg_abs u13) * (s_34 (o1 + 2) x4_34)) := ⟨_, rfl⟩
        obtain ⟨g20, hf⟩ := hf v18 e19
        refine gw_nmI e19 ?_
        refine gw_istore F (by decide) rfl dX0_bendTo_66 ?_
        refine gw_aload_n F 2 rfl rfl (by decide) dX0_bendTo_68 ?_
        refine gw_get3 F (so_32 hst) (by decide) rfl sg_lay_RX0 (j := 0) (by decide) (o1 := 33) (by first | rfl | omega) rfl (host := "") (.inl kw_252) dX0_bendTo_69 (fun h21 => ?_)
        refine gw_iload F 6 rfl dX0_bendTo_72 ?_
        refine gw_iload F 1 rfl dX0_bendTo_74 ?_
        refine gw_abs F h14 rfl kw_524 kw_abs1 kw_math kw_abs2 (Nat.le_of_ble_eq_true rfl) (by decide) (by decide) (by decide) (by decide) dX0_bendTo_76 ?_
        obtain ⟨⟨b220, b221⟩, hf⟩ := hf
        obtain ⟨g23, hf⟩ := hf
        obtain ⟨s24, e25⟩ : ∃ z : sg_M, z = sg_up s_34 33 x4_34 (sg_abs u13) := ⟨_, rfl⟩
        have hf := hf s24 e25
        refine gw_iast F (sa_33 hst) b220 b221 g23 e25 dX0_bendTo_79 ?_
        refine gw_aload_n F 2 rfl rfl (by decide) dX0_bendTo_80 ?_
        refine gw_get3 F (so_32 hst) (by decide) rfl sg_lay_RX0 (j := 1) (by decide) (o1 := 34) (by first | rfl | omega) rfl (host := "") (.inl kw_253) dX0_bendTo_81 (fun h26 => ?_)
        refine gw_iload F 6 rfl dX0_bendTo_84 ?_
        refine gw_iload F 1 rfl dX0_bendTo_86 ?_
        refine gw_iload F 1 rfl dX0_bendTo_88 ?_
        refine gw_imul F rfl dX0_bendTo_90 ?_
        obtain ⟨⟨b270, b271⟩, hf⟩ := hf
        obtain ⟨g28, hf⟩ := hf
        obtain ⟨s29, e30⟩ : ∃ z : sg_M, z = sg_up s24 34 x4_34 (u13 * u13) := ⟨_, rfl⟩
        have hf := hf s29 e30
        refine gw_iast F (sa_34 hst) b270 b271 g28 e30 dX0_bendTo_91 ?_
        refine gw_aload_n F 2 rfl rfl (by decide) dX0_bendTo_92 ?_
        refine gw_aload_n F 2 rfl rfl (by decide) dX0_bendTo_93 ?_
        refine gw_get0 F (so_32 hst) (by decide) rfl sg_lay_RX0 (j := 6) (by decide) rfl (host := "") (.inl kw_262) dX0_bendTo_94 (fun h31 => ?_)
        refine gw_iload F 0 rfl dX0_bendTo_97 ?_
        refine gw_max F h31 g20 rfl kw_527 kw_max1 kw_math kw_max2 (Nat.le_of_ble_eq_true rfl) (by decide) (by decide) (by decide) (by decide) dX0_bendTo_99 ?_
        obtain ⟨s32, e33⟩ : ∃ z : sg_M, z = sg_up s29 32 6 (sg_max (s29 32 6) v18) := ⟨_, rfl⟩
        have hf := hf s32 e33
        refine gw_put0 F (so_32 hst) (by decide) rfl sg_lay_RX0 (j := 6) (by decide) (sg_max_R h31 g20) e33 tyX0_ok nmX0 rfl (tyX0_ok 6 (by decide)) rfl (host := "") (.inl kw_262) dX0_bendTo_102 ?_
        refine gw_aload_n F 2 rfl rfl (by decide) dX0_bendTo_105 ?_
        refine gw_get0 F (so_32 hst) (by decide) rfl sg_lay_RX0 (j := 5) (by decide) rfl (host := "") (.inl kw_259) dX0_bendTo_106 (fun h34 => ?_)
        refine gw_iconst F dX0_bendTo_109 ?_
        have J128 : ∀ (s_128 : sg_M), (fX0_bendTo_j128 x4_34 (fX0_bendTo_L34 o1 x2 x3 k134 n_34)) s_128 → sg_W p l e (sg_rm 4 0 0) s m args below meth c (MQ below (sg_Q (none) G La s.heap.size (sg_HV La Q)) args s 0 0 (sg_A La s.heap.size)) 7 G (sg_A La s.heap.size) La s_128 0 0 128 [(0, sg_r 32), (1, sg_r o1), (2, sg_i x2), (3, sg_i x3), (4, sg_i x4_34)] [] := by
          intro s_128 hf
          unfold fX0_bendTo_j128 at hf
          refine gw_iinc F (z := (x4_34 + 1)) 4 rfl (by omega) (by decide) rfl dX0_bendTo_128 ?_
          refine gw_goto F (tgt := 34) dX0_bendTo_131 (by decide) ?_
          obtain ⟨g35, hf⟩ := hf
          refine gw_sub [1, 2, 3, 4, 0] rfl ?_
          exact ih s_128 (x4_34 + 1) g35 hf
        refine gw_icmp_ne F (tgt := 128) dX0_bendTo_110 (by decide) h34 (by decide) (fun c36 => ?_) (fun c36 => ?_)
        · have hf := hf.1 c36
          refine gw_sub [2, 3, 4, 5, 6] rfl ?_
          exact J128 s32 hf
        · have hf := hf.2 c36
          refine gw_iload F 0 rfl dX0_bendTo_113 ?_
          refine gw_aload_n F 3 rfl rfl t1.1 dX0_bendTo_115 ?_
          refine gw_get0 F t1 (by decide) rfl sg_lay_RX1 (j := 6) (by decide) rfl (.inr kw_170) dX0_bendTo_116 (fun h37 => ?_)
          refine gw_icmp_le F (tgt := 128) dX0_bendTo_119 (by decide) g20 h37 (fun c38 => ?_) (fun c38 => ?_)
          · have hf := hf.1 c38
            refine gw_sub [2, 3, 4, 5, 6] rfl ?_
            exact J128 s32 hf
          · have hf := hf.2 c38
            refine gw_aload_n F 2 rfl rfl (by decide) dX0_bendTo_122 ?_
            refine gw_iload F 6 rfl dX0_bendTo_123 ?_
            obtain ⟨s39, e40⟩ : ∃ z : sg_M, z = sg_up s32 32 5 x4_34 := ⟨_, rfl⟩
            have hf := hf s39 e40
            refine gw_put0 F (so_32 hst) (by decide) rfl sg_lay_RX0 (j := 5) (by decide) r4_34 e40 tyX0_ok nmX0 rfl (tyX0_ok 5 (by decide)) rfl (host := "") (.inl kw_259) dX0_bendTo_125 ?_
            refine gw_sub [2, 3, 4, 5, 6] rfl ?_
            exact J128 s39 hf
  obtain ⟨n41, hf⟩ := hf
  refine gw_sub [1, 2, 3, 4, 0] rfl ?_
  refine L34 _ (fun s_134e34 hf => ?_) n41 s9 0 (by decide) hf
  refine gw_aload_n F 0 rfl rfl (by decide) dX0_bendTo_134 ?_
  refine gw_get3 F (so_32 hst) (by decide) rfl sg_lay_RX0 (j := 2) (by decide) (o1 := 35) (by first | rfl | omega) rfl (host := "") (.inl kw_254) dX0_bendTo_135 (fun h42 => ?_)
  refine gk_HV F (gc_V F (S := []) (As := []) (T := TX4) (N := 3) (CX4_clear (so_35 hst) hf) (so_35 hst) (by decide) rfl kw_531 kw_97 kw_528 kw_529 kw_530 hcX4_clear ⟨by decide, by decide⟩ rfl rfl (Nat.le_of_ble_eq_true rfl) ⟨by decide, by decide⟩ dX0_bendTo_138) (fun s43 hf => ?_)
  refine gw_iconst F dX0_bendTo_141 ?_
  refine gw_istore F (by decide) rfl dX0_bendTo_142 ?_
  have L144 : ∀ n_144 : Nat, ∀ (s_144 : sg_M) (x4_144 : Int), sg_R x4_144 → fX0_bendTo_L144 La Q n_144 s_144 x4_144 → sg_W p l e (sg_rm 4 0 0) s m args below meth c (MQ below (sg_Q (none) G La s.heap.size (sg_HV La Q)) args s 0 0 (sg_A La s.heap.size)) 7 G (sg_A La s.heap.size) La s_144 0 0 144 [(0, sg_r 32), (4, sg_i x4_144)] [] := by
    intro n_144
    induction n_144 with
    | zero => intro s_144 x4_144 r4_144 hf; exact hf.elim
    | succ n_144 ih =>
      intro s_144 x4_144 r4_144 hf
      unfold fX0_bendTo_L144 at hf
      refine gw_iload F 1 rfl dX0_bendTo_144 ?_
      refine gw_aload_n F 0 rfl rfl (by decide) dX0_bendTo_146 ?_
      refine gw_get0 F (so_32 hst) (by decide) rfl sg_lay_RX0 (j := 3) (by decide) rfl (host := "") (.inl kw_257) dX0_bendTo_147 (fun h44 => ?_)
      refine gw_icmp_ge F (tgt := 177) dX0_bendTo_150 (by decide) r4_144 h44 (fun c45 => ?_) (fun c45 => ?_)
      · have hf := hf.1 c45
        exact gr_HV F hf (by decide) (by decide) dX0_bendTo_177
      · have hf := hf.2 c45
        refine gw_aload_n F 0 rfl rfl (by decide) dX0_bendTo_153 ?_
        refine gw_iload F 1 rfl dX0_bendTo_154 ?_
        refine gk_PZ F (gc_V F (S := []) (As := [sg_i x4_144]) (T := TX0) (N := 11) (CX0_isPlace hst r4_144 hf) (so_32 hst) (by decide) rfl kw_534 kw_100 kw_532 kw_533 kw_5 hcX0_isPlace ⟨by decide, by decide⟩ rfl rfl (Nat.le_of_ble_eq_true rfl) ⟨by decide, by decide⟩ dX0_bendTo_156) (fun u46 h47 hf => ?_)
        have J171 : ∀ (s_171 : sg_M), (fX0_bendTo_j171 x4_144 (fX0_bendTo_L144 La Q n_144)) s_171 → sg_W p l e (sg_rm 4 0 0) s m args below meth c (MQ below (sg_Q (none) G La s.heap.size (sg_HV La Q)) args s 0 0 (sg_A La s.heap.size)) 7 G (sg_A La s.heap.size) La s_171 0 0 171 [(0, sg_r 32), (4, sg_i x4_144)] [] := by
          intro s_171 hf
          unfold fX0_bendTo_j171 at hf
          refine gw_iinc F (z := (x4_144 + 1)) 1 rfl (by omega) (by decide) rfl dX0_bendTo_171 ?_
          refine gw_goto F (tgt := 144) dX0_bendTo_174 (by decide) ?_
          obtain ⟨g48, hf⟩ := hf
          refine gw_sub [1, 0] rfl ?_
          exact ih s_171 (x4_144 + 1) g48 hf
        refine gw_if_eq F (tgt := 171) dX0_bendTo_159 (by decide) (sg_B_R h47) (fun c49 => ?_) (fun c49 => ?_)
        · have hf := hf.1 c49
          refine gw_sub [0, 1] rfl ?_
          exact J171 s_144 hf
        · have hf := hf.2 c49
          refine gw_aload_n F 0 rfl rfl (by decide) dX0_bendTo_162 ?_
          refine gw_get3 F (so_32 hst) (by decide) rfl sg_lay_RX0 (j := 2) (by decide) (o1 := 35) (by first | rfl | omega) rfl (host := "") (.inl kw_254) dX0_bendTo_163 (fun h50 => ?_)
          refine gw_iload F 1 rfl dX0_bendTo_166 ?_
          refine gk_HV F (gc_V F (S := []) (As := [sg_i x4_144]) (T := TX4) (N := 3) (CX4_add (so_35 hst) r4_144 hf) (so_35 hst) (by decide) rfl kw_538 kw_97 kw_535 kw_536 kw_537 hcX4_add ⟨by decide, by decide⟩ rfl rfl (Nat.le_of_ble_eq_true rfl) ⟨by decide, by decide⟩ dX0_bendTo_168) (fun s51 hf => ?_)
          refine gw_sub [0, 1] rfl ?_
          exact J171 s51 hf
  obtain ⟨n52, hf⟩ := hf
  refine gw_sub [1, 0] rfl ?_
  refine L144   n52 s43 0 (by decide) hf

theorem dX9_fail_0 : decode cX9_fail 0 = .ok (.aload_n 0, 1) := by decide +kernel
theorem dX9_fail_1 : decode cX9_fail 1 = .ok (.getfield 25, 3) := by decide +kernel
theorem dX9_fail_4 : decode cX9_fail 4 = .ok (.ifCond .ne 16, 3) := by decide +kernel
theorem dX9_fail_7 : decode cX9_fail 7 = .ok (.aload_n 0, 1) := by decide +kernel
theorem dX9_fail_8 : decode cX9_fail 8 = .ok (.iload_n 1, 1) := by decide +kernel
theorem dX9_fail_9 : decode cX9_fail 9 = .ok (.putfield 25, 3) := by decide +kernel
theorem dX9_fail_12 : decode cX9_fail 12 = .ok (.aload_n 0, 1) := by decide +kernel
theorem dX9_fail_13 : decode cX9_fail 13 = .ok (.aload_n 0, 1) := by decide +kernel
theorem dX9_fail_14 : decode cX9_fail 14 = .ok (.getfield 16, 3) := by decide +kernel
theorem dX9_fail_17 : decode cX9_fail 17 = .ok (.putfield 28, 3) := by decide +kernel
theorem dX9_fail_20 : decode cX9_fail 20 = .ok (.return_, 1) := by decide +kernel
theorem hcX9_fail : yX9_fail.cls ≠ "java/lang/invoke/MethodHandle" ∧ yX9_fail.cls ≠ "java/lang/invoke/VarHandle" ∧ (parseMethodDescriptor yX9_fail.desc).map (fun d => d.parameters.length) = some 1 := ⟨by decide +kernel, by decide +kernel, by decide +kernel⟩
def fX9_fail (s0 : sg_M) (x1 : Int) (Q : sg_M → Prop) : Prop := (((s0 3 6) ≠ 0 → Q s0) ∧ ((s0 3 6) = 0 → ∀ s3 : sg_M, s3 = sg_up s0 3 6 x1 → ∀ s6 : sg_M, s6 = sg_up s3 3 7 (s3 3 3) → Q s6))
set_option maxHeartbeats 4000000 in
set_option maxRecDepth 100000 in
theorem CX9_fail {l : Launch} {G : sg_G} {La : sg_L} {s0 : sg_M} (hst : sg_St La) {x1 : Int} (r1 : sg_R x1) {Q : sg_M → Prop} (hf : fX9_fail s0 x1 Q) : sg_C l G yX9_fail cX9_fail 2 (none) 1 0 0 La s0 [sg_r 3, sg_i x1] (sg_HV La Q) := by
  refine sg_body (by decide +kernel) (Nat.le_of_ble_eq_true rfl) ?_
  intro p e s m args below meth c F hnm
  unfold fX9_fail at hf
  show sg_W p l e (sg_rm 1 0 0) s m args below meth c (MQ below (sg_Q (none) G La s.heap.size (sg_HV La Q)) args s 0 0 (sg_A La s.heap.size)) 2 G (sg_A La s.heap.size) La s0 0 0 0 [(0, sg_r 3), (1, sg_i x1)] []
  refine gw_aload_n F 0 rfl rfl (by decide) dX9_fail_0 ?_
  refine gw_get0 F (so_3 hst) (by decide) rfl sg_lay_RX9 (j := 6) (by decide) rfl (host := "") (.inl kw_144) dX9_fail_1 (fun h1 => ?_)
  refine gw_if_ne F (tgt := 20) dX9_fail_4 (by decide) h1 (fun c2 => ?_) (fun c2 => ?_)
  · have hf := hf.1 c2
    exact gr_HV F hf (by decide) (by decide) dX9_fail_20
  · have hf := hf.2 c2
    refine gw_aload_n F 0 rfl rfl (by decide) dX9_fail_7 ?_
    refine gw_iload_n F 1 rfl rfl dX9_fail_8 ?_
    obtain ⟨s3, e4⟩ : ∃ z : sg_M, z = sg_up s0 3 6 x1 := ⟨_, rfl⟩
    have hf := hf s3 e4
    refine gw_put0 F (so_3 hst) (by decide) rfl sg_lay_RX9 (j := 6) (by decide) r1 e4 tyX9_ok nmX9 rfl (tyX9_ok 6 (by decide)) rfl (host := "") (.inl kw_144) dX9_fail_9 ?_
    refine gw_aload_n F 0 rfl rfl (by decide) dX9_fail_12 ?_
    refine gw_aload_n F 0 rfl rfl (by decide) dX9_fail_13 ?_
    refine gw_get0 F (so_3 hst) (by decide) rfl sg_lay_RX9 (j := 3) (by decide) rfl (host := "") (.inl kw_141) dX9_fail_14 (fun h5 => ?_)
    obtain ⟨s6, e7⟩ : ∃ z : sg_M, z = sg_up s3 3 7 (s3 3 3) := ⟨_, rfl⟩
    have hf := hf s6 e7
    refine gw_put0 F (so_3 hst) (by decide) rfl sg_lay_RX9 (j := 7) (by decide) h5 e7 tyX9_ok nmX9 rfl (tyX9_ok 7 (by decide)) rfl (host := "") (.inl kw_148) dX9_fail_17 ?_
    exact gr_HV F hf (by decide) (by decide) dX9_fail_20

theorem dX0_firstOfRun_0 : decode cX0_firstOfRun 0 = .ok (.iload_n 1, 1) := by decide +kernel
theorem dX0_firstOfRun_1 : decode cX0_firstOfRun 1 = .ok (.istore_n 3, 1) := by decide +kernel
theorem dX0_firstOfRun_2 : decode cX0_firstOfRun 2 = .ok (.iload_n 3, 1) := by decide +kernel
theorem dX0_firstOfRun_3 : decode cX0_firstOfRun 3 = .ok (.ifCond .le 31, 3) := by decide +kernel
theorem dX0_firstOfRun_6 : decode cX0_firstOfRun 6 = .ok (.iload_n 3, 1) := by decide +kernel
theorem dX0_firstOfRun_7 : decode cX0_firstOfRun 7 = .ok (.aload_n 0, 1) := by decide +kernel
theorem dX0_firstOfRun_8 : decode cX0_firstOfRun 8 = .ok (.getfield 27, 3) := by decide +kernel
theorem dX0_firstOfRun_11 : decode cX0_firstOfRun 11 = .ok (.if_icmp .gt 23, 3) := by decide +kernel
theorem dX0_firstOfRun_14 : decode cX0_firstOfRun 14 = .ok (.aload_n 0, 1) := by decide +kernel
theorem dX0_firstOfRun_15 : decode cX0_firstOfRun 15 = .ok (.getfield 15, 3) := by decide +kernel
theorem dX0_firstOfRun_18 : decode cX0_firstOfRun 18 = .ok (.iload_n 3, 1) := by decide +kernel
theorem dX0_firstOfRun_19 : decode cX0_firstOfRun 19 = .ok (.iconst 1, 1) := by decide +kernel
theorem dX0_firstOfRun_20 : decode cX0_firstOfRun 20 = .ok (.isub, 1) := by decide +kernel
theorem dX0_firstOfRun_21 : decode cX0_firstOfRun 21 = .ok (.iaload, 1) := by decide +kernel
theorem dX0_firstOfRun_22 : decode cX0_firstOfRun 22 = .ok (.iload_n 2, 1) := by decide +kernel
theorem dX0_firstOfRun_23 : decode cX0_firstOfRun 23 = .ok (.iload_n 2, 1) := by decide +kernel
theorem dX0_firstOfRun_24 : decode cX0_firstOfRun 24 = .ok (.imul, 1) := by decide +kernel
theorem dX0_firstOfRun_25 : decode cX0_firstOfRun 25 = .ok (.if_icmp .ge 9, 3) := by decide +kernel
theorem dX0_firstOfRun_28 : decode cX0_firstOfRun 28 = .ok (.iinc 3 (-1), 3) := by decide +kernel
theorem dX0_firstOfRun_31 : decode cX0_firstOfRun 31 = .ok (.goto (-29), 3) := by decide +kernel
theorem dX0_firstOfRun_34 : decode cX0_firstOfRun 34 = .ok (.iload_n 3, 1) := by decide +kernel
theorem dX0_firstOfRun_35 : decode cX0_firstOfRun 35 = .ok (.ireturn, 1) := by decide +kernel
theorem hcX0_firstOfRun : yX0_firstOfRun.cls ≠ "java/lang/invoke/MethodHandle" ∧ yX0_firstOfRun.cls ≠ "java/lang/invoke/VarHandle" ∧ (parseMethodDescriptor yX0_firstOfRun.desc).map (fun d => d.parameters.length) = some 2 := ⟨by decide +kernel, by decide +kernel, by decide +kernel⟩
def fX0_firstOfRun_L2 (s0 : sg_M) (x2 : Int) (Q : Int → Prop) : Nat → Int → Prop
  | 0, _ => False
  | n_2 + 1, x3_2 => ((x3_2 ≤ 0 → Q x3_2) ∧ (¬ (x3_2 ≤ 0) → (((s0 32 3) < x3_2 → Q x3_2) ∧ (¬ ((s0 32 3) < x3_2) → (0 ≤ (x3_2 - 1) ∧ (x3_2 - 1) < 60) ∧ sg_R (x2 * x2) ∧ (((x2 * x2) ≤ (s0 34 (x3_2 - 1)) → Q x3_2) ∧ (¬ ((x2 * x2) ≤ (s0 34 (x3_2 - 1))) → sg_R (x3_2 - 1) ∧ (fX0_firstOfRun_L2 s0 x2 Q n_2) (x3_2 - 1)))))))
def fX0_firstOfRun (s0 : sg_M) (x1 : Int) (x2 : Int) (Q : Int → Prop) : Prop := (∃ n10 : Nat, fX0_firstOfRun_L2 s0 x2 Q n10 x1)
set_option maxHeartbeats 4000000 in
set_option maxRecDepth 100000 in
theorem CX0_firstOfRun {l : Launch} {G : sg_G} {La : sg_L} {s0 : sg_M} (hst : sg_St La) {x1 : Int} (r1 : sg_R x1) {x2 : Int} (r2 : sg_R x2) {Q : Int → Prop} (hf : fX0_firstOfRun s0 x1 x2 Q) : sg_C l G yX0_firstOfRun cX0_firstOfRun 4 (some .int) 1 0 0 La s0 [sg_r 32, sg_i x1, sg_i x2] (sg_PI La s0 Q) := by
  refine sg_body (by decide +kernel) (Nat.le_of_ble_eq_true rfl) ?_
  intro p e s m args below meth c F hnm
  unfold fX0_firstOfRun at hf
  show sg_W p l e (sg_rm 1 0 0) s m args below meth c (MQ below (sg_Q (some .int) G La s.heap.size (sg_PI La s0 Q)) args s 0 0 (sg_A La s.heap.size)) 4 G (sg_A La s.heap.size) La s0 0 0 0 [(0, sg_r 32), (1, sg_i x1), (2, sg_i x2)] []
  refine gw_iload_n F 1 rfl rfl dX0_firstOfRun_0 ?_
  refine gw_istore_n F rfl (by decide) rfl dX0_firstOfRun_1 ?_
  have L2 : ∀ n_2 : Nat, ∀ (x3_2 : Int), sg_R x3_2 → fX0_firstOfRun_L2 s0 x2 Q n_2 x3_2 → sg_W p l e (sg_rm 1 0 0) s m args below meth c (MQ below (sg_Q (some .int) G La s.heap.size (sg_PI La s0 Q)) args s 0 0 (sg_A La s.heap.size)) 4 G (sg_A La s.heap.size) La s0 0 0 2 [(0, sg_r 32), (2, sg_i x2), (3, sg_i x3_2)] [] := by
    intro n_2
    induction n_2 with
    | zero => intro x3_2 r3_2 hf; exact hf.elim
    | succ n_2 ih =>
      intro x3_2 r3_2 hf
      unfold fX0_firstOfRun_L2 at hf
      refine gw_iload_n F 2 rfl rfl dX0_firstOfRun_2 ?_
      refine gw_if_le F (tgt := 34) dX0_firstOfRun_3 (by decide) r3_2 (fun c1 => ?_) (fun c1 => ?_)
      · have hf := hf.1 c1
        refine gw_iload_n F 2 rfl rfl dX0_firstOfRun_34 ?_
        exact gr_PI F r3_2 hf (by decide) (by decide) dX0_firstOfRun_35
      · have hf := hf.2 c1
        refine gw_iload_n F 2 rfl rfl dX0_firstOfRun_6 ?_
        refine gw_aload_n F 0 rfl rfl (by decide) dX0_firstOfRun_7 ?_
        refine gw_get0 F (so_32 hst) (by decide) rfl sg_lay_RX0 (j := 3) (by decide) rfl (host := "") (.inl kw_257) dX0_firstOfRun_8 (fun h2 => ?_)
        refine gw_icmp_gt F (tgt := 34) dX0_firstOfRun_11 (by decide) r3_2 h2 (fun c3 => ?_) (fun c3 => ?_)
        · have hf := hf.1 c3
          refine gw_iload_n F 2 rfl rfl dX0_firstOfRun_34 ?_
          exact gr_PI F r3_2 hf (by decide) (by decide) dX0_firstOfRun_35
        · have hf := hf.2 c3
          refine gw_aload_n F 0 rfl rfl (by decide) dX0_firstOfRun_14 ?_
          refine gw_get3 F (so_32 hst) (by decide) rfl sg_lay_RX0 (j := 1) (by decide) (o1 := 34) (by first | rfl | omega) rfl (host := "") (.inl kw_253) dX0_firstOfRun_15 (fun h4 => ?_)
          refine gw_iload_n F 2 rfl rfl dX0_firstOfRun_18 ?_
          refine gw_iconst F dX0_firstOfRun_19 ?_
          refine gw_isub F rfl dX0_firstOfRun_20 ?_
          obtain ⟨⟨b50, b51⟩, hf⟩ := hf
          refine gw_iald F (sa_34 hst) b50 b51 dX0_firstOfRun_21 (fun h6 => ?_)
          refine gw_iload_n F 1 rfl rfl dX0_firstOfRun_22 ?_
          refine gw_iload_n F 1 rfl rfl dX0_firstOfRun_23 ?_
          refine gw_imul F rfl dX0_firstOfRun_24 ?_
          obtain ⟨g7, hf⟩ := hf
          refine gw_icmp_ge F (tgt := 34) dX0_firstOfRun_25 (by decide) h6 g7 (fun c8 => ?_) (fun c8 => ?_)
          · have hf := hf.1 c8
            refine gw_iload_n F 2 rfl rfl dX0_firstOfRun_34 ?_
            exact gr_PI F r3_2 hf (by decide) (by decide) dX0_firstOfRun_35
          · have hf := hf.2 c8
            refine gw_iinc F (z := (x3_2 - 1)) 2 rfl (by omega) (by decide) rfl dX0_firstOfRun_28 ?_
            refine gw_goto F (tgt := 2) dX0_firstOfRun_31 (by decide) ?_
            obtain ⟨g9, hf⟩ := hf
            refine gw_sub [1, 2, 0] rfl ?_
            exact ih (x3_2 - 1) g9 hf
  obtain ⟨n10, hf⟩ := hf
  refine gw_sub [1, 3, 0] rfl ?_
  refine L2   n10 x1 r1 hf

theorem dX4_at_0 : decode cX4_at 0 = .ok (.iload_n 1, 1) := by decide +kernel
theorem dX4_at_1 : decode cX4_at 1 = .ok (.ifCond .lt 20, 3) := by decide +kernel
theorem dX4_at_4 : decode cX4_at 4 = .ok (.iload_n 1, 1) := by decide +kernel
theorem dX4_at_5 : decode cX4_at 5 = .ok (.aload_n 0, 1) := by decide +kernel
theorem dX4_at_6 : decode cX4_at 6 = .ok (.getfield 9, 3) := by decide +kernel
theorem dX4_at_9 : decode cX4_at 9 = .ok (.if_icmp .ge 12, 3) := by decide +kernel
theorem dX4_at_12 : decode cX4_at 12 = .ok (.iload_n 1, 1) := by decide +kernel
theorem dX4_at_13 : decode cX4_at 13 = .ok (.aload_n 0, 1) := by decide +kernel
theorem dX4_at_14 : decode cX4_at 14 = .ok (.getfield 25, 3) := by decide +kernel
theorem dX4_at_17 : decode cX4_at 17 = .ok (.arraylength, 1) := by decide +kernel
theorem dX4_at_18 : decode cX4_at 18 = .ok (.if_icmp .lt 7, 3) := by decide +kernel
theorem dX4_at_21 : decode cX4_at 21 = .ok (.iconst (-1), 1) := by decide +kernel
theorem dX4_at_22 : decode cX4_at 22 = .ok (.goto 9, 3) := by decide +kernel
theorem dX4_at_25 : decode cX4_at 25 = .ok (.aload_n 0, 1) := by decide +kernel
theorem dX4_at_26 : decode cX4_at 26 = .ok (.getfield 25, 3) := by decide +kernel
theorem dX4_at_29 : decode cX4_at 29 = .ok (.iload_n 1, 1) := by decide +kernel
theorem dX4_at_30 : decode cX4_at 30 = .ok (.iaload, 1) := by decide +kernel
theorem dX4_at_31 : decode cX4_at 31 = .ok (.ireturn, 1) := by decide +kernel
theorem hcX4_at : yX4_at.cls ≠ "java/lang/invoke/MethodHandle" ∧ yX4_at.cls ≠ "java/lang/invoke/VarHandle" ∧ (parseMethodDescriptor yX4_at.desc).map (fun d => d.parameters.length) = some 1 := ⟨by decide +kernel, by decide +kernel, by decide +kernel⟩
def fX4_at (La : sg_L) (s0 : sg_M) (o : Int) (x1 : Int) (Q : Int → Prop) : Prop := ((x1 < 0 → Q (-1)) ∧ (¬ (x1 < 0) → (((s0 o 1) ≤ x1 → Q (-1)) ∧ (¬ ((s0 o 1) ≤ x1) → sg_R (sg_ln La (o + 1)) ∧ ((x1 < (sg_ln La (o + 1)) → (0 ≤ x1 ∧ x1 < (sg_ln La (o + 1))) ∧ Q (s0 (o + 1) x1)) ∧ (¬ (x1 < (sg_ln La (o + 1))) → Q (-1)))))))
set_option maxHeartbeats 4000000 in
set_option maxRecDepth 100000 in
theorem CX4_at {l : Launch} {G : sg_G} {La : sg_L} {s0 : sg_M} {o : Int} (to : sg_O La o 4) {x1 : Int} (r1 : sg_R x1) {Q : Int → Prop} (hf : fX4_at La s0 o x1 Q) : sg_C l G yX4_at cX4_at 2 (some .int) 1 0 0 La s0 [sg_r o, sg_i x1] (sg_PI La s0 Q) := by
  refine sg_body (by decide +kernel) (Nat.le_of_ble_eq_true rfl) ?_
  intro p e s m args below meth c F hnm
  unfold fX4_at at hf
  show sg_W p l e (sg_rm 1 0 0) s m args below meth c (MQ below (sg_Q (some .int) G La s.heap.size (sg_PI La s0 Q)) args s 0 0 (sg_A La s.heap.size)) 2 G (sg_A La s.heap.size) La s0 0 0 0 [(0, sg_r o), (1, sg_i x1)] []
  refine gw_iload_n F 1 rfl rfl dX4_at_0 ?_
  refine gw_if_lt F (tgt := 21) dX4_at_1 (by decide) r1 (fun c1 => ?_) (fun c1 => ?_)
  · have hf := hf.1 c1
    refine gw_iconst F dX4_at_21 ?_
    refine gw_goto F (tgt := 31) dX4_at_22 (by decide) ?_
    exact gr_PI F (by decide) hf (by decide) (by decide) dX4_at_31
  · have hf := hf.2 c1
    refine gw_iload_n F 1 rfl rfl dX4_at_4 ?_
    refine gw_aload_n F 0 rfl rfl to.1 dX4_at_5 ?_
    refine gw_get0 F to (by decide) rfl sg_lay_RX4 (j := 1) (by decide) rfl (host := "") (.inl kw_200) dX4_at_6 (fun h2 => ?_)
    refine gw_icmp_ge F (tgt := 21) dX4_at_9 (by decide) r1 h2 (fun c3 => ?_) (fun c3 => ?_)
    · have hf := hf.1 c3
      refine gw_iconst F dX4_at_21 ?_
      refine gw_goto F (tgt := 31) dX4_at_22 (by decide) ?_
      exact gr_PI F (by decide) hf (by decide) (by decide) dX4_at_31
    · have hf := hf.2 c3
      refine gw_iload_n F 1 rfl rfl dX4_at_12 ?_
      refine gw_aload_n F 0 rfl rfl to.1 dX4_at_13 ?_
      refine gw_get3 F to (by decide) rfl sg_lay_RX4 (j := 0) (by decide) (o1 := (o + 1)) (by first | rfl | omega) rfl (host := "") (.inl kw_199) dX4_at_14 (fun h4 => ?_)
      refine gw_alen F (sg_AN_any h4) dX4_at_17 ?_
      obtain ⟨g5, hf⟩ := hf
      refine gw_icmp_lt F (tgt := 25) dX4_at_18 (by decide) r1 g5 (fun c6 => ?_) (fun c6 => ?_)
      · have hf := hf.1 c6
        refine gw_aload_n F 0 rfl rfl to.1 dX4_at_25 ?_
        refine gw_get3 F to (by decide) rfl sg_lay_RX4 (j := 0) (by decide) (o1 := (o + 1)) (by first | rfl | omega) rfl (host := "") (.inl kw_199) dX4_at_26 (fun h7 => ?_)
        refine gw_iload_n F 1 rfl rfl dX4_at_29 ?_
        obtain ⟨⟨b80, b81⟩, hf⟩ := hf
        refine gw_iald F (sg_AN_any h7) b80 b81 dX4_at_30 (fun h9 => ?_)
        exact gr_PI F h9 hf (by decide) (by decide) dX4_at_31
      · have hf := hf.2 c6
        refine gw_iconst F dX4_at_21 ?_
        refine gw_goto F (tgt := 31) dX4_at_22 (by decide) ?_
        exact gr_PI F (by decide) hf (by decide) (by decide) dX4_at_31

theorem dX0_isTwice_0 : decode cX0_isTwice 0 = .ok (.iconst 0, 1) := by decide +kernel
theorem dX0_isTwice_1 : decode cX0_isTwice 1 = .ok (.istore_n 3, 1) := by decide +kernel
theorem dX0_isTwice_2 : decode cX0_isTwice 2 = .ok (.iconst 0, 1) := by decide +kernel
theorem dX0_isTwice_3 : decode cX0_isTwice 3 = .ok (.istore 4, 2) := by decide +kernel
theorem dX0_isTwice_5 : decode cX0_isTwice 5 = .ok (.iload 4, 2) := by decide +kernel
theorem dX0_isTwice_7 : decode cX0_isTwice 7 = .ok (.aload_n 0, 1) := by decide +kernel
theorem dX0_isTwice_8 : decode cX0_isTwice 8 = .ok (.getfield 23, 3) := by decide +kernel
theorem dX0_isTwice_11 : decode cX0_isTwice 11 = .ok (.getfield 90, 3) := by decide +kernel
theorem dX0_isTwice_14 : decode cX0_isTwice 14 = .ok (.if_icmp .ge 35, 3) := by decide +kernel
theorem dX0_isTwice_17 : decode cX0_isTwice 17 = .ok (.aload_n 0, 1) := by decide +kernel
theorem dX0_isTwice_18 : decode cX0_isTwice 18 = .ok (.getfield 23, 3) := by decide +kernel
theorem dX0_isTwice_21 : decode cX0_isTwice 21 = .ok (.iload 4, 2) := by decide +kernel
theorem dX0_isTwice_23 : decode cX0_isTwice 23 = .ok (.invokevirtual 91, 3) := by decide +kernel
theorem dX0_isTwice_26 : decode cX0_isTwice 26 = .ok (.istore 5, 2) := by decide +kernel
theorem dX0_isTwice_28 : decode cX0_isTwice 28 = .ok (.iload 5, 2) := by decide +kernel
theorem dX0_isTwice_30 : decode cX0_isTwice 30 = .ok (.iload_n 1, 1) := by decide +kernel
theorem dX0_isTwice_31 : decode cX0_isTwice 31 = .ok (.if_icmp .lt 12, 3) := by decide +kernel
theorem dX0_isTwice_34 : decode cX0_isTwice 34 = .ok (.iload 5, 2) := by decide +kernel
theorem dX0_isTwice_36 : decode cX0_isTwice 36 = .ok (.iload_n 2, 1) := by decide +kernel
theorem dX0_isTwice_37 : decode cX0_isTwice 37 = .ok (.if_icmp .gt 6, 3) := by decide +kernel
theorem dX0_isTwice_40 : decode cX0_isTwice 40 = .ok (.iinc 3 1, 3) := by decide +kernel
theorem dX0_isTwice_43 : decode cX0_isTwice 43 = .ok (.iinc 4 1, 3) := by decide +kernel
theorem dX0_isTwice_46 : decode cX0_isTwice 46 = .ok (.goto (-41), 3) := by decide +kernel
theorem dX0_isTwice_49 : decode cX0_isTwice 49 = .ok (.iload_n 3, 1) := by decide +kernel
theorem dX0_isTwice_50 : decode cX0_isTwice 50 = .ok (.iconst 1, 1) := by decide +kernel
theorem dX0_isTwice_51 : decode cX0_isTwice 51 = .ok (.if_icmp .le 7, 3) := by decide +kernel
theorem dX0_isTwice_54 : decode cX0_isTwice 54 = .ok (.iconst 1, 1) := by decide +kernel
theorem dX0_isTwice_55 : decode cX0_isTwice 55 = .ok (.goto 4, 3) := by decide +kernel
theorem dX0_isTwice_58 : decode cX0_isTwice 58 = .ok (.iconst 0, 1) := by decide +kernel
theorem dX0_isTwice_59 : decode cX0_isTwice 59 = .ok (.ireturn, 1) := by decide +kernel
theorem hcX0_isTwice : yX0_isTwice.cls ≠ "java/lang/invoke/MethodHandle" ∧ yX0_isTwice.cls ≠ "java/lang/invoke/VarHandle" ∧ (parseMethodDescriptor yX0_isTwice.desc).map (fun d => d.parameters.length) = some 2 := ⟨by decide +kernel, by decide +kernel, by decide +kernel⟩
def fX0_isTwice_j43 (x4_5 : Int) (k5 : Int → Int → Prop) (x3_43 : Int) : Prop := sg_R (x4_5 + 1) ∧ k5 x3_43 (x4_5 + 1)
def fX0_isTwice_L5 (La : sg_L) (s0 : sg_M) (x1 : Int) (x2 : Int) (k49 : Int → Prop) : Nat → Int → Int → Prop
  | 0, _, _ => False
  | n_5 + 1, x3_5, x4_5 => (((s0 35 1) ≤ x4_5 → k49 x3_5) ∧ (¬ ((s0 35 1) ≤ x4_5) → fX4_at La s0 35 x4_5 (fun u5 => ((u5 < x1 → (fX0_isTwice_j43 x4_5 (fX0_isTwice_L5 La s0 x1 x2 k49 n_5)) x3_5) ∧ (¬ (u5 < x1) → ((x2 < u5 → (fX0_isTwice_j43 x4_5 (fX0_isTwice_L5 La s0 x1 x2 k49 n_5)) x3_5) ∧ (¬ (x2 < u5) → sg_R (x3_5 + 1) ∧ (fX0_isTwice_j43 x4_5 (fX0_isTwice_L5 La s0 x1 x2 k49 n_5)) (x3_5 + 1))))))))
def fX0_isTwice (La : sg_L) (s0 : sg_M) (x1 : Int) (x2 : Int) (Q : Int → Prop) : Prop := (∃ n11 : Nat, fX0_isTwice_L5 La s0 x1 x2 (fun x3_49e5 => ((x3_49e5 ≤ 1 → Q 0) ∧ (¬ (x3_49e5 ≤ 1) → Q 1))) n11 0 0)
set_option maxHeartbeats 4000000 in
set_option maxRecDepth 100000 in
theorem CX0_isTwice {l : Launch} {G : sg_G} {La : sg_L} {s0 : sg_M} (hst : sg_St La) {x1 : Int} (r1 : sg_R x1) {x2 : Int} (r2 : sg_R x2) {Q : Int → Prop} (hf : fX0_isTwice La s0 x1 x2 Q) : sg_C l G yX0_isTwice cX0_isTwice 6 (some .boolean) 2 0 0 La s0 [sg_r 32, sg_i x1, sg_i x2] (sg_PZ La s0 Q) := by
  refine sg_body (by decide +kernel) (Nat.le_of_ble_eq_true rfl) ?_
  intro p e s m args below meth c F hnm
  unfold fX0_isTwice at hf
  show sg_W p l e (sg_rm 2 0 0) s m args below meth c (MQ below (sg_Q (some .boolean) G La s.heap.size (sg_PZ La s0 Q)) args s 0 0 (sg_A La s.heap.size)) 6 G (sg_A La s.heap.size) La s0 0 0 0 [(0, sg_r 32), (1, sg_i x1), (2, sg_i x2)] []
  refine gw_iconst F dX0_isTwice_0 ?_
  refine gw_istore_n F rfl (by decide) rfl dX0_isTwice_1 ?_
  refine gw_iconst F dX0_isTwice_2 ?_
  refine gw_istore F (by decide) rfl dX0_isTwice_3 ?_
  have L5 : ∀ (k49 : Int → Prop) (hk49 : ∀ (x3_49e5 : Int), sg_R x3_49e5 → k49 x3_49e5 → sg_W p l e (sg_rm 2 0 0) s m args below meth c (MQ below (sg_Q (some .boolean) G La s.heap.size (sg_PZ La s0 Q)) args s 0 0 (sg_A La s.heap.size)) 6 G (sg_A La s.heap.size) La s0 0 0 49 [(3, sg_i x3_49e5)] []), ∀ n_5 : Nat, ∀ (x3_5 : Int) (x4_5 : Int), sg_R x3_5 → sg_R x4_5 → fX0_isTwice_L5 La s0 x1 x2 k49 n_5 x3_5 x4_5 → sg_W p l e (sg_rm 2 0 0) s m args below meth c (MQ below (sg_Q (some .boolean) G La s.heap.size (sg_PZ La s0 Q)) args s 0 0 (sg_A La s.heap.size)) 6 G (sg_A La s.heap.size) La s0 0 0 5 [(0, sg_r 32), (1, sg_i x1), (2, sg_i x2), (3, sg_i x3_5), (4, sg_i x4_5)] [] := by
    intro k49 hk49 n_5
    induction n_5 with
    | zero => intro x3_5 x4_5 r3_5 r4_5 hf; exact hf.elim
    | succ n_5 ih =>
      intro x3_5 x4_5 r3_5 r4_5 hf
      unfold fX0_isTwice_L5 at hf
      refine gw_iload F 4 rfl dX0_isTwice_5 ?_
      refine gw_aload_n F 0 rfl rfl (by decide) dX0_isTwice_7 ?_
      refine gw_get3 F (so_32 hst) (by decide) rfl sg_lay_RX0 (j := 2) (by decide) (o1 := 35) (by first | rfl | omega) rfl (host := "") (.inl kw_254) dX0_isTwice_8 (fun h1 => ?_)
      refine gw_get0 F (so_35 hst) (by decide) rfl sg_lay_RX4 (j := 1) (by decide) rfl (.inr kw_202) dX0_isTwice_11 (fun h2 => ?_)
      refine gw_icmp_ge F (tgt := 49) dX0_isTwice_14 (by decide) r4_5 h2 (fun c3 => ?_) (fun c3 => ?_)
      · have hf := hf.1 c3
        refine gw_sub [3] rfl ?_
        exact hk49 x3_5 r3_5 hf
      · have hf := hf.2 c3
        refine gw_aload_n F 0 rfl rfl (by decide) dX0_isTwice_17 ?_
        refine gw_get3 F (so_32 hst) (by decide) rfl sg_lay_RX0 (j := 2) (by decide) (o1 := 35) (by first | rfl | omega) rfl (host := "") (.inl kw_254) dX0_isTwice_18 (fun h4 => ?_)
        refine gw_iload F 4 rfl dX0_isTwice_21 ?_
        refine gk_PI F (gc_V F (S := []) (As := [sg_i x4_5]) (T := TX4) (N := 3) (CX4_at (so_35 hst) r4_5 hf) (so_35 hst) (by decide) rfl kw_546 kw_97 kw_555 kw_544 kw_545 hcX4_at ⟨by decide, by decide⟩ rfl rfl (Nat.le_of_ble_eq_true rfl) ⟨by decide, by decide⟩ dX0_isTwice_23) (fun u5 h6 hf => ?_)
        refine gw_istore F (by decide) rfl dX0_isTwice_26 ?_
        refine gw_iload F 0 rfl dX0_isTwice_28 ?_
        refine gw_iload_n F 2 rfl rfl dX0_isTwice_30 ?_
        have J43 : ∀ (x3_43 : Int), sg_R x3_43 → (fX0_isTwice_j43 x4_5 (fX0_isTwice_L5 La s0 x1 x2 k49 n_5)) x3_43 → sg_W p l e (sg_rm 2 0 0) s m args below meth c (MQ below (sg_Q (some .boolean) G La s.heap.size (sg_PZ La s0 Q)) args s 0 0 (sg_A La s.heap.size)) 6 G (sg_A La s.heap.size) La s0 0 0 43 [(0, sg_r 32), (1, sg_i x1), (2, sg_i x2), (3, sg_i x3_43), (4, sg_i x4_5)] [] := by
          intro x3_43 r3_43 hf
          unfold fX0_isTwice_j43 at hf
          refine gw_iinc F (z := (x4_5 + 1)) 4 rfl (by omega) (by decide) rfl dX0_isTwice_43 ?_
          refine gw_goto F (tgt := 5) dX0_isTwice_46 (by decide) ?_
          obtain ⟨g7, hf⟩ := hf
          refine gw_sub [1, 2, 3, 4, 0] rfl ?_
          exact ih x3_43 (x4_5 + 1) r3_43 g7 hf
        refine gw_icmp_lt F (tgt := 43) dX0_isTwice_31 (by decide) h6 r1 (fun c8 => ?_) (fun c8 => ?_)
        · have hf := hf.1 c8
          refine gw_sub [1, 2, 3, 4, 5] rfl ?_
          exact J43 x3_5 r3_5 hf
        · have hf := hf.2 c8
          refine gw_iload F 0 rfl dX0_isTwice_34 ?_
          refine gw_iload_n F 3 rfl rfl dX0_isTwice_36 ?_
          refine gw_icmp_gt F (tgt := 43) dX0_isTwice_37 (by decide) h6 r2 (fun c9 => ?_) (fun c9 => ?_)
          · have hf := hf.1 c9
            refine gw_sub [1, 2, 3, 4, 5] rfl ?_
            exact J43 x3_5 r3_5 hf
          · have hf := hf.2 c9
            refine gw_iinc F (z := (x3_5 + 1)) 4 rfl (by omega) (by decide) rfl dX0_isTwice_40 ?_
            obtain ⟨g10, hf⟩ := hf
            refine gw_sub [2, 3, 4, 0, 5] rfl ?_
            exact J43 (x3_5 + 1) g10 hf
  obtain ⟨n11, hf⟩ := hf
  refine gw_sub [2, 3, 4, 1, 0] rfl ?_
  refine L5 _ (fun x3_49e5 r3_49e5 hf => ?_) n11 0 0 (by decide) (by decide) hf
  refine gw_iload_n F 0 rfl rfl dX0_isTwice_49 ?_
  refine gw_iconst F dX0_isTwice_50 ?_
  refine gw_icmp_le F (tgt := 58) dX0_isTwice_51 (by decide) r3_49e5 (by decide) (fun c12 => ?_) (fun c12 => ?_)
  · have hf := hf.1 c12
    refine gw_iconst F dX0_isTwice_58 ?_
    exact gr_PZ F (by decide) hf (by decide) (by decide) dX0_isTwice_59
  · have hf := hf.2 c12
    refine gw_iconst F dX0_isTwice_54 ?_
    refine gw_goto F (tgt := 59) dX0_isTwice_55 (by decide) ?_
    exact gr_PZ F (by decide) hf (by decide) (by decide) dX0_isTwice_59

theorem dX0_lastOfRun_0 : decode cX0_lastOfRun 0 = .ok (.iload_n 1, 1) := by decide +kernel
theorem dX0_lastOfRun_1 : decode cX0_lastOfRun 1 = .ok (.istore_n 3, 1) := by decide +kernel
theorem dX0_lastOfRun_2 : decode cX0_lastOfRun 2 = .ok (.iload_n 3, 1) := by decide +kernel
theorem dX0_lastOfRun_3 : decode cX0_lastOfRun 3 = .ok (.ifCond .lt 33, 3) := by decide +kernel
theorem dX0_lastOfRun_6 : decode cX0_lastOfRun 6 = .ok (.iload_n 3, 1) := by decide +kernel
theorem dX0_lastOfRun_7 : decode cX0_lastOfRun 7 = .ok (.aload_n 0, 1) := by decide +kernel
theorem dX0_lastOfRun_8 : decode cX0_lastOfRun 8 = .ok (.getfield 27, 3) := by decide +kernel
theorem dX0_lastOfRun_11 : decode cX0_lastOfRun 11 = .ok (.iconst 1, 1) := by decide +kernel
theorem dX0_lastOfRun_12 : decode cX0_lastOfRun 12 = .ok (.isub, 1) := by decide +kernel
theorem dX0_lastOfRun_13 : decode cX0_lastOfRun 13 = .ok (.if_icmp .ge 23, 3) := by decide +kernel
theorem dX0_lastOfRun_16 : decode cX0_lastOfRun 16 = .ok (.aload_n 0, 1) := by decide +kernel
theorem dX0_lastOfRun_17 : decode cX0_lastOfRun 17 = .ok (.getfield 15, 3) := by decide +kernel
theorem dX0_lastOfRun_20 : decode cX0_lastOfRun 20 = .ok (.iload_n 3, 1) := by decide +kernel
theorem dX0_lastOfRun_21 : decode cX0_lastOfRun 21 = .ok (.iconst 1, 1) := by decide +kernel
theorem dX0_lastOfRun_22 : decode cX0_lastOfRun 22 = .ok (.iadd, 1) := by decide +kernel
theorem dX0_lastOfRun_23 : decode cX0_lastOfRun 23 = .ok (.iaload, 1) := by decide +kernel
theorem dX0_lastOfRun_24 : decode cX0_lastOfRun 24 = .ok (.iload_n 2, 1) := by decide +kernel
theorem dX0_lastOfRun_25 : decode cX0_lastOfRun 25 = .ok (.iload_n 2, 1) := by decide +kernel
theorem dX0_lastOfRun_26 : decode cX0_lastOfRun 26 = .ok (.imul, 1) := by decide +kernel
theorem dX0_lastOfRun_27 : decode cX0_lastOfRun 27 = .ok (.if_icmp .ge 9, 3) := by decide +kernel
theorem dX0_lastOfRun_30 : decode cX0_lastOfRun 30 = .ok (.iinc 3 1, 3) := by decide +kernel
theorem dX0_lastOfRun_33 : decode cX0_lastOfRun 33 = .ok (.goto (-31), 3) := by decide +kernel
theorem dX0_lastOfRun_36 : decode cX0_lastOfRun 36 = .ok (.iload_n 3, 1) := by decide +kernel
theorem dX0_lastOfRun_37 : decode cX0_lastOfRun 37 = .ok (.ireturn, 1) := by decide +kernel
theorem hcX0_lastOfRun : yX0_lastOfRun.cls ≠ "java/lang/invoke/MethodHandle" ∧ yX0_lastOfRun.cls ≠ "java/lang/invoke/VarHandle" ∧ (parseMethodDescriptor yX0_lastOfRun.desc).map (fun d => d.parameters.length) = some 2 := ⟨by decide +kernel, by decide +kernel, by decide +kernel⟩
def fX0_lastOfRun_L2 (s0 : sg_M) (x2 : Int) (Q : Int → Prop) : Nat → Int → Prop
  | 0, _ => False
  | n_2 + 1, x3_2 => ((x3_2 < 0 → Q x3_2) ∧ (¬ (x3_2 < 0) → sg_R ((s0 32 3) - 1) ∧ ((((s0 32 3) - 1) ≤ x3_2 → Q x3_2) ∧ (¬ (((s0 32 3) - 1) ≤ x3_2) → (0 ≤ (x3_2 + 1) ∧ (x3_2 + 1) < 60) ∧ sg_R (x2 * x2) ∧ (((x2 * x2) ≤ (s0 34 (x3_2 + 1)) → Q x3_2) ∧ (¬ ((x2 * x2) ≤ (s0 34 (x3_2 + 1))) → sg_R (x3_2 + 1) ∧ (fX0_lastOfRun_L2 s0 x2 Q n_2) (x3_2 + 1)))))))
def fX0_lastOfRun (s0 : sg_M) (x1 : Int) (x2 : Int) (Q : Int → Prop) : Prop := (∃ n11 : Nat, fX0_lastOfRun_L2 s0 x2 Q n11 x1)
set_option maxHeartbeats 4000000 in
set_option maxRecDepth 100000 in
theorem CX0_lastOfRun {l : Launch} {G : sg_G} {La : sg_L} {s0 : sg_M} (hst : sg_St La) {x1 : Int} (r1 : sg_R x1) {x2 : Int} (r2 : sg_R x2) {Q : Int → Prop} (hf : fX0_lastOfRun s0 x1 x2 Q) : sg_C l G yX0_lastOfRun cX0_lastOfRun 4 (some .int) 1 0 0 La s0 [sg_r 32, sg_i x1, sg_i x2] (sg_PI La s0 Q) := by
  refine sg_body (by decide +kernel) (Nat.le_of_ble_eq_true rfl) ?_
  intro p e s m args below meth c F hnm
  unfold fX0_lastOfRun at hf
  show sg_W p l e (sg_rm 1 0 0) s m args below meth c (MQ below (sg_Q (some .int) G La s.heap.size (sg_PI La s0 Q)) args s 0 0 (sg_A La s.heap.size)) 4 G (sg_A La s.heap.size) La s0 0 0 0 [(0, sg_r 32), (1, sg_i x1), (2, sg_i x2)] []
  refine gw_iload_n F 1 rfl rfl dX0_lastOfRun_0 ?_
  refine gw_istore_n F rfl (by decide) rfl dX0_lastOfRun_1 ?_
  have L2 : ∀ n_2 : Nat, ∀ (x3_2 : Int), sg_R x3_2 → fX0_lastOfRun_L2 s0 x2 Q n_2 x3_2 → sg_W p l e (sg_rm 1 0 0) s m args below meth c (MQ below (sg_Q (some .int) G La s.heap.size (sg_PI La s0 Q)) args s 0 0 (sg_A La s.heap.size)) 4 G (sg_A La s.heap.size) La s0 0 0 2 [(0, sg_r 32), (2, sg_i x2), (3, sg_i x3_2)] [] := by
    intro n_2
    induction n_2 with
    | zero => intro x3_2 r3_2 hf; exact hf.elim
    | succ n_2 ih =>
      intro x3_2 r3_2 hf
      unfold fX0_lastOfRun_L2 at hf
      refine gw_iload_n F 2 rfl rfl dX0_lastOfRun_2 ?_
      refine gw_if_lt F (tgt := 36) dX0_lastOfRun_3 (by decide) r3_2 (fun c1 => ?_) (fun c1 => ?_)
      · have hf := hf.1 c1
        refine gw_iload_n F 2 rfl rfl dX0_lastOfRun_36 ?_
        exact gr_PI F r3_2 hf (by decide) (by decide) dX0_lastOfRun_37
      · have hf := hf.2 c1
        refine gw_iload_n F 2 rfl rfl dX0_lastOfRun_6 ?_
        refine gw_aload_n F 0 rfl rfl (by decide) dX0_lastOfRun_7 ?_
        refine gw_get0 F (so_32 hst) (by decide) rfl sg_lay_RX0 (j := 3) (by decide) rfl (host := "") (.inl kw_257) dX0_lastOfRun_8 (fun h2 => ?_)
        refine gw_iconst F dX0_lastOfRun_11 ?_
        refine gw_isub F rfl dX0_lastOfRun_12 ?_
        obtain ⟨g3, hf⟩ := hf
        refine gw_icmp_ge F (tgt := 36) dX0_lastOfRun_13 (by decide) r3_2 g3 (fun c4 => ?_) (fun c4 => ?_)
        · have hf := hf.1 c4
          refine gw_iload_n F 2 rfl rfl dX0_lastOfRun_36 ?_
          exact gr_PI F r3_2 hf (by decide) (by decide) dX0_lastOfRun_37
        · have hf := hf.2 c4
          refine gw_aload_n F 0 rfl rfl (by decide) dX0_lastOfRun_16 ?_
          refine gw_get3 F (so_32 hst) (by decide) rfl sg_lay_RX0 (j := 1) (by decide) (o1 := 34) (by first | rfl | omega) rfl (host := "") (.inl kw_253) dX0_lastOfRun_17 (fun h5 => ?_)
          refine gw_iload_n F 2 rfl rfl dX0_lastOfRun_20 ?_
          refine gw_iconst F dX0_lastOfRun_21 ?_
          refine gw_iadd F rfl dX0_lastOfRun_22 ?_
          obtain ⟨⟨b60, b61⟩, hf⟩ := hf
          refine gw_iald F (sa_34 hst) b60 b61 dX0_lastOfRun_23 (fun h7 => ?_)
          refine gw_iload_n F 1 rfl rfl dX0_lastOfRun_24 ?_
          refine gw_iload_n F 1 rfl rfl dX0_lastOfRun_25 ?_
          refine gw_imul F rfl dX0_lastOfRun_26 ?_
          obtain ⟨g8, hf⟩ := hf
          refine gw_icmp_ge F (tgt := 36) dX0_lastOfRun_27 (by decide) h7 g8 (fun c9 => ?_) (fun c9 => ?_)
          · have hf := hf.1 c9
            refine gw_iload_n F 2 rfl rfl dX0_lastOfRun_36 ?_
            exact gr_PI F r3_2 hf (by decide) (by decide) dX0_lastOfRun_37
          · have hf := hf.2 c9
            refine gw_iinc F (z := (x3_2 + 1)) 2 rfl (by omega) (by decide) rfl dX0_lastOfRun_30 ?_
            refine gw_goto F (tgt := 2) dX0_lastOfRun_33 (by decide) ?_
            obtain ⟨g10, hf⟩ := hf
            refine gw_sub [1, 2, 0] rfl ?_
            exact ih (x3_2 + 1) g10 hf
  obtain ⟨n11, hf⟩ := hf
  refine gw_sub [1, 3, 0] rfl ?_
  refine L2   n11 x1 r1 hf

theorem dX0_root_0 : decode cX0_root 0 = .ok (.iconst 0, 1) := by decide +kernel
theorem dX0_root_1 : decode cX0_root 1 = .ok (.istore_n 1, 1) := by decide +kernel
theorem dX0_root_2 : decode cX0_root 2 = .ok (.iload_n 0, 1) := by decide +kernel
theorem dX0_root_3 : decode cX0_root 3 = .ok (.sipush 16384, 3) := by decide +kernel
theorem dX0_root_6 : decode cX0_root 6 = .ok (.if_icmp .ge 8, 3) := by decide +kernel
theorem dX0_root_9 : decode cX0_root 9 = .ok (.bipush 64, 2) := by decide +kernel
theorem dX0_root_11 : decode cX0_root 11 = .ok (.goto 6, 3) := by decide +kernel
theorem dX0_root_14 : decode cX0_root 14 = .ok (.sipush 1024, 3) := by decide +kernel
theorem dX0_root_17 : decode cX0_root 17 = .ok (.istore_n 2, 1) := by decide +kernel
theorem dX0_root_18 : decode cX0_root 18 = .ok (.iload_n 2, 1) := by decide +kernel
theorem dX0_root_19 : decode cX0_root 19 = .ok (.ifCond .le 25, 3) := by decide +kernel
theorem dX0_root_22 : decode cX0_root 22 = .ok (.iload_n 1, 1) := by decide +kernel
theorem dX0_root_23 : decode cX0_root 23 = .ok (.iload_n 2, 1) := by decide +kernel
theorem dX0_root_24 : decode cX0_root 24 = .ok (.iadd, 1) := by decide +kernel
theorem dX0_root_25 : decode cX0_root 25 = .ok (.iload_n 1, 1) := by decide +kernel
theorem dX0_root_26 : decode cX0_root 26 = .ok (.iload_n 2, 1) := by decide +kernel
theorem dX0_root_27 : decode cX0_root 27 = .ok (.iadd, 1) := by decide +kernel
theorem dX0_root_28 : decode cX0_root 28 = .ok (.imul, 1) := by decide +kernel
theorem dX0_root_29 : decode cX0_root 29 = .ok (.iload_n 0, 1) := by decide +kernel
theorem dX0_root_30 : decode cX0_root 30 = .ok (.if_icmp .gt 7, 3) := by decide +kernel
theorem dX0_root_33 : decode cX0_root 33 = .ok (.iload_n 1, 1) := by decide +kernel
theorem dX0_root_34 : decode cX0_root 34 = .ok (.iload_n 2, 1) := by decide +kernel
theorem dX0_root_35 : decode cX0_root 35 = .ok (.iadd, 1) := by decide +kernel
theorem dX0_root_36 : decode cX0_root 36 = .ok (.istore_n 1, 1) := by decide +kernel
theorem dX0_root_37 : decode cX0_root 37 = .ok (.iload_n 2, 1) := by decide +kernel
theorem dX0_root_38 : decode cX0_root 38 = .ok (.iconst 2, 1) := by decide +kernel
theorem dX0_root_39 : decode cX0_root 39 = .ok (.idiv, 1) := by decide +kernel
theorem dX0_root_40 : decode cX0_root 40 = .ok (.istore_n 2, 1) := by decide +kernel
theorem dX0_root_41 : decode cX0_root 41 = .ok (.goto (-23), 3) := by decide +kernel
theorem dX0_root_44 : decode cX0_root 44 = .ok (.iload_n 1, 1) := by decide +kernel
theorem dX0_root_45 : decode cX0_root 45 = .ok (.ireturn, 1) := by decide +kernel
theorem hcX0_root : yX0_root.cls ≠ "java/lang/invoke/MethodHandle" ∧ yX0_root.cls ≠ "java/lang/invoke/VarHandle" ∧ (parseMethodDescriptor yX0_root.desc).map (fun d => d.parameters.length) = some 1 := ⟨by decide +kernel, by decide +kernel, by decide +kernel⟩
def fX0_root_j37 (x2_18 : Int) (k18 : Int → Int → Prop) (x1_37 : Int) : Prop := sg_R (Int.tdiv x2_18 2) ∧ k18 x1_37 (Int.tdiv x2_18 2)
def fX0_root_L18 (x0 : Int) (Q : Int → Prop) : Nat → Int → Int → Prop
  | 0, _, _ => False
  | n_18 + 1, x1_18, x2_18 => ((x2_18 ≤ 0 → Q x1_18) ∧ (¬ (x2_18 ≤ 0) → sg_R ((x1_18 + x2_18) * (x1_18 + x2_18)) ∧ ((x0 < ((x1_18 + x2_18) * (x1_18 + x2_18)) → (fX0_root_j37 x2_18 (fX0_root_L18 x0 Q n_18)) x1_18) ∧ (¬ (x0 < ((x1_18 + x2_18) * (x1_18 + x2_18))) → sg_R (x1_18 + x2_18) ∧ (fX0_root_j37 x2_18 (fX0_root_L18 x0 Q n_18)) (x1_18 + x2_18)))))
def fX0_root_j17 (x0 : Int) (Q : Int → Prop) (y0_17 : Int) : Prop := (∃ n6 : Nat, fX0_root_L18 x0 Q n6 0 y0_17)
def fX0_root (x0 : Int) (Q : Int → Prop) : Prop := ((16384 ≤ x0 → (fX0_root_j17 x0 Q) 1024) ∧ (¬ (16384 ≤ x0) → (fX0_root_j17 x0 Q) 64))
set_option maxHeartbeats 4000000 in
set_option maxRecDepth 100000 in
theorem CX0_root {l : Launch} {G : sg_G} {La : sg_L} {s0 : sg_M} {x0 : Int} (r0 : sg_R x0) {Q : Int → Prop} (hf : fX0_root x0 Q) : sg_C l G yX0_root cX0_root 3 (some .int) 1 0 0 La s0 [sg_i x0] (sg_PI La s0 Q) := by
  refine sg_body (by decide +kernel) (Nat.le_of_ble_eq_true rfl) ?_
  intro p e s m args below meth c F hnm
  unfold fX0_root at hf
  show sg_W p l e (sg_rm 1 0 0) s m args below meth c (MQ below (sg_Q (some .int) G La s.heap.size (sg_PI La s0 Q)) args s 0 0 (sg_A La s.heap.size)) 3 G (sg_A La s.heap.size) La s0 0 0 0 [(0, sg_i x0)] []
  refine gw_iconst F dX0_root_0 ?_
  refine gw_istore_n F rfl (by decide) rfl dX0_root_1 ?_
  refine gw_iload_n F 1 rfl rfl dX0_root_2 ?_
  refine gw_sipush F rfl dX0_root_3 ?_
  have J17 : ∀ (y0_17 : Int), sg_R y0_17 → (fX0_root_j17 x0 Q) y0_17 → sg_W p l e (sg_rm 1 0 0) s m args below meth c (MQ below (sg_Q (some .int) G La s.heap.size (sg_PI La s0 Q)) args s 0 0 (sg_A La s.heap.size)) 3 G (sg_A La s.heap.size) La s0 0 0 17 [(0, sg_i x0), (1, sg_i 0)] [sg_i y0_17] := by
    intro y0_17 ry0_17 hf
    unfold fX0_root_j17 at hf
    refine gw_istore_n F rfl (by decide) rfl dX0_root_17 ?_
    have L18 : ∀ n_18 : Nat, ∀ (x1_18 : Int) (x2_18 : Int), sg_R x1_18 → sg_R x2_18 → fX0_root_L18 x0 Q n_18 x1_18 x2_18 → sg_W p l e (sg_rm 1 0 0) s m args below meth c (MQ below (sg_Q (some .int) G La s.heap.size (sg_PI La s0 Q)) args s 0 0 (sg_A La s.heap.size)) 3 G (sg_A La s.heap.size) La s0 0 0 18 [(0, sg_i x0), (1, sg_i x1_18), (2, sg_i x2_18)] [] := by
      intro n_18
      induction n_18 with
      | zero => intro x1_18 x2_18 r1_18 r2_18 hf; exact hf.elim
      | succ n_18 ih =>
        intro x1_18 x2_18 r1_18 r2_18 hf
        unfold fX0_root_L18 at hf
        refine gw_iload_n F 2 rfl rfl dX0_root_18 ?_
        refine gw_if_le F (tgt := 44) dX0_root_19 (by decide) r2_18 (fun c1 => ?_) (fun c1 => ?_)
        · have hf := hf.1 c1
          refine gw_iload_n F 1 rfl rfl dX0_root_44 ?_
          exact gr_PI F r1_18 hf (by decide) (by decide) dX0_root_45
        · have hf := hf.2 c1
          refine gw_iload_n F 1 rfl rfl dX0_root_22 ?_
          refine gw_iload_n F 2 rfl rfl dX0_root_23 ?_
          refine gw_iadd F rfl dX0_root_24 ?_
          refine gw_iload_n F 1 rfl rfl dX0_root_25 ?_
          refine gw_iload_n F 2 rfl rfl dX0_root_26 ?_
          refine gw_iadd F rfl dX0_root_27 ?_
          refine gw_imul F rfl dX0_root_28 ?_
          refine gw_iload_n F 0 rfl rfl dX0_root_29 ?_
          have J37 : ∀ (x1_37 : Int), sg_R x1_37 → (fX0_root_j37 x2_18 (fX0_root_L18 x0 Q n_18)) x1_37 → sg_W p l e (sg_rm 1 0 0) s m args below meth c (MQ below (sg_Q (some .int) G La s.heap.size (sg_PI La s0 Q)) args s 0 0 (sg_A La s.heap.size)) 3 G (sg_A La s.heap.size) La s0 0 0 37 [(0, sg_i x0), (1, sg_i x1_37), (2, sg_i x2_18)] [] := by
            intro x1_37 r1_37 hf
            unfold fX0_root_j37 at hf
            refine gw_iload_n F 2 rfl rfl dX0_root_37 ?_
            refine gw_iconst F dX0_root_38 ?_
            refine gw_idiv F r2_18 (by decide) (by decide) rfl dX0_root_39 ?_
            refine gw_istore_n F rfl (by decide) rfl dX0_root_40 ?_
            refine gw_goto F (tgt := 18) dX0_root_41 (by decide) ?_
            obtain ⟨g2, hf⟩ := hf
            refine gw_sub [1, 2, 0] rfl ?_
            exact ih x1_37 (Int.tdiv x2_18 2) r1_37 g2 hf
          obtain ⟨g3, hf⟩ := hf
          refine gw_icmp_gt F (tgt := 37) dX0_root_30 (by decide) g3 r0 (fun c4 => ?_) (fun c4 => ?_)
          · have hf := hf.1 c4
            refine gw_sub [0, 1, 2] rfl ?_
            exact J37 x1_18 r1_18 hf
          · have hf := hf.2 c4
            refine gw_iload_n F 1 rfl rfl dX0_root_33 ?_
            refine gw_iload_n F 2 rfl rfl dX0_root_34 ?_
            refine gw_iadd F rfl dX0_root_35 ?_
            refine gw_istore_n F rfl (by decide) rfl dX0_root_36 ?_
            obtain ⟨g5, hf⟩ := hf
            refine gw_sub [1, 0, 2] rfl ?_
            exact J37 (x1_18 + x2_18) g5 hf
    obtain ⟨n6, hf⟩ := hf
    refine gw_sub [1, 2, 0] rfl ?_
    refine L18   n6 0 y0_17 (by decide) ry0_17 hf
  refine gw_icmp_ge F (tgt := 14) dX0_root_6 (by decide) r0 (by decide) (fun c7 => ?_) (fun c7 => ?_)
  · have hf := hf.1 c7
    refine gw_sipush F rfl dX0_root_14 ?_
    refine gw_sub [1, 0] rfl ?_
    exact J17 1024 (by decide) hf
  · have hf := hf.2 c7
    refine gw_bipush F rfl dX0_root_9 ?_
    refine gw_goto F (tgt := 17) dX0_root_11 (by decide) ?_
    refine gw_sub [1, 0] rfl ?_
    exact J17 64 (by decide) hf

theorem dX0_enoughAlone_0 : decode cX0_enoughAlone 0 = .ok (.iload_n 2, 1) := by decide +kernel
theorem dX0_enoughAlone_1 : decode cX0_enoughAlone 1 = .ok (.sipush 2000, 3) := by decide +kernel
theorem dX0_enoughAlone_4 : decode cX0_enoughAlone 4 = .ok (.if_icmp .ge 18, 3) := by decide +kernel
theorem dX0_enoughAlone_7 : decode cX0_enoughAlone 7 = .ok (.aload_n 0, 1) := by decide +kernel
theorem dX0_enoughAlone_8 : decode cX0_enoughAlone 8 = .ok (.getfield 15, 3) := by decide +kernel
theorem dX0_enoughAlone_11 : decode cX0_enoughAlone 11 = .ok (.iload_n 1, 1) := by decide +kernel
theorem dX0_enoughAlone_12 : decode cX0_enoughAlone 12 = .ok (.iaload, 1) := by decide +kernel
theorem dX0_enoughAlone_13 : decode cX0_enoughAlone 13 = .ok (.iload_n 2, 1) := by decide +kernel
theorem dX0_enoughAlone_14 : decode cX0_enoughAlone 14 = .ok (.iload_n 2, 1) := by decide +kernel
theorem dX0_enoughAlone_15 : decode cX0_enoughAlone 15 = .ok (.imul, 1) := by decide +kernel
theorem dX0_enoughAlone_16 : decode cX0_enoughAlone 16 = .ok (.iadd, 1) := by decide +kernel
theorem dX0_enoughAlone_17 : decode cX0_enoughAlone 17 = .ok (.ldc 143, 2) := by decide +kernel
theorem dX0_enoughAlone_19 : decode cX0_enoughAlone 19 = .ok (.if_icmp .lt 7, 3) := by decide +kernel
theorem dX0_enoughAlone_22 : decode cX0_enoughAlone 22 = .ok (.sipush 2000, 3) := by decide +kernel
theorem dX0_enoughAlone_25 : decode cX0_enoughAlone 25 = .ok (.ireturn, 1) := by decide +kernel
theorem dX0_enoughAlone_26 : decode cX0_enoughAlone 26 = .ok (.aload_n 0, 1) := by decide +kernel
theorem dX0_enoughAlone_27 : decode cX0_enoughAlone 27 = .ok (.getfield 15, 3) := by decide +kernel
theorem dX0_enoughAlone_30 : decode cX0_enoughAlone 30 = .ok (.iload_n 1, 1) := by decide +kernel
theorem dX0_enoughAlone_31 : decode cX0_enoughAlone 31 = .ok (.iaload, 1) := by decide +kernel
theorem dX0_enoughAlone_32 : decode cX0_enoughAlone 32 = .ok (.iload_n 2, 1) := by decide +kernel
theorem dX0_enoughAlone_33 : decode cX0_enoughAlone 33 = .ok (.iload_n 2, 1) := by decide +kernel
theorem dX0_enoughAlone_34 : decode cX0_enoughAlone 34 = .ok (.imul, 1) := by decide +kernel
theorem dX0_enoughAlone_35 : decode cX0_enoughAlone 35 = .ok (.iadd, 1) := by decide +kernel
theorem dX0_enoughAlone_36 : decode cX0_enoughAlone 36 = .ok (.invokestatic 144, 3) := by decide +kernel
theorem dX0_enoughAlone_39 : decode cX0_enoughAlone 39 = .ok (.iconst 1, 1) := by decide +kernel
theorem dX0_enoughAlone_40 : decode cX0_enoughAlone 40 = .ok (.iadd, 1) := by decide +kernel
theorem dX0_enoughAlone_41 : decode cX0_enoughAlone 41 = .ok (.ireturn, 1) := by decide +kernel
theorem hcX0_enoughAlone : yX0_enoughAlone.cls ≠ "java/lang/invoke/MethodHandle" ∧ yX0_enoughAlone.cls ≠ "java/lang/invoke/VarHandle" ∧ (parseMethodDescriptor yX0_enoughAlone.desc).map (fun d => d.parameters.length) = some 2 := ⟨by decide +kernel, by decide +kernel, by decide +kernel⟩
def fX0_enoughAlone (s0 : sg_M) (x1 : Int) (x2 : Int) (Q : Int → Prop) : Prop := ((2000 ≤ x2 → Q 2000) ∧ (¬ (2000 ≤ x2) → (0 ≤ x1 ∧ x1 < 60) ∧ sg_R ((s0 34 x1) + (x2 * x2)) ∧ ((((s0 34 x1) + (x2 * x2)) < 4000000 → (0 ≤ x1 ∧ x1 < 60) ∧ sg_R ((s0 34 x1) + (x2 * x2)) ∧ fX0_root ((s0 34 x1) + (x2 * x2)) (fun u11 => sg_R (u11 + 1) ∧ Q (u11 + 1))) ∧ (¬ (((s0 34 x1) + (x2 * x2)) < 4000000) → Q 2000))))
set_option maxHeartbeats 4000000 in
set_option maxRecDepth 100000 in
theorem CX0_enoughAlone {l : Launch} {G : sg_G} {La : sg_L} {s0 : sg_M} (hst : sg_St La) {x1 : Int} (r1 : sg_R x1) {x2 : Int} (r2 : sg_R x2) {Q : Int → Prop} (hf : fX0_enoughAlone s0 x1 x2 Q) : sg_C l G yX0_enoughAlone cX0_enoughAlone 3 (some .int) 2 0 0 La s0 [sg_r 32, sg_i x1, sg_i x2] (sg_PI La s0 Q) := by
  refine sg_body (by decide +kernel) (Nat.le_of_ble_eq_true rfl) ?_
  intro p e s m args below meth c F hnm
  unfold fX0_enoughAlone at hf
  show sg_W p l e (sg_rm 2 0 0) s m args below meth c (MQ below (sg_Q (some .int) G La s.heap.size (sg_PI La s0 Q)) args s 0 0 (sg_A La s.heap.size)) 3 G (sg_A La s.heap.size) La s0 0 0 0 [(0, sg_r 32), (1, sg_i x1), (2, sg_i x2)] []
  refine gw_iload_n F 2 rfl rfl dX0_enoughAlone_0 ?_
  refine gw_sipush F rfl dX0_enoughAlone_1 ?_
  refine gw_icmp_ge F (tgt := 22) dX0_enoughAlone_4 (by decide) r2 (by decide) (fun c1 => ?_) (fun c1 => ?_)
  · have hf := hf.1 c1
    refine gw_sipush F rfl dX0_enoughAlone_22 ?_
    exact gr_PI F (by decide) hf (by decide) (by decide) dX0_enoughAlone_25
  · have hf := hf.2 c1
    refine gw_aload_n F 0 rfl rfl (by decide) dX0_enoughAlone_7 ?_
    refine gw_get3 F (so_32 hst) (by decide) rfl sg_lay_RX0 (j := 1) (by decide) (o1 := 34) (by first | rfl | omega) rfl (host := "") (.inl kw_253) dX0_enoughAlone_8 (fun h2 => ?_)
    refine gw_iload_n F 1 rfl rfl dX0_enoughAlone_11 ?_
    obtain ⟨⟨b30, b31⟩, hf⟩ := hf
    refine gw_iald F (sa_34 hst) b30 b31 dX0_enoughAlone_12 (fun h4 => ?_)
    refine gw_iload_n F 2 rfl rfl dX0_enoughAlone_13 ?_
    refine gw_iload_n F 2 rfl rfl dX0_enoughAlone_14 ?_
    refine gw_imul F rfl dX0_enoughAlone_15 ?_
    refine gw_iadd F rfl dX0_enoughAlone_16 ?_
    refine gw_ldc F (n := 4000000) kw_562 rfl dX0_enoughAlone_17 ?_
    obtain ⟨g5, hf⟩ := hf
    refine gw_icmp_lt F (tgt := 26) dX0_enoughAlone_19 (by decide) g5 (by decide) (fun c6 => ?_) (fun c6 => ?_)
    · have hf := hf.1 c6
      refine gw_aload_n F 0 rfl rfl (by decide) dX0_enoughAlone_26 ?_
      refine gw_get3 F (so_32 hst) (by decide) rfl sg_lay_RX0 (j := 1) (by decide) (o1 := 34) (by first | rfl | omega) rfl (host := "") (.inl kw_253) dX0_enoughAlone_27 (fun h7 => ?_)
      refine gw_iload_n F 1 rfl rfl dX0_enoughAlone_30 ?_
      obtain ⟨⟨b80, b81⟩, hf⟩ := hf
      refine gw_iald F (sa_34 hst) b80 b81 dX0_enoughAlone_31 (fun h9 => ?_)
      refine gw_iload_n F 2 rfl rfl dX0_enoughAlone_32 ?_
      refine gw_iload_n F 2 rfl rfl dX0_enoughAlone_33 ?_
      refine gw_imul F rfl dX0_enoughAlone_34 ?_
      refine gw_iadd F rfl dX0_enoughAlone_35 ?_
      obtain ⟨g10, hf⟩ := hf
      refine gk_PI F (gc_S F (S := []) (As := [sg_i ((s0 34 x1) + (x2 * x2))]) (CX0_root g10 hf) kw_565 kw_100 kw_563 kw_564 hcX0_root ⟨by decide, by decide⟩ rfl rfl (Nat.le_of_ble_eq_true rfl) ⟨by decide, by decide⟩ dX0_enoughAlone_36) (fun u11 h12 hf => ?_)
      refine gw_iconst F dX0_enoughAlone_39 ?_
      refine gw_iadd F rfl dX0_enoughAlone_40 ?_
      obtain ⟨g13, hf⟩ := hf
      exact gr_PI F g13 hf (by decide) (by decide) dX0_enoughAlone_41
    · have hf := hf.2 c6
      refine gw_sipush F rfl dX0_enoughAlone_22 ?_
      exact gr_PI F (by decide) hf (by decide) (by decide) dX0_enoughAlone_25

theorem dX0_reaches_0 : decode cX0_reaches 0 = .ok (.iload_n 2, 1) := by decide +kernel
theorem dX0_reaches_1 : decode cX0_reaches 1 = .ok (.iload_n 2, 1) := by decide +kernel
theorem dX0_reaches_2 : decode cX0_reaches 2 = .ok (.imul, 1) := by decide +kernel
theorem dX0_reaches_3 : decode cX0_reaches 3 = .ok (.istore 4, 2) := by decide +kernel
theorem dX0_reaches_5 : decode cX0_reaches 5 = .ok (.iload 4, 2) := by decide +kernel
theorem dX0_reaches_7 : decode cX0_reaches 7 = .ok (.aload_n 0, 1) := by decide +kernel
theorem dX0_reaches_8 : decode cX0_reaches 8 = .ok (.getfield 15, 3) := by decide +kernel
theorem dX0_reaches_11 : decode cX0_reaches 11 = .ok (.iload_n 1, 1) := by decide +kernel
theorem dX0_reaches_12 : decode cX0_reaches 12 = .ok (.iaload, 1) := by decide +kernel
theorem dX0_reaches_13 : decode cX0_reaches 13 = .ok (.isub, 1) := by decide +kernel
theorem dX0_reaches_14 : decode cX0_reaches 14 = .ok (.invokestatic 144, 3) := by decide +kernel
theorem dX0_reaches_17 : decode cX0_reaches 17 = .ok (.istore 5, 2) := by decide +kernel
theorem dX0_reaches_19 : decode cX0_reaches 19 = .ok (.iload_n 1, 1) := by decide +kernel
theorem dX0_reaches_20 : decode cX0_reaches 20 = .ok (.iconst 1, 1) := by decide +kernel
theorem dX0_reaches_21 : decode cX0_reaches 21 = .ok (.isub, 1) := by decide +kernel
theorem dX0_reaches_22 : decode cX0_reaches 22 = .ok (.istore 6, 2) := by decide +kernel
theorem dX0_reaches_24 : decode cX0_reaches 24 = .ok (.iload 6, 2) := by decide +kernel
theorem dX0_reaches_26 : decode cX0_reaches 26 = .ok (.ifCond .lt 45, 3) := by decide +kernel
theorem dX0_reaches_29 : decode cX0_reaches 29 = .ok (.iload 5, 2) := by decide +kernel
theorem dX0_reaches_31 : decode cX0_reaches 31 = .ok (.iload_n 3, 1) := by decide +kernel
theorem dX0_reaches_32 : decode cX0_reaches 32 = .ok (.if_icmp .ge 39, 3) := by decide +kernel
theorem dX0_reaches_35 : decode cX0_reaches 35 = .ok (.aload_n 0, 1) := by decide +kernel
theorem dX0_reaches_36 : decode cX0_reaches 36 = .ok (.getfield 15, 3) := by decide +kernel
theorem dX0_reaches_39 : decode cX0_reaches 39 = .ok (.iload 6, 2) := by decide +kernel
theorem dX0_reaches_41 : decode cX0_reaches 41 = .ok (.iaload, 1) := by decide +kernel
theorem dX0_reaches_42 : decode cX0_reaches 42 = .ok (.iload 4, 2) := by decide +kernel
theorem dX0_reaches_44 : decode cX0_reaches 44 = .ok (.if_icmp .ge 27, 3) := by decide +kernel
theorem dX0_reaches_47 : decode cX0_reaches 47 = .ok (.iload 5, 2) := by decide +kernel
theorem dX0_reaches_49 : decode cX0_reaches 49 = .ok (.iload 4, 2) := by decide +kernel
theorem dX0_reaches_51 : decode cX0_reaches 51 = .ok (.aload_n 0, 1) := by decide +kernel
theorem dX0_reaches_52 : decode cX0_reaches 52 = .ok (.getfield 15, 3) := by decide +kernel
theorem dX0_reaches_55 : decode cX0_reaches 55 = .ok (.iload 6, 2) := by decide +kernel
theorem dX0_reaches_57 : decode cX0_reaches 57 = .ok (.iaload, 1) := by decide +kernel
theorem dX0_reaches_58 : decode cX0_reaches 58 = .ok (.isub, 1) := by decide +kernel
theorem dX0_reaches_59 : decode cX0_reaches 59 = .ok (.invokestatic 144, 3) := by decide +kernel
theorem dX0_reaches_62 : decode cX0_reaches 62 = .ok (.iadd, 1) := by decide +kernel
theorem dX0_reaches_63 : decode cX0_reaches 63 = .ok (.istore 5, 2) := by decide +kernel
theorem dX0_reaches_65 : decode cX0_reaches 65 = .ok (.iinc 6 (-1), 3) := by decide +kernel
theorem dX0_reaches_68 : decode cX0_reaches 68 = .ok (.goto (-44), 3) := by decide +kernel
theorem dX0_reaches_71 : decode cX0_reaches 71 = .ok (.iload_n 1, 1) := by decide +kernel
theorem dX0_reaches_72 : decode cX0_reaches 72 = .ok (.iconst 1, 1) := by decide +kernel
theorem dX0_reaches_73 : decode cX0_reaches 73 = .ok (.iadd, 1) := by decide +kernel
theorem dX0_reaches_74 : decode cX0_reaches 74 = .ok (.istore 6, 2) := by decide +kernel
theorem dX0_reaches_76 : decode cX0_reaches 76 = .ok (.iload 6, 2) := by decide +kernel
theorem dX0_reaches_78 : decode cX0_reaches 78 = .ok (.aload_n 0, 1) := by decide +kernel
theorem dX0_reaches_79 : decode cX0_reaches 79 = .ok (.getfield 27, 3) := by decide +kernel
theorem dX0_reaches_82 : decode cX0_reaches 82 = .ok (.if_icmp .ge 45, 3) := by decide +kernel
theorem dX0_reaches_85 : decode cX0_reaches 85 = .ok (.iload 5, 2) := by decide +kernel
theorem dX0_reaches_87 : decode cX0_reaches 87 = .ok (.iload_n 3, 1) := by decide +kernel
theorem dX0_reaches_88 : decode cX0_reaches 88 = .ok (.if_icmp .ge 39, 3) := by decide +kernel
theorem dX0_reaches_91 : decode cX0_reaches 91 = .ok (.aload_n 0, 1) := by decide +kernel
theorem dX0_reaches_92 : decode cX0_reaches 92 = .ok (.getfield 15, 3) := by decide +kernel
theorem dX0_reaches_95 : decode cX0_reaches 95 = .ok (.iload 6, 2) := by decide +kernel
theorem dX0_reaches_97 : decode cX0_reaches 97 = .ok (.iaload, 1) := by decide +kernel
theorem dX0_reaches_98 : decode cX0_reaches 98 = .ok (.iload 4, 2) := by decide +kernel
theorem dX0_reaches_100 : decode cX0_reaches 100 = .ok (.if_icmp .ge 27, 3) := by decide +kernel
theorem dX0_reaches_103 : decode cX0_reaches 103 = .ok (.iload 5, 2) := by decide +kernel
theorem dX0_reaches_105 : decode cX0_reaches 105 = .ok (.iload 4, 2) := by decide +kernel
theorem dX0_reaches_107 : decode cX0_reaches 107 = .ok (.aload_n 0, 1) := by decide +kernel
theorem dX0_reaches_108 : decode cX0_reaches 108 = .ok (.getfield 15, 3) := by decide +kernel
theorem dX0_reaches_111 : decode cX0_reaches 111 = .ok (.iload 6, 2) := by decide +kernel
theorem dX0_reaches_113 : decode cX0_reaches 113 = .ok (.iaload, 1) := by decide +kernel
theorem dX0_reaches_114 : decode cX0_reaches 114 = .ok (.isub, 1) := by decide +kernel
theorem dX0_reaches_115 : decode cX0_reaches 115 = .ok (.invokestatic 144, 3) := by decide +kernel
theorem dX0_reaches_118 : decode cX0_reaches 118 = .ok (.iadd, 1) := by decide +kernel
theorem dX0_reaches_119 : decode cX0_reaches 119 = .ok (.istore 5, 2) := by decide +kernel
theorem dX0_reaches_121 : decode cX0_reaches 121 = .ok (.iinc 6 1, 3) := by decide +kernel
theorem dX0_reaches_124 : decode cX0_reaches 124 = .ok (.goto (-48), 3) := by decide +kernel
theorem dX0_reaches_127 : decode cX0_reaches 127 = .ok (.iload 5, 2) := by decide +kernel
theorem dX0_reaches_129 : decode cX0_reaches 129 = .ok (.iload_n 3, 1) := by decide +kernel
theorem dX0_reaches_130 : decode cX0_reaches 130 = .ok (.if_icmp .lt 7, 3) := by decide +kernel
theorem dX0_reaches_133 : decode cX0_reaches 133 = .ok (.iconst 1, 1) := by decide +kernel
theorem dX0_reaches_134 : decode cX0_reaches 134 = .ok (.goto 4, 3) := by decide +kernel
theorem dX0_reaches_137 : decode cX0_reaches 137 = .ok (.iconst 0, 1) := by decide +kernel
theorem dX0_reaches_138 : decode cX0_reaches 138 = .ok (.ireturn, 1) := by decide +kernel
theorem hcX0_reaches : yX0_reaches.cls ≠ "java/lang/invoke/MethodHandle" ∧ yX0_reaches.cls ≠ "java/lang/invoke/VarHandle" ∧ (parseMethodDescriptor yX0_reaches.desc).map (fun d => d.parameters.length) = some 3 := ⟨by decide +kernel, by decide +kernel, by decide +kernel⟩
def fX0_reaches_L24 (s0 : sg_M) (x2 : Int) (x3 : Int) (k71 : Int → Prop) : Nat → Int → Int → Prop
  | 0, _, _ => False
  | n_24 + 1, x5_24, x6_24 => ((x6_24 < 0 → k71 x5_24) ∧ (¬ (x6_24 < 0) → ((x3 ≤ x5_24 → k71 x5_24) ∧ (¬ (x3 ≤ x5_24) → (0 ≤ x6_24 ∧ x6_24 < 60) ∧ sg_R (x2 * x2) ∧ (((x2 * x2) ≤ (s0 34 x6_24) → k71 x5_24) ∧ (¬ ((x2 * x2) ≤ (s0 34 x6_24)) → (0 ≤ x6_24 ∧ x6_24 < 60) ∧ sg_R ((x2 * x2) - (s0 34 x6_24)) ∧ fX0_root ((x2 * x2) - (s0 34 x6_24)) (fun u18 => sg_R (x5_24 + u18) ∧ sg_R (x6_24 - 1) ∧ (fX0_reaches_L24 s0 x2 x3 k71 n_24) (x5_24 + u18) (x6_24 - 1))))))))
def fX0_reaches_L76 (s0 : sg_M) (x2 : Int) (x3 : Int) (k127 : Int → Prop) : Nat → Int → Int → Prop
  | 0, _, _ => False
  | n_76 + 1, x5_76, x6_76 => (((s0 32 3) ≤ x6_76 → k127 x5_76) ∧ (¬ ((s0 32 3) ≤ x6_76) → ((x3 ≤ x5_76 → k127 x5_76) ∧ (¬ (x3 ≤ x5_76) → (0 ≤ x6_76 ∧ x6_76 < 60) ∧ sg_R (x2 * x2) ∧ (((x2 * x2) ≤ (s0 34 x6_76) → k127 x5_76) ∧ (¬ ((x2 * x2) ≤ (s0 34 x6_76)) → (0 ≤ x6_76 ∧ x6_76 < 60) ∧ sg_R ((x2 * x2) - (s0 34 x6_76)) ∧ fX0_root ((x2 * x2) - (s0 34 x6_76)) (fun u36 => sg_R (x5_76 + u36) ∧ sg_R (x6_76 + 1) ∧ (fX0_reaches_L76 s0 x2 x3 k127 n_76) (x5_76 + u36) (x6_76 + 1))))))))
def fX0_reaches (s0 : sg_M) (x1 : Int) (x2 : Int) (x3 : Int) (Q : Int → Prop) : Prop := (0 ≤ x1 ∧ x1 < 60) ∧ sg_R ((x2 * x2) - (s0 34 x1)) ∧ fX0_root ((x2 * x2) - (s0 34 x1)) (fun u5 => sg_R (x1 - 1) ∧ (∃ n23 : Nat, fX0_reaches_L24 s0 x2 x3 (fun x5_71e24 => sg_R (x1 + 1) ∧ (∃ n41 : Nat, fX0_reaches_L76 s0 x2 x3 (fun x5_127e76 => ((x5_127e76 < x3 → Q 0) ∧ (¬ (x5_127e76 < x3) → Q 1))) n41 x5_71e24 (x1 + 1))) n23 u5 (x1 - 1)))
set_option maxHeartbeats 4000000 in
set_option maxRecDepth 100000 in
theorem CX0_reaches {l : Launch} {G : sg_G} {La : sg_L} {s0 : sg_M} (hst : sg_St La) {x1 : Int} (r1 : sg_R x1) {x2 : Int} (r2 : sg_R x2) {x3 : Int} (r3 : sg_R x3) {Q : Int → Prop} (hf : fX0_reaches s0 x1 x2 x3 Q) : sg_C l G yX0_reaches cX0_reaches 7 (some .boolean) 2 0 0 La s0 [sg_r 32, sg_i x1, sg_i x2, sg_i x3] (sg_PZ La s0 Q) := by
  refine sg_body (by decide +kernel) (Nat.le_of_ble_eq_true rfl) ?_
  intro p e s m args below meth c F hnm
  unfold fX0_reaches at hf
  show sg_W p l e (sg_rm 2 0 0) s m args below meth c (MQ below (sg_Q (some .boolean) G La s.heap.size (sg_PZ La s0 Q)) args s 0 0 (sg_A La s.heap.size)) 7 G (sg_A La s.heap.size) La s0 0 0 0 [(0, sg_r 32), (1, sg_i x1), (2, sg_i x2), (3, sg_i x3)] []
  refine gw_iload_n F 2 rfl rfl dX0_reaches_0 ?_
  refine gw_iload_n F 2 rfl rfl dX0_reaches_1 ?_
  refine gw_imul F rfl dX0_reaches_2 ?_
  refine gw_istore F (by decide) rfl dX0_reaches_3 ?_
  refine gw_iload F 0 rfl dX0_reaches_5 ?_
  refine gw_aload_n F 1 rfl rfl (by decide) dX0_reaches_7 ?_
  refine gw_get3 F (so_32 hst) (by decide) rfl sg_lay_RX0 (j := 1) (by decide) (o1 := 34) (by first | rfl | omega) rfl (host := "") (.inl kw_253) dX0_reaches_8 (fun h1 => ?_)
  refine gw_iload_n F 2 rfl rfl dX0_reaches_11 ?_
  obtain ⟨⟨b20, b21⟩, hf⟩ := hf
  refine gw_iald F (sa_34 hst) b20 b21 dX0_reaches_12 (fun h3 => ?_)
  refine gw_isub F rfl dX0_reaches_13 ?_
  obtain ⟨g4, hf⟩ := hf
  refine gk_PI F (gc_S F (S := []) (As := [sg_i ((x2 * x2) - (s0 34 x1))]) (CX0_root g4 hf) kw_565 kw_100 kw_563 kw_564 hcX0_root ⟨by decide, by decide⟩ rfl rfl (Nat.le_of_ble_eq_true rfl) ⟨by decide, by decide⟩ dX0_reaches_14) (fun u5 h6 hf => ?_)
  refine gw_istore F (by decide) rfl dX0_reaches_17 ?_
  refine gw_iload_n F 3 rfl rfl dX0_reaches_19 ?_
  refine gw_iconst F dX0_reaches_20 ?_
  refine gw_isub F rfl dX0_reaches_21 ?_
  refine gw_istore F (by decide) rfl dX0_reaches_22 ?_
  have L24 : ∀ (k71 : Int → Prop) (hk71 : ∀ (x5_71e24 : Int), sg_R x5_71e24 → k71 x5_71e24 → sg_W p l e (sg_rm 2 0 0) s m args below meth c (MQ below (sg_Q (some .boolean) G La s.heap.size (sg_PZ La s0 Q)) args s 0 0 (sg_A La s.heap.size)) 7 G (sg_A La s.heap.size) La s0 0 0 71 [(0, sg_r 32), (1, sg_i x1), (3, sg_i x3), (4, sg_i (x2 * x2)), (5, sg_i x5_71e24)] []), ∀ n_24 : Nat, ∀ (x5_24 : Int) (x6_24 : Int), sg_R x5_24 → sg_R x6_24 → fX0_reaches_L24 s0 x2 x3 k71 n_24 x5_24 x6_24 → sg_W p l e (sg_rm 2 0 0) s m args below meth c (MQ below (sg_Q (some .boolean) G La s.heap.size (sg_PZ La s0 Q)) args s 0 0 (sg_A La s.heap.size)) 7 G (sg_A La s.heap.size) La s0 0 0 24 [(0, sg_r 32), (1, sg_i x1), (3, sg_i x3), (4, sg_i (x2 * x2)), (5, sg_i x5_24), (6, sg_i x6_24)] [] := by
    intro k71 hk71 n_24
    induction n_24 with
    | zero => intro x5_24 x6_24 r5_24 r6_24 hf; exact hf.elim
    | succ n_24 ih =>
      intro x5_24 x6_24 r5_24 r6_24 hf
      unfold fX0_reaches_L24 at hf
      refine gw_iload F 5 rfl dX0_reaches_24 ?_
      refine gw_if_lt F (tgt := 71) dX0_reaches_26 (by decide) r6_24 (fun c7 => ?_) (fun c7 => ?_)
      · have hf := hf.1 c7
        refine gw_sub [0, 1, 2, 3, 4] rfl ?_
        exact hk71 x5_24 r5_24 hf
      · have hf := hf.2 c7
        refine gw_iload F 4 rfl dX0_reaches_29 ?_
        refine gw_iload_n F 2 rfl rfl dX0_reaches_31 ?_
        refine gw_icmp_ge F (tgt := 71) dX0_reaches_32 (by decide) r5_24 r3 (fun c8 => ?_) (fun c8 => ?_)
        · have hf := hf.1 c8
          refine gw_sub [0, 1, 2, 3, 4] rfl ?_
          exact hk71 x5_24 r5_24 hf
        · have hf := hf.2 c8
          refine gw_aload_n F 0 rfl rfl (by decide) dX0_reaches_35 ?_
          refine gw_get3 F (so_32 hst) (by decide) rfl sg_lay_RX0 (j := 1) (by decide) (o1 := 34) (by first | rfl | omega) rfl (host := "") (.inl kw_253) dX0_reaches_36 (fun h9 => ?_)
          refine gw_iload F 5 rfl dX0_reaches_39 ?_
          obtain ⟨⟨b100, b101⟩, hf⟩ := hf
          refine gw_iald F (sa_34 hst) b100 b101 dX0_reaches_41 (fun h11 => ?_)
          refine gw_iload F 3 rfl dX0_reaches_42 ?_
          obtain ⟨g12, hf⟩ := hf
          refine gw_icmp_ge F (tgt := 71) dX0_reaches_44 (by decide) h11 g12 (fun c13 => ?_) (fun c13 => ?_)
          · have hf := hf.1 c13
            refine gw_sub [0, 1, 2, 3, 4] rfl ?_
            exact hk71 x5_24 r5_24 hf
          · have hf := hf.2 c13
            refine gw_iload F 4 rfl dX0_reaches_47 ?_
            refine gw_iload F 3 rfl dX0_reaches_49 ?_
            refine gw_aload_n F 0 rfl rfl (by decide) dX0_reaches_51 ?_
            refine gw_get3 F (so_32 hst) (by decide) rfl sg_lay_RX0 (j := 1) (by decide) (o1 := 34) (by first | rfl | omega) rfl (host := "") (.inl kw_253) dX0_reaches_52 (fun h14 => ?_)
            refine gw_iload F 5 rfl dX0_reaches_55 ?_
            obtain ⟨⟨b150, b151⟩, hf⟩ := hf
            refine gw_iald F (sa_34 hst) b150 b151 dX0_reaches_57 (fun h16 => ?_)
            refine gw_isub F rfl dX0_reaches_58 ?_
            obtain ⟨g17, hf⟩ := hf
            refine gk_PI F (gc_S F (S := [sg_i x5_24]) (As := [sg_i ((x2 * x2) - (s0 34 x6_24))]) (CX0_root g17 hf) kw_565 kw_100 kw_563 kw_564 hcX0_root ⟨by decide, by decide⟩ rfl rfl (Nat.le_of_ble_eq_true rfl) ⟨by decide, by decide⟩ dX0_reaches_59) (fun u18 h19 hf => ?_)
            refine gw_iadd F rfl dX0_reaches_62 ?_
            refine gw_istore F (by decide) rfl dX0_reaches_63 ?_
            refine gw_iinc F (z := (x6_24 - 1)) 5 rfl (by omega) (by decide) rfl dX0_reaches_65 ?_
            refine gw_goto F (tgt := 24) dX0_reaches_68 (by decide) ?_
            obtain ⟨g20, hf⟩ := hf
            obtain ⟨g21, hf⟩ := hf
            refine gw_sub [2, 3, 4, 5, 1, 0] rfl ?_
            exact ih (x5_24 + u18) (x6_24 - 1) g20 g21 hf
  obtain ⟨g22, hf⟩ := hf
  obtain ⟨n23, hf⟩ := hf
  refine gw_sub [3, 4, 6, 2, 1, 0] rfl ?_
  refine L24 _ (fun x5_71e24 r5_71e24 hf => ?_) n23 u5 (x1 - 1) h6 g22 hf
  refine gw_iload_n F 1 rfl rfl dX0_reaches_71 ?_
  refine gw_iconst F dX0_reaches_72 ?_
  refine gw_iadd F rfl dX0_reaches_73 ?_
  refine gw_istore F (by decide) rfl dX0_reaches_74 ?_
  have L76 : ∀ (k127 : Int → Prop) (hk127 : ∀ (x5_127e76 : Int), sg_R x5_127e76 → k127 x5_127e76 → sg_W p l e (sg_rm 2 0 0) s m args below meth c (MQ below (sg_Q (some .boolean) G La s.heap.size (sg_PZ La s0 Q)) args s 0 0 (sg_A La s.heap.size)) 7 G (sg_A La s.heap.size) La s0 0 0 127 [(3, sg_i x3), (5, sg_i x5_127e76)] []), ∀ n_76 : Nat, ∀ (x5_76 : Int) (x6_76 : Int), sg_R x5_76 → sg_R x6_76 → fX0_reaches_L76 s0 x2 x3 k127 n_76 x5_76 x6_76 → sg_W p l e (sg_rm 2 0 0) s m args below meth c (MQ below (sg_Q (some .boolean) G La s.heap.size (sg_PZ La s0 Q)) args s 0 0 (sg_A La s.heap.size)) 7 G (sg_A La s.heap.size) La s0 0 0 76 [(0, sg_r 32), (3, sg_i x3), (4, sg_i (x2 * x2)), (5, sg_i x5_76), (6, sg_i x6_76)] [] := by
    intro k127 hk127 n_76
    induction n_76 with
    | zero => intro x5_76 x6_76 r5_76 r6_76 hf; exact hf.elim
    | succ n_76 ih =>
      intro x5_76 x6_76 r5_76 r6_76 hf
      unfold fX0_reaches_L76 at hf
      refine gw_iload F 4 rfl dX0_reaches_76 ?_
      refine gw_aload_n F 0 rfl rfl (by decide) dX0_reaches_78 ?_
      refine gw_get0 F (so_32 hst) (by decide) rfl sg_lay_RX0 (j := 3) (by decide) rfl (host := "") (.inl kw_257) dX0_reaches_79 (fun h24 => ?_)
      refine gw_icmp_ge F (tgt := 127) dX0_reaches_82 (by decide) r6_76 h24 (fun c25 => ?_) (fun c25 => ?_)
      · have hf := hf.1 c25
        refine gw_sub [1, 3] rfl ?_
        exact hk127 x5_76 r5_76 hf
      · have hf := hf.2 c25
        refine gw_iload F 3 rfl dX0_reaches_85 ?_
        refine gw_iload_n F 1 rfl rfl dX0_reaches_87 ?_
        refine gw_icmp_ge F (tgt := 127) dX0_reaches_88 (by decide) r5_76 r3 (fun c26 => ?_) (fun c26 => ?_)
        · have hf := hf.1 c26
          refine gw_sub [1, 3] rfl ?_
          exact hk127 x5_76 r5_76 hf
        · have hf := hf.2 c26
          refine gw_aload_n F 0 rfl rfl (by decide) dX0_reaches_91 ?_
          refine gw_get3 F (so_32 hst) (by decide) rfl sg_lay_RX0 (j := 1) (by decide) (o1 := 34) (by first | rfl | omega) rfl (host := "") (.inl kw_253) dX0_reaches_92 (fun h27 => ?_)
          refine gw_iload F 4 rfl dX0_reaches_95 ?_
          obtain ⟨⟨b280, b281⟩, hf⟩ := hf
          refine gw_iald F (sa_34 hst) b280 b281 dX0_reaches_97 (fun h29 => ?_)
          refine gw_iload F 2 rfl dX0_reaches_98 ?_
          obtain ⟨g30, hf⟩ := hf
          refine gw_icmp_ge F (tgt := 127) dX0_reaches_100 (by decide) h29 g30 (fun c31 => ?_) (fun c31 => ?_)
          · have hf := hf.1 c31
            refine gw_sub [1, 3] rfl ?_
            exact hk127 x5_76 r5_76 hf
          · have hf := hf.2 c31
            refine gw_iload F 3 rfl dX0_reaches_103 ?_
            refine gw_iload F 2 rfl dX0_reaches_105 ?_
            refine gw_aload_n F 0 rfl rfl (by decide) dX0_reaches_107 ?_
            refine gw_get3 F (so_32 hst) (by decide) rfl sg_lay_RX0 (j := 1) (by decide) (o1 := 34) (by first | rfl | omega) rfl (host := "") (.inl kw_253) dX0_reaches_108 (fun h32 => ?_)
            refine gw_iload F 4 rfl dX0_reaches_111 ?_
            obtain ⟨⟨b330, b331⟩, hf⟩ := hf
            refine gw_iald F (sa_34 hst) b330 b331 dX0_reaches_113 (fun h34 => ?_)
            refine gw_isub F rfl dX0_reaches_114 ?_
            obtain ⟨g35, hf⟩ := hf
            refine gk_PI F (gc_S F (S := [sg_i x5_76]) (As := [sg_i ((x2 * x2) - (s0 34 x6_76))]) (CX0_root g35 hf) kw_565 kw_100 kw_563 kw_564 hcX0_root ⟨by decide, by decide⟩ rfl rfl (Nat.le_of_ble_eq_true rfl) ⟨by decide, by decide⟩ dX0_reaches_115) (fun u36 h37 hf => ?_)
            refine gw_iadd F rfl dX0_reaches_118 ?_
            refine gw_istore F (by decide) rfl dX0_reaches_119 ?_
            refine gw_iinc F (z := (x6_76 + 1)) 4 rfl (by omega) (by decide) rfl dX0_reaches_121 ?_
            refine gw_goto F (tgt := 76) dX0_reaches_124 (by decide) ?_
            obtain ⟨g38, hf⟩ := hf
            obtain ⟨g39, hf⟩ := hf
            refine gw_sub [2, 3, 4, 1, 0] rfl ?_
            exact ih (x5_76 + u36) (x6_76 + 1) g38 g39 hf
  obtain ⟨g40, hf⟩ := hf
  obtain ⟨n41, hf⟩ := hf
  refine gw_sub [1, 3, 4, 5, 0] rfl ?_
  refine L76 _ (fun x5_127e76 r5_127e76 hf => ?_) n41 x5_71e24 (x1 + 1) r5_71e24 g40 hf
  refine gw_iload F 1 rfl dX0_reaches_127 ?_
  refine gw_iload_n F 0 rfl rfl dX0_reaches_129 ?_
  refine gw_icmp_lt F (tgt := 137) dX0_reaches_130 (by decide) r5_127e76 r3 (fun c42 => ?_) (fun c42 => ?_)
  · have hf := hf.1 c42
    refine gw_iconst F dX0_reaches_137 ?_
    exact gr_PZ F (by decide) hf (by decide) (by decide) dX0_reaches_138
  · have hf := hf.2 c42
    refine gw_iconst F dX0_reaches_133 ?_
    refine gw_goto F (tgt := 138) dX0_reaches_134 (by decide) ?_
    exact gr_PZ F (by decide) hf (by decide) (by decide) dX0_reaches_138

theorem dX0_leastTone_0 : decode cX0_leastTone 0 = .ok (.iload_n 1, 1) := by decide +kernel
theorem dX0_leastTone_1 : decode cX0_leastTone 1 = .ok (.ifCond .lt 11, 3) := by decide +kernel
theorem dX0_leastTone_4 : decode cX0_leastTone 4 = .ok (.iload_n 1, 1) := by decide +kernel
theorem dX0_leastTone_5 : decode cX0_leastTone 5 = .ok (.aload_n 0, 1) := by decide +kernel
theorem dX0_leastTone_6 : decode cX0_leastTone 6 = .ok (.getfield 27, 3) := by decide +kernel
theorem dX0_leastTone_9 : decode cX0_leastTone 9 = .ok (.if_icmp .lt 5, 3) := by decide +kernel
theorem dX0_leastTone_12 : decode cX0_leastTone 12 = .ok (.iconst 0, 1) := by decide +kernel
theorem dX0_leastTone_13 : decode cX0_leastTone 13 = .ok (.ireturn, 1) := by decide +kernel
theorem dX0_leastTone_14 : decode cX0_leastTone 14 = .ok (.aload_n 0, 1) := by decide +kernel
theorem dX0_leastTone_15 : decode cX0_leastTone 15 = .ok (.getfield 9, 3) := by decide +kernel
theorem dX0_leastTone_18 : decode cX0_leastTone 18 = .ok (.iload_n 1, 1) := by decide +kernel
theorem dX0_leastTone_19 : decode cX0_leastTone 19 = .ok (.iaload, 1) := by decide +kernel
theorem dX0_leastTone_20 : decode cX0_leastTone 20 = .ok (.iconst 1, 1) := by decide +kernel
theorem dX0_leastTone_21 : decode cX0_leastTone 21 = .ok (.iadd, 1) := by decide +kernel
theorem dX0_leastTone_22 : decode cX0_leastTone 22 = .ok (.istore 4, 2) := by decide +kernel
theorem dX0_leastTone_24 : decode cX0_leastTone 24 = .ok (.iload_n 3, 1) := by decide +kernel
theorem dX0_leastTone_25 : decode cX0_leastTone 25 = .ok (.aload_n 0, 1) := by decide +kernel
theorem dX0_leastTone_26 : decode cX0_leastTone 26 = .ok (.iload_n 1, 1) := by decide +kernel
theorem dX0_leastTone_27 : decode cX0_leastTone 27 = .ok (.iload_n 2, 1) := by decide +kernel
theorem dX0_leastTone_28 : decode cX0_leastTone 28 = .ok (.invokevirtual 136, 3) := by decide +kernel
theorem dX0_leastTone_31 : decode cX0_leastTone 31 = .ok (.invokestatic 56, 3) := by decide +kernel
theorem dX0_leastTone_34 : decode cX0_leastTone 34 = .ok (.istore 5, 2) := by decide +kernel
theorem dX0_leastTone_36 : decode cX0_leastTone 36 = .ok (.iload 4, 2) := by decide +kernel
theorem dX0_leastTone_38 : decode cX0_leastTone 38 = .ok (.iload 5, 2) := by decide +kernel
theorem dX0_leastTone_40 : decode cX0_leastTone 40 = .ok (.if_icmp .gt 14, 3) := by decide +kernel
theorem dX0_leastTone_43 : decode cX0_leastTone 43 = .ok (.aload_n 0, 1) := by decide +kernel
theorem dX0_leastTone_44 : decode cX0_leastTone 44 = .ok (.iload_n 1, 1) := by decide +kernel
theorem dX0_leastTone_45 : decode cX0_leastTone 45 = .ok (.iload 5, 2) := by decide +kernel
theorem dX0_leastTone_47 : decode cX0_leastTone 47 = .ok (.iload_n 2, 1) := by decide +kernel
theorem dX0_leastTone_48 : decode cX0_leastTone 48 = .ok (.invokevirtual 139, 3) := by decide +kernel
theorem dX0_leastTone_51 : decode cX0_leastTone 51 = .ok (.ifCond .ne 5, 3) := by decide +kernel
theorem dX0_leastTone_54 : decode cX0_leastTone 54 = .ok (.iconst 0, 1) := by decide +kernel
theorem dX0_leastTone_55 : decode cX0_leastTone 55 = .ok (.ireturn, 1) := by decide +kernel
theorem dX0_leastTone_56 : decode cX0_leastTone 56 = .ok (.iconst 0, 1) := by decide +kernel
theorem dX0_leastTone_57 : decode cX0_leastTone 57 = .ok (.istore 6, 2) := by decide +kernel
theorem dX0_leastTone_59 : decode cX0_leastTone 59 = .ok (.iload 6, 2) := by decide +kernel
theorem dX0_leastTone_61 : decode cX0_leastTone 61 = .ok (.bipush 20, 2) := by decide +kernel
theorem dX0_leastTone_63 : decode cX0_leastTone 63 = .ok (.if_icmp .ge 49, 3) := by decide +kernel
theorem dX0_leastTone_66 : decode cX0_leastTone 66 = .ok (.iload 4, 2) := by decide +kernel
theorem dX0_leastTone_68 : decode cX0_leastTone 68 = .ok (.iload 5, 2) := by decide +kernel
theorem dX0_leastTone_70 : decode cX0_leastTone 70 = .ok (.if_icmp .ge 42, 3) := by decide +kernel
theorem dX0_leastTone_73 : decode cX0_leastTone 73 = .ok (.iload 4, 2) := by decide +kernel
theorem dX0_leastTone_75 : decode cX0_leastTone 75 = .ok (.iload 5, 2) := by decide +kernel
theorem dX0_leastTone_77 : decode cX0_leastTone 77 = .ok (.iadd, 1) := by decide +kernel
theorem dX0_leastTone_78 : decode cX0_leastTone 78 = .ok (.iconst 2, 1) := by decide +kernel
theorem dX0_leastTone_79 : decode cX0_leastTone 79 = .ok (.idiv, 1) := by decide +kernel
theorem dX0_leastTone_80 : decode cX0_leastTone 80 = .ok (.istore 7, 2) := by decide +kernel
theorem dX0_leastTone_82 : decode cX0_leastTone 82 = .ok (.aload_n 0, 1) := by decide +kernel
theorem dX0_leastTone_83 : decode cX0_leastTone 83 = .ok (.iload_n 1, 1) := by decide +kernel
theorem dX0_leastTone_84 : decode cX0_leastTone 84 = .ok (.iload 7, 2) := by decide +kernel
theorem dX0_leastTone_86 : decode cX0_leastTone 86 = .ok (.iload_n 2, 1) := by decide +kernel
theorem dX0_leastTone_87 : decode cX0_leastTone 87 = .ok (.invokevirtual 139, 3) := by decide +kernel
theorem dX0_leastTone_90 : decode cX0_leastTone 90 = .ok (.ifCond .eq 10, 3) := by decide +kernel
theorem dX0_leastTone_93 : decode cX0_leastTone 93 = .ok (.iload 7, 2) := by decide +kernel
theorem dX0_leastTone_95 : decode cX0_leastTone 95 = .ok (.istore 5, 2) := by decide +kernel
theorem dX0_leastTone_97 : decode cX0_leastTone 97 = .ok (.goto 9, 3) := by decide +kernel
theorem dX0_leastTone_100 : decode cX0_leastTone 100 = .ok (.iload 7, 2) := by decide +kernel
theorem dX0_leastTone_102 : decode cX0_leastTone 102 = .ok (.iconst 1, 1) := by decide +kernel
theorem dX0_leastTone_103 : decode cX0_leastTone 103 = .ok (.iadd, 1) := by decide +kernel
theorem dX0_leastTone_104 : decode cX0_leastTone 104 = .ok (.istore 4, 2) := by decide +kernel
theorem dX0_leastTone_106 : decode cX0_leastTone 106 = .ok (.iinc 6 1, 3) := by decide +kernel
theorem dX0_leastTone_109 : decode cX0_leastTone 109 = .ok (.goto (-50), 3) := by decide +kernel
theorem dX0_leastTone_112 : decode cX0_leastTone 112 = .ok (.iload 4, 2) := by decide +kernel
theorem dX0_leastTone_114 : decode cX0_leastTone 114 = .ok (.ireturn, 1) := by decide +kernel
theorem hcX0_leastTone : yX0_leastTone.cls ≠ "java/lang/invoke/MethodHandle" ∧ yX0_leastTone.cls ≠ "java/lang/invoke/VarHandle" ∧ (parseMethodDescriptor yX0_leastTone.desc).map (fun d => d.parameters.length) = some 3 := ⟨by decide +kernel, by decide +kernel, by decide +kernel⟩
def fX0_leastTone_j106 (x6_59 : Int) (k59 : Int → Int → Int → Prop) (x4_106 : Int) (x5_106 : Int) : Prop := sg_R (x6_59 + 1) ∧ k59 x4_106 x5_106 (x6_59 + 1)
def fX0_leastTone_L59 (s0 : sg_M) (x1 : Int) (x2 : Int) (Q : Int → Prop) : Nat → Int → Int → Int → Prop
  | 0, _, _, _ => False
  | n_59 + 1, x4_59, x5_59, x6_59 => ((20 ≤ x6_59 → Q x4_59) ∧ (¬ (20 ≤ x6_59) → ((x5_59 ≤ x4_59 → Q x4_59) ∧ (¬ (x5_59 ≤ x4_59) → sg_R (x4_59 + x5_59) ∧ sg_R (Int.tdiv (x4_59 + x5_59) 2) ∧ fX0_reaches s0 x1 (Int.tdiv (x4_59 + x5_59) 2) x2 (fun u18 => ((u18 = 0 → ∀ v22 : Int, v22 = ((Int.tdiv (x4_59 + x5_59) 2) + 1) → sg_R v22 ∧ (fX0_leastTone_j106 x6_59 (fX0_leastTone_L59 s0 x1 x2 Q n_59)) v22 x5_59) ∧ (¬ (u18 = 0) → (fX0_leastTone_j106 x6_59 (fX0_leastTone_L59 s0 x1 x2 Q n_59)) x4_59 (Int.tdiv (x4_59 + x5_59) 2))))))))
def fX0_leastTone (s0 : sg_M) (x1 : Int) (x2 : Int) (x3 : Int) (Q : Int → Prop) : Prop := ((x1 < 0 → Q 0) ∧ (¬ (x1 < 0) → ((x1 < (s0 32 3) → (0 ≤ x1 ∧ x1 < 60) ∧ fX0_enoughAlone s0 x1 x2 (fun u7 => sg_R ((s0 33 x1) + 1) ∧ (((sg_min x3 u7) < ((s0 33 x1) + 1) → Q 0) ∧ (¬ ((sg_min x3 u7) < ((s0 33 x1) + 1)) → fX0_reaches s0 x1 (sg_min x3 u7) x2 (fun u11 => ((u11 ≠ 0 → (∃ n25 : Nat, fX0_leastTone_L59 s0 x1 x2 Q n25 ((s0 33 x1) + 1) (sg_min x3 u7) 0)) ∧ (u11 = 0 → Q 0))))))) ∧ (¬ (x1 < (s0 32 3)) → Q 0))))
set_option maxHeartbeats 4000000 in
set_option maxRecDepth 100000 in
theorem CX0_leastTone {l : Launch} {G : sg_G} {La : sg_L} {s0 : sg_M} (hst : sg_St La) {x1 : Int} (r1 : sg_R x1) {x2 : Int} (r2 : sg_R x2) {x3 : Int} (r3 : sg_R x3) {Q : Int → Prop} (hf : fX0_leastTone s0 x1 x2 x3 Q) : sg_C l G yX0_leastTone cX0_leastTone 8 (some .int) 3 0 0 La s0 [sg_r 32, sg_i x1, sg_i x2, sg_i x3] (sg_PI La s0 Q) := by
  refine sg_body (by decide +kernel) (Nat.le_of_ble_eq_true rfl) ?_
  intro p e s m args below meth c F hnm
  unfold fX0_leastTone at hf
  show sg_W p l e (sg_rm 3 0 0) s m args below meth c (MQ below (sg_Q (some .int) G La s.heap.size (sg_PI La s0 Q)) args s 0 0 (sg_A La s.heap.size)) 8 G (sg_A La s.heap.size) La s0 0 0 0 [(0, sg_r 32), (1, sg_i x1), (2, sg_i x2), (3, sg_i x3)] []
  refine gw_iload_n F 1 rfl rfl dX0_leastTone_0 ?_
  refine gw_if_lt F (tgt := 12) dX0_leastTone_1 (by decide) r1 (fun c1 => ?_) (fun c1 => ?_)
  · have hf := hf.1 c1
    refine gw_iconst F dX0_leastTone_12 ?_
    exact gr_PI F (by decide) hf (by decide) (by decide) dX0_leastTone_13
  · have hf := hf.2 c1
    refine gw_iload_n F 1 rfl rfl dX0_leastTone_4 ?_
    refine gw_aload_n F 0 rfl rfl (by decide) dX0_leastTone_5 ?_
    refine gw_get0 F (so_32 hst) (by decide) rfl sg_lay_RX0 (j := 3) (by decide) rfl (host := "") (.inl kw_257) dX0_leastTone_6 (fun h2 => ?_)
    refine gw_icmp_lt F (tgt := 14) dX0_leastTone_9 (by decide) r1 h2 (fun c3 => ?_) (fun c3 => ?_)
    · have hf := hf.1 c3
      refine gw_aload_n F 0 rfl rfl (by decide) dX0_leastTone_14 ?_
      refine gw_get3 F (so_32 hst) (by decide) rfl sg_lay_RX0 (j := 0) (by decide) (o1 := 33) (by first | rfl | omega) rfl (host := "") (.inl kw_252) dX0_leastTone_15 (fun h4 => ?_)
      refine gw_iload_n F 1 rfl rfl dX0_leastTone_18 ?_
      obtain ⟨⟨b50, b51⟩, hf⟩ := hf
      refine gw_iald F (sa_33 hst) b50 b51 dX0_leastTone_19 (fun h6 => ?_)
      refine gw_iconst F dX0_leastTone_20 ?_
      refine gw_iadd F rfl dX0_leastTone_21 ?_
      refine gw_istore F (by decide) rfl dX0_leastTone_22 ?_
      refine gw_iload_n F 4 rfl rfl dX0_leastTone_24 ?_
      refine gw_aload_n F 1 rfl rfl (by decide) dX0_leastTone_25 ?_
      refine gw_iload_n F 2 rfl rfl dX0_leastTone_26 ?_
      refine gw_iload_n F 3 rfl rfl dX0_leastTone_27 ?_
      refine gk_PI F (gc_V F (S := [sg_i x3]) (As := [sg_i x1, sg_i x2]) (T := TX0) (N := 11) (CX0_enoughAlone hst r1 r2 hf) (so_32 hst) (by decide) rfl kw_561 kw_100 kw_559 kw_560 kw_7 hcX0_enoughAlone ⟨by decide, by decide⟩ rfl rfl (Nat.le_of_ble_eq_true rfl) ⟨by decide, by decide⟩ dX0_leastTone_28) (fun u7 h8 hf => ?_)
      refine gw_min F r3 h8 rfl kw_507 kw_min1 kw_math kw_min2 (Nat.le_of_ble_eq_true rfl) (by decide) (by decide) (by decide) (by decide) dX0_leastTone_31 ?_
      refine gw_istore F (by decide) rfl dX0_leastTone_34 ?_
      refine gw_iload F 1 rfl dX0_leastTone_36 ?_
      refine gw_iload F 0 rfl dX0_leastTone_38 ?_
      obtain ⟨g9, hf⟩ := hf
      refine gw_icmp_gt F (tgt := 54) dX0_leastTone_40 (by decide) g9 (sg_min_R r3 h8) (fun c10 => ?_) (fun c10 => ?_)
      · have hf := hf.1 c10
        refine gw_iconst F dX0_leastTone_54 ?_
        exact gr_PI F (by decide) hf (by decide) (by decide) dX0_leastTone_55
      · have hf := hf.2 c10
        refine gw_aload_n F 2 rfl rfl (by decide) dX0_leastTone_43 ?_
        refine gw_iload_n F 3 rfl rfl dX0_leastTone_44 ?_
        refine gw_iload F 0 rfl dX0_leastTone_45 ?_
        refine gw_iload_n F 4 rfl rfl dX0_leastTone_47 ?_
        refine gk_PZ F (gc_V F (S := []) (As := [sg_i x1, sg_i (sg_min x3 u7), sg_i x2]) (T := TX0) (N := 11) (CX0_reaches hst r1 (sg_min_R r3 h8) r2 hf) (so_32 hst) (by decide) rfl kw_568 kw_100 kw_566 kw_567 kw_8 hcX0_reaches ⟨by decide, by decide⟩ rfl rfl (Nat.le_of_ble_eq_true rfl) ⟨by decide, by decide⟩ dX0_leastTone_48) (fun u11 h12 hf => ?_)
        refine gw_if_ne F (tgt := 56) dX0_leastTone_51 (by decide) (sg_B_R h12) (fun c13 => ?_) (fun c13 => ?_)
        · have hf := hf.1 c13
          refine gw_iconst F dX0_leastTone_56 ?_
          refine gw_istore F (by decide) rfl dX0_leastTone_57 ?_
          have L59 : ∀ n_59 : Nat, ∀ (x4_59 : Int) (x5_59 : Int) (x6_59 : Int), sg_R x4_59 → sg_R x5_59 → sg_R x6_59 → fX0_leastTone_L59 s0 x1 x2 Q n_59 x4_59 x5_59 x6_59 → sg_W p l e (sg_rm 3 0 0) s m args below meth c (MQ below (sg_Q (some .int) G La s.heap.size (sg_PI La s0 Q)) args s 0 0 (sg_A La s.heap.size)) 8 G (sg_A La s.heap.size) La s0 0 0 59 [(0, sg_r 32), (1, sg_i x1), (2, sg_i x2), (4, sg_i x4_59), (5, sg_i x5_59), (6, sg_i x6_59)] [] := by
            intro n_59
            induction n_59 with
            | zero => intro x4_59 x5_59 x6_59 r4_59 r5_59 r6_59 hf; exact hf.elim
            | succ n_59 ih =>
              intro x4_59 x5_59 x6_59 r4_59 r5_59 r6_59 hf
              unfold fX0_leastTone_L59 at hf
              refine gw_iload F 5 rfl dX0_leastTone_59 ?_
              refine gw_bipush F rfl dX0_leastTone_61 ?_
              refine gw_icmp_ge F (tgt := 112) dX0_leastTone_63 (by decide) r6_59 (by decide) (fun c14 => ?_) (fun c14 => ?_)
              · have hf := hf.1 c14
                refine gw_iload F 3 rfl dX0_leastTone_112 ?_
                exact gr_PI F r4_59 hf (by decide) (by decide) dX0_leastTone_114
              · have hf := hf.2 c14
                refine gw_iload F 3 rfl dX0_leastTone_66 ?_
                refine gw_iload F 4 rfl dX0_leastTone_68 ?_
                refine gw_icmp_ge F (tgt := 112) dX0_leastTone_70 (by decide) r4_59 r5_59 (fun c15 => ?_) (fun c15 => ?_)
                · have hf := hf.1 c15
                  refine gw_iload F 3 rfl dX0_leastTone_112 ?_
                  exact gr_PI F r4_59 hf (by decide) (by decide) dX0_leastTone_114
                · have hf := hf.2 c15
                  refine gw_iload F 3 rfl dX0_leastTone_73 ?_
                  refine gw_iload F 4 rfl dX0_leastTone_75 ?_
                  refine gw_iadd F rfl dX0_leastTone_77 ?_
                  refine gw_iconst F dX0_leastTone_78 ?_
                  obtain ⟨g16, hf⟩ := hf
                  refine gw_idiv F g16 (by decide) (by decide) rfl dX0_leastTone_79 ?_
                  refine gw_istore F (by decide) rfl dX0_leastTone_80 ?_
                  refine gw_aload_n F 1 rfl rfl (by decide) dX0_leastTone_82 ?_
                  refine gw_iload_n F 2 rfl rfl dX0_leastTone_83 ?_
                  refine gw_iload F 0 rfl dX0_leastTone_84 ?_
                  refine gw_iload_n F 3 rfl rfl dX0_leastTone_86 ?_
                  obtain ⟨g17, hf⟩ := hf
                  refine gk_PZ F (gc_V F (S := []) (As := [sg_i x1, sg_i (Int.tdiv (x4_59 + x5_59) 2), sg_i x2]) (T := TX0) (N := 11) (CX0_reaches hst r1 g17 r2 hf) (so_32 hst) (by decide) rfl kw_568 kw_100 kw_566 kw_567 kw_8 hcX0_reaches ⟨by decide, by decide⟩ rfl rfl (Nat.le_of_ble_eq_true rfl) ⟨by decide, by decide⟩ dX0_leastTone_87) (fun u18 h19 hf => ?_)
                  have J106 : ∀ (x4_106 : Int) (x5_106 : Int), sg_R x4_106 → sg_R x5_106 → (fX0_leastTone_j106 x6_59 (fX0_leastTone_L59 s0 x1 x2 Q n_59)) x4_106 x5_106 → sg_W p l e (sg_rm 3 0 0) s m args below meth c (MQ below (sg_Q (some .int) G La s.heap.size (sg_PI La s0 Q)) args s 0 0 (sg_A La s.heap.size)) 8 G (sg_A La s.heap.size) La s0 0 0 106 [(0, sg_r 32), (1, sg_i x1), (2, sg_i x2), (4, sg_i x4_106), (5, sg_i x5_106), (6, sg_i x6_59)] [] := by
                    intro x4_106 x5_106 r4_106 r5_106 hf
                    unfold fX0_leastTone_j106 at hf
                    refine gw_iinc F (z := (x6_59 + 1)) 5 rfl (by omega) (by decide) rfl dX0_leastTone_106 ?_
                    refine gw_goto F (tgt := 59) dX0_leastTone_109 (by decide) ?_
                    obtain ⟨g20, hf⟩ := hf
                    refine gw_sub [1, 2, 3, 4, 5, 0] rfl ?_
                    exact ih x4_106 x5_106 (x6_59 + 1) r4_106 r5_106 g20 hf
                  refine gw_if_eq F (tgt := 100) dX0_leastTone_90 (by decide) (sg_B_R h19) (fun c21 => ?_) (fun c21 => ?_)
                  · have hf := hf.1 c21
                    refine gw_iload F 0 rfl dX0_leastTone_100 ?_
                    refine gw_iconst F dX0_leastTone_102 ?_
                    refine gw_iadd F rfl dX0_leastTone_103 ?_
                    obtain ⟨v22, e23⟩ : ∃ z : Int, z = ((Int.tdiv (x4_59 + x5_59) 2) + 1) := ⟨_, rfl⟩
                    obtain ⟨g24, hf⟩ := hf v22 e23
                    refine gw_nmI e23 ?_
                    refine gw_istore F (by decide) rfl dX0_leastTone_104 ?_
                    refine gw_sub [2, 3, 4, 0, 5, 6] rfl ?_
                    exact J106 v22 x5_59 g24 r5_59 hf
                  · have hf := hf.2 c21
                    refine gw_iload F 0 rfl dX0_leastTone_93 ?_
                    refine gw_istore F (by decide) rfl dX0_leastTone_95 ?_
                    refine gw_goto F (tgt := 106) dX0_leastTone_97 (by decide) ?_
                    refine gw_sub [2, 3, 4, 5, 0, 6] rfl ?_
                    exact J106 x4_59 (Int.tdiv (x4_59 + x5_59) 2) r4_59 g17 hf
          obtain ⟨n25, hf⟩ := hf
          refine gw_sub [3, 4, 5, 2, 1, 0] rfl ?_
          refine L59   n25 ((s0 33 x1) + 1) (sg_min x3 u7) 0 g9 (sg_min_R r3 h8) (by decide) hf
        · have hf := hf.2 c13
          refine gw_iconst F dX0_leastTone_54 ?_
          exact gr_PI F (by decide) hf (by decide) (by decide) dX0_leastTone_55
    · have hf := hf.2 c3
      refine gw_iconst F dX0_leastTone_12 ?_
      exact gr_PI F (by decide) hf (by decide) (by decide) dX0_leastTone_13

theorem dX0_mostKept_0 : decode cX0_mostKept 0 = .ok (.iconst 0, 1) := by decide +kernel
theorem dX0_mostKept_1 : decode cX0_mostKept 1 = .ok (.istore_n 2, 1) := by decide +kernel
theorem dX0_mostKept_2 : decode cX0_mostKept 2 = .ok (.iconst 0, 1) := by decide +kernel
theorem dX0_mostKept_3 : decode cX0_mostKept 3 = .ok (.istore_n 3, 1) := by decide +kernel
theorem dX0_mostKept_4 : decode cX0_mostKept 4 = .ok (.iload_n 3, 1) := by decide +kernel
theorem dX0_mostKept_5 : decode cX0_mostKept 5 = .ok (.iload_n 1, 1) := by decide +kernel
theorem dX0_mostKept_6 : decode cX0_mostKept 6 = .ok (.if_icmp .ge 28, 3) := by decide +kernel
theorem dX0_mostKept_9 : decode cX0_mostKept 9 = .ok (.iload_n 3, 1) := by decide +kernel
theorem dX0_mostKept_10 : decode cX0_mostKept 10 = .ok (.aload_n 0, 1) := by decide +kernel
theorem dX0_mostKept_11 : decode cX0_mostKept 11 = .ok (.getfield 27, 3) := by decide +kernel
theorem dX0_mostKept_14 : decode cX0_mostKept 14 = .ok (.if_icmp .ge 20, 3) := by decide +kernel
theorem dX0_mostKept_17 : decode cX0_mostKept 17 = .ok (.iload_n 2, 1) := by decide +kernel
theorem dX0_mostKept_18 : decode cX0_mostKept 18 = .ok (.aload_n 0, 1) := by decide +kernel
theorem dX0_mostKept_19 : decode cX0_mostKept 19 = .ok (.getfield 9, 3) := by decide +kernel
theorem dX0_mostKept_22 : decode cX0_mostKept 22 = .ok (.iload_n 3, 1) := by decide +kernel
theorem dX0_mostKept_23 : decode cX0_mostKept 23 = .ok (.iaload, 1) := by decide +kernel
theorem dX0_mostKept_24 : decode cX0_mostKept 24 = .ok (.invokestatic 74, 3) := by decide +kernel
theorem dX0_mostKept_27 : decode cX0_mostKept 27 = .ok (.istore_n 2, 1) := by decide +kernel
theorem dX0_mostKept_28 : decode cX0_mostKept 28 = .ok (.iinc 3 1, 3) := by decide +kernel
theorem dX0_mostKept_31 : decode cX0_mostKept 31 = .ok (.goto (-27), 3) := by decide +kernel
theorem dX0_mostKept_34 : decode cX0_mostKept 34 = .ok (.iconst 0, 1) := by decide +kernel
theorem dX0_mostKept_35 : decode cX0_mostKept 35 = .ok (.istore_n 3, 1) := by decide +kernel
theorem dX0_mostKept_36 : decode cX0_mostKept 36 = .ok (.iconst 0, 1) := by decide +kernel
theorem dX0_mostKept_37 : decode cX0_mostKept 37 = .ok (.iload_n 1, 1) := by decide +kernel
theorem dX0_mostKept_38 : decode cX0_mostKept 38 = .ok (.iconst 1, 1) := by decide +kernel
theorem dX0_mostKept_39 : decode cX0_mostKept 39 = .ok (.iadd, 1) := by decide +kernel
theorem dX0_mostKept_40 : decode cX0_mostKept 40 = .ok (.invokestatic 74, 3) := by decide +kernel
theorem dX0_mostKept_43 : decode cX0_mostKept 43 = .ok (.istore 4, 2) := by decide +kernel
theorem dX0_mostKept_45 : decode cX0_mostKept 45 = .ok (.iload 4, 2) := by decide +kernel
theorem dX0_mostKept_47 : decode cX0_mostKept 47 = .ok (.aload_n 0, 1) := by decide +kernel
theorem dX0_mostKept_48 : decode cX0_mostKept 48 = .ok (.getfield 27, 3) := by decide +kernel
theorem dX0_mostKept_51 : decode cX0_mostKept 51 = .ok (.if_icmp .ge 21, 3) := by decide +kernel
theorem dX0_mostKept_54 : decode cX0_mostKept 54 = .ok (.iload_n 3, 1) := by decide +kernel
theorem dX0_mostKept_55 : decode cX0_mostKept 55 = .ok (.aload_n 0, 1) := by decide +kernel
theorem dX0_mostKept_56 : decode cX0_mostKept 56 = .ok (.getfield 9, 3) := by decide +kernel
theorem dX0_mostKept_59 : decode cX0_mostKept 59 = .ok (.iload 4, 2) := by decide +kernel
theorem dX0_mostKept_61 : decode cX0_mostKept 61 = .ok (.iaload, 1) := by decide +kernel
theorem dX0_mostKept_62 : decode cX0_mostKept 62 = .ok (.invokestatic 74, 3) := by decide +kernel
theorem dX0_mostKept_65 : decode cX0_mostKept 65 = .ok (.istore_n 3, 1) := by decide +kernel
theorem dX0_mostKept_66 : decode cX0_mostKept 66 = .ok (.iinc 4 1, 3) := by decide +kernel
theorem dX0_mostKept_69 : decode cX0_mostKept 69 = .ok (.goto (-24), 3) := by decide +kernel
theorem dX0_mostKept_72 : decode cX0_mostKept 72 = .ok (.iload_n 2, 1) := by decide +kernel
theorem dX0_mostKept_73 : decode cX0_mostKept 73 = .ok (.iload_n 3, 1) := by decide +kernel
theorem dX0_mostKept_74 : decode cX0_mostKept 74 = .ok (.invokestatic 56, 3) := by decide +kernel
theorem dX0_mostKept_77 : decode cX0_mostKept 77 = .ok (.ireturn, 1) := by decide +kernel
theorem hcX0_mostKept : yX0_mostKept.cls ≠ "java/lang/invoke/MethodHandle" ∧ yX0_mostKept.cls ≠ "java/lang/invoke/VarHandle" ∧ (parseMethodDescriptor yX0_mostKept.desc).map (fun d => d.parameters.length) = some 1 := ⟨by decide +kernel, by decide +kernel, by decide +kernel⟩
def fX0_mostKept_L4 (s0 : sg_M) (x1 : Int) (k34 : Int → Prop) : Nat → Int → Int → Prop
  | 0, _, _ => False
  | n_4 + 1, x2_4, x3_4 => ((x1 ≤ x3_4 → k34 x2_4) ∧ (¬ (x1 ≤ x3_4) → (((s0 32 3) ≤ x3_4 → k34 x2_4) ∧ (¬ ((s0 32 3) ≤ x3_4) → (0 ≤ x3_4 ∧ x3_4 < 60) ∧ sg_R (x3_4 + 1) ∧ (fX0_mostKept_L4 s0 x1 k34 n_4) (sg_max x2_4 (s0 33 x3_4)) (x3_4 + 1)))))
def fX0_mostKept_L45 (s0 : sg_M) (x2_34e4 : Int) (Q : Int → Prop) : Nat → Int → Int → Prop
  | 0, _, _ => False
  | n_45 + 1, x3_45, x4_45 => (((s0 32 3) ≤ x4_45 → Q (sg_min x2_34e4 x3_45)) ∧ (¬ ((s0 32 3) ≤ x4_45) → (0 ≤ x4_45 ∧ x4_45 < 60) ∧ sg_R (x4_45 + 1) ∧ (fX0_mostKept_L45 s0 x2_34e4 Q n_45) (sg_max x3_45 (s0 33 x4_45)) (x4_45 + 1)))
def fX0_mostKept (s0 : sg_M) (x1 : Int) (Q : Int → Prop) : Prop := (∃ n8 : Nat, fX0_mostKept_L4 s0 x1 (fun x2_34e4 => sg_R (x1 + 1) ∧ (∃ n16 : Nat, fX0_mostKept_L45 s0 x2_34e4 Q n16 0 (sg_max 0 (x1 + 1)))) n8 0 0)
set_option maxHeartbeats 4000000 in
set_option maxRecDepth 100000 in
theorem CX0_mostKept {l : Launch} {G : sg_G} {La : sg_L} {s0 : sg_M} (hst : sg_St La) {x1 : Int} (r1 : sg_R x1) {Q : Int → Prop} (hf : fX0_mostKept s0 x1 Q) : sg_C l G yX0_mostKept cX0_mostKept 5 (some .int) 1 0 0 La s0 [sg_r 32, sg_i x1] (sg_PI La s0 Q) := by
  refine sg_body (by decide +kernel) (Nat.le_of_ble_eq_true rfl) ?_
  intro p e s m args below meth c F hnm
  unfold fX0_mostKept at hf
  show sg_W p l e (sg_rm 1 0 0) s m args below meth c (MQ below (sg_Q (some .int) G La s.heap.size (sg_PI La s0 Q)) args s 0 0 (sg_A La s.heap.size)) 5 G (sg_A La s.heap.size) La s0 0 0 0 [(0, sg_r 32), (1, sg_i x1)] []
  refine gw_iconst F dX0_mostKept_0 ?_
  refine gw_istore_n F rfl (by decide) rfl dX0_mostKept_1 ?_
  refine gw_iconst F dX0_mostKept_2 ?_
  refine gw_istore_n F rfl (by decide) rfl dX0_mostKept_3 ?_
  have L4 : ∀ (k34 : Int → Prop) (hk34 : ∀ (x2_34e4 : Int), sg_R x2_34e4 → k34 x2_34e4 → sg_W p l e (sg_rm 1 0 0) s m args below meth c (MQ below (sg_Q (some .int) G La s.heap.size (sg_PI La s0 Q)) args s 0 0 (sg_A La s.heap.size)) 5 G (sg_A La s.heap.size) La s0 0 0 34 [(0, sg_r 32), (1, sg_i x1), (2, sg_i x2_34e4)] []), ∀ n_4 : Nat, ∀ (x2_4 : Int) (x3_4 : Int), sg_R x2_4 → sg_R x3_4 → fX0_mostKept_L4 s0 x1 k34 n_4 x2_4 x3_4 → sg_W p l e (sg_rm 1 0 0) s m args below meth c (MQ below (sg_Q (some .int) G La s.heap.size (sg_PI La s0 Q)) args s 0 0 (sg_A La s.heap.size)) 5 G (sg_A La s.heap.size) La s0 0 0 4 [(0, sg_r 32), (1, sg_i x1), (2, sg_i x2_4), (3, sg_i x3_4)] [] := by
    intro k34 hk34 n_4
    induction n_4 with
    | zero => intro x2_4 x3_4 r2_4 r3_4 hf; exact hf.elim
    | succ n_4 ih =>
      intro x2_4 x3_4 r2_4 r3_4 hf
      unfold fX0_mostKept_L4 at hf
      refine gw_iload_n F 3 rfl rfl dX0_mostKept_4 ?_
      refine gw_iload_n F 1 rfl rfl dX0_mostKept_5 ?_
      refine gw_icmp_ge F (tgt := 34) dX0_mostKept_6 (by decide) r3_4 r1 (fun c1 => ?_) (fun c1 => ?_)
      · have hf := hf.1 c1
        refine gw_sub [0, 1, 2] rfl ?_
        exact hk34 x2_4 r2_4 hf
      · have hf := hf.2 c1
        refine gw_iload_n F 3 rfl rfl dX0_mostKept_9 ?_
        refine gw_aload_n F 0 rfl rfl (by decide) dX0_mostKept_10 ?_
        refine gw_get0 F (so_32 hst) (by decide) rfl sg_lay_RX0 (j := 3) (by decide) rfl (host := "") (.inl kw_257) dX0_mostKept_11 (fun h2 => ?_)
        refine gw_icmp_ge F (tgt := 34) dX0_mostKept_14 (by decide) r3_4 h2 (fun c3 => ?_) (fun c3 => ?_)
        · have hf := hf.1 c3
          refine gw_sub [0, 1, 2] rfl ?_
          exact hk34 x2_4 r2_4 hf
        · have hf := hf.2 c3
          refine gw_iload_n F 2 rfl rfl dX0_mostKept_17 ?_
          refine gw_aload_n F 0 rfl rfl (by decide) dX0_mostKept_18 ?_
          refine gw_get3 F (so_32 hst) (by decide) rfl sg_lay_RX0 (j := 0) (by decide) (o1 := 33) (by first | rfl | omega) rfl (host := "") (.inl kw_252) dX0_mostKept_19 (fun h4 => ?_)
          refine gw_iload_n F 3 rfl rfl dX0_mostKept_22 ?_
          obtain ⟨⟨b50, b51⟩, hf⟩ := hf
          refine gw_iald F (sa_33 hst) b50 b51 dX0_mostKept_23 (fun h6 => ?_)
          refine gw_max F r2_4 h6 rfl kw_527 kw_max1 kw_math kw_max2 (Nat.le_of_ble_eq_true rfl) (by decide) (by decide) (by decide) (by decide) dX0_mostKept_24 ?_
          refine gw_istore_n F rfl (by decide) rfl dX0_mostKept_27 ?_
          refine gw_iinc F (z := (x3_4 + 1)) 3 rfl (by omega) (by decide) rfl dX0_mostKept_28 ?_
          refine gw_goto F (tgt := 4) dX0_mostKept_31 (by decide) ?_
          obtain ⟨g7, hf⟩ := hf
          refine gw_sub [2, 3, 1, 0] rfl ?_
          exact ih (sg_max x2_4 (s0 33 x3_4)) (x3_4 + 1) (sg_max_R r2_4 h6) g7 hf
  obtain ⟨n8, hf⟩ := hf
  refine gw_sub [2, 3, 1, 0] rfl ?_
  refine L4 _ (fun x2_34e4 r2_34e4 hf => ?_) n8 0 0 (by decide) (by decide) hf
  refine gw_iconst F dX0_mostKept_34 ?_
  refine gw_istore_n F rfl (by decide) rfl dX0_mostKept_35 ?_
  refine gw_iconst F dX0_mostKept_36 ?_
  refine gw_iload_n F 2 rfl rfl dX0_mostKept_37 ?_
  refine gw_iconst F dX0_mostKept_38 ?_
  refine gw_iadd F rfl dX0_mostKept_39 ?_
  obtain ⟨g9, hf⟩ := hf
  refine gw_max F (by decide) g9 rfl kw_527 kw_max1 kw_math kw_max2 (Nat.le_of_ble_eq_true rfl) (by decide) (by decide) (by decide) (by decide) dX0_mostKept_40 ?_
  refine gw_istore F (by decide) rfl dX0_mostKept_43 ?_
  have L45 : ∀ n_45 : Nat, ∀ (x3_45 : Int) (x4_45 : Int), sg_R x3_45 → sg_R x4_45 → fX0_mostKept_L45 s0 x2_34e4 Q n_45 x3_45 x4_45 → sg_W p l e (sg_rm 1 0 0) s m args below meth c (MQ below (sg_Q (some .int) G La s.heap.size (sg_PI La s0 Q)) args s 0 0 (sg_A La s.heap.size)) 5 G (sg_A La s.heap.size) La s0 0 0 45 [(0, sg_r 32), (2, sg_i x2_34e4), (3, sg_i x3_45), (4, sg_i x4_45)] [] := by
    intro n_45
    induction n_45 with
    | zero => intro x3_45 x4_45 r3_45 r4_45 hf; exact hf.elim
    | succ n_45 ih =>
      intro x3_45 x4_45 r3_45 r4_45 hf
      unfold fX0_mostKept_L45 at hf
      refine gw_iload F 3 rfl dX0_mostKept_45 ?_
      refine gw_aload_n F 0 rfl rfl (by decide) dX0_mostKept_47 ?_
      refine gw_get0 F (so_32 hst) (by decide) rfl sg_lay_RX0 (j := 3) (by decide) rfl (host := "") (.inl kw_257) dX0_mostKept_48 (fun h10 => ?_)
      refine gw_icmp_ge F (tgt := 72) dX0_mostKept_51 (by decide) r4_45 h10 (fun c11 => ?_) (fun c11 => ?_)
      · have hf := hf.1 c11
        refine gw_iload_n F 1 rfl rfl dX0_mostKept_72 ?_
        refine gw_iload_n F 2 rfl rfl dX0_mostKept_73 ?_
        refine gw_min F r2_34e4 r3_45 rfl kw_507 kw_min1 kw_math kw_min2 (Nat.le_of_ble_eq_true rfl) (by decide) (by decide) (by decide) (by decide) dX0_mostKept_74 ?_
        exact gr_PI F (sg_min_R r2_34e4 r3_45) hf (by decide) (by decide) dX0_mostKept_77
      · have hf := hf.2 c11
        refine gw_iload_n F 2 rfl rfl dX0_mostKept_54 ?_
        refine gw_aload_n F 0 rfl rfl (by decide) dX0_mostKept_55 ?_
        refine gw_get3 F (so_32 hst) (by decide) rfl sg_lay_RX0 (j := 0) (by decide) (o1 := 33) (by first | rfl | omega) rfl (host := "") (.inl kw_252) dX0_mostKept_56 (fun h12 => ?_)
        refine gw_iload F 3 rfl dX0_mostKept_59 ?_
        obtain ⟨⟨b130, b131⟩, hf⟩ := hf
        refine gw_iald F (sa_33 hst) b130 b131 dX0_mostKept_61 (fun h14 => ?_)
        refine gw_max F r3_45 h14 rfl kw_527 kw_max1 kw_math kw_max2 (Nat.le_of_ble_eq_true rfl) (by decide) (by decide) (by decide) (by decide) dX0_mostKept_62 ?_
        refine gw_istore_n F rfl (by decide) rfl dX0_mostKept_65 ?_
        refine gw_iinc F (z := (x4_45 + 1)) 3 rfl (by omega) (by decide) rfl dX0_mostKept_66 ?_
        refine gw_goto F (tgt := 45) dX0_mostKept_69 (by decide) ?_
        obtain ⟨g15, hf⟩ := hf
        refine gw_sub [2, 3, 1, 0] rfl ?_
        exact ih (sg_max x3_45 (s0 33 x4_45)) (x4_45 + 1) (sg_max_R r3_45 h14) g15 hf
  obtain ⟨n16, hf⟩ := hf
  refine gw_sub [2, 4, 1, 0] rfl ?_
  refine L45   n16 0 (sg_max 0 (x1 + 1)) (by decide) (sg_max_R (by decide) g9) hf

theorem dX0_rings_0 : decode cX0_rings 0 = .ok (.iconst 0, 1) := by decide +kernel
theorem dX0_rings_1 : decode cX0_rings 1 = .ok (.istore 4, 2) := by decide +kernel
theorem dX0_rings_3 : decode cX0_rings 3 = .ok (.iconst 0, 1) := by decide +kernel
theorem dX0_rings_4 : decode cX0_rings 4 = .ok (.istore 5, 2) := by decide +kernel
theorem dX0_rings_6 : decode cX0_rings 6 = .ok (.iload 5, 2) := by decide +kernel
theorem dX0_rings_8 : decode cX0_rings 8 = .ok (.iload_n 1, 1) := by decide +kernel
theorem dX0_rings_9 : decode cX0_rings 9 = .ok (.if_icmp .ge 37, 3) := by decide +kernel
theorem dX0_rings_12 : decode cX0_rings 12 = .ok (.iload 5, 2) := by decide +kernel
theorem dX0_rings_14 : decode cX0_rings 14 = .ok (.aload_n 0, 1) := by decide +kernel
theorem dX0_rings_15 : decode cX0_rings 15 = .ok (.getfield 27, 3) := by decide +kernel
theorem dX0_rings_18 : decode cX0_rings 18 = .ok (.if_icmp .ge 28, 3) := by decide +kernel
theorem dX0_rings_21 : decode cX0_rings 21 = .ok (.iload 4, 2) := by decide +kernel
theorem dX0_rings_23 : decode cX0_rings 23 = .ok (.aload_n 0, 1) := by decide +kernel
theorem dX0_rings_24 : decode cX0_rings 24 = .ok (.getfield 15, 3) := by decide +kernel
theorem dX0_rings_27 : decode cX0_rings 27 = .ok (.iload 5, 2) := by decide +kernel
theorem dX0_rings_29 : decode cX0_rings 29 = .ok (.iaload, 1) := by decide +kernel
theorem dX0_rings_30 : decode cX0_rings 30 = .ok (.iload_n 3, 1) := by decide +kernel
theorem dX0_rings_31 : decode cX0_rings 31 = .ok (.iload_n 3, 1) := by decide +kernel
theorem dX0_rings_32 : decode cX0_rings 32 = .ok (.imul, 1) := by decide +kernel
theorem dX0_rings_33 : decode cX0_rings 33 = .ok (.isub, 1) := by decide +kernel
theorem dX0_rings_34 : decode cX0_rings 34 = .ok (.invokestatic 144, 3) := by decide +kernel
theorem dX0_rings_37 : decode cX0_rings 37 = .ok (.iadd, 1) := by decide +kernel
theorem dX0_rings_38 : decode cX0_rings 38 = .ok (.istore 4, 2) := by decide +kernel
theorem dX0_rings_40 : decode cX0_rings 40 = .ok (.iinc 5 1, 3) := by decide +kernel
theorem dX0_rings_43 : decode cX0_rings 43 = .ok (.goto (-37), 3) := by decide +kernel
theorem dX0_rings_46 : decode cX0_rings 46 = .ok (.iconst 0, 1) := by decide +kernel
theorem dX0_rings_47 : decode cX0_rings 47 = .ok (.istore 5, 2) := by decide +kernel
theorem dX0_rings_49 : decode cX0_rings 49 = .ok (.iconst 0, 1) := by decide +kernel
theorem dX0_rings_50 : decode cX0_rings 50 = .ok (.iload_n 2, 1) := by decide +kernel
theorem dX0_rings_51 : decode cX0_rings 51 = .ok (.iconst 1, 1) := by decide +kernel
theorem dX0_rings_52 : decode cX0_rings 52 = .ok (.iadd, 1) := by decide +kernel
theorem dX0_rings_53 : decode cX0_rings 53 = .ok (.invokestatic 74, 3) := by decide +kernel
theorem dX0_rings_56 : decode cX0_rings 56 = .ok (.istore 6, 2) := by decide +kernel
theorem dX0_rings_58 : decode cX0_rings 58 = .ok (.iload 6, 2) := by decide +kernel
theorem dX0_rings_60 : decode cX0_rings 60 = .ok (.aload_n 0, 1) := by decide +kernel
theorem dX0_rings_61 : decode cX0_rings 61 = .ok (.getfield 27, 3) := by decide +kernel
theorem dX0_rings_64 : decode cX0_rings 64 = .ok (.if_icmp .ge 28, 3) := by decide +kernel
theorem dX0_rings_67 : decode cX0_rings 67 = .ok (.iload 5, 2) := by decide +kernel
theorem dX0_rings_69 : decode cX0_rings 69 = .ok (.aload_n 0, 1) := by decide +kernel
theorem dX0_rings_70 : decode cX0_rings 70 = .ok (.getfield 15, 3) := by decide +kernel
theorem dX0_rings_73 : decode cX0_rings 73 = .ok (.iload 6, 2) := by decide +kernel
theorem dX0_rings_75 : decode cX0_rings 75 = .ok (.iaload, 1) := by decide +kernel
theorem dX0_rings_76 : decode cX0_rings 76 = .ok (.iload_n 3, 1) := by decide +kernel
theorem dX0_rings_77 : decode cX0_rings 77 = .ok (.iload_n 3, 1) := by decide +kernel
theorem dX0_rings_78 : decode cX0_rings 78 = .ok (.imul, 1) := by decide +kernel
theorem dX0_rings_79 : decode cX0_rings 79 = .ok (.isub, 1) := by decide +kernel
theorem dX0_rings_80 : decode cX0_rings 80 = .ok (.invokestatic 144, 3) := by decide +kernel
theorem dX0_rings_83 : decode cX0_rings 83 = .ok (.iadd, 1) := by decide +kernel
theorem dX0_rings_84 : decode cX0_rings 84 = .ok (.istore 5, 2) := by decide +kernel
theorem dX0_rings_86 : decode cX0_rings 86 = .ok (.iinc 6 1, 3) := by decide +kernel
theorem dX0_rings_89 : decode cX0_rings 89 = .ok (.goto (-31), 3) := by decide +kernel
theorem dX0_rings_92 : decode cX0_rings 92 = .ok (.iload 4, 2) := by decide +kernel
theorem dX0_rings_94 : decode cX0_rings 94 = .ok (.iload 5, 2) := by decide +kernel
theorem dX0_rings_96 : decode cX0_rings 96 = .ok (.invokestatic 56, 3) := by decide +kernel
theorem dX0_rings_99 : decode cX0_rings 99 = .ok (.ireturn, 1) := by decide +kernel
theorem hcX0_rings : yX0_rings.cls ≠ "java/lang/invoke/MethodHandle" ∧ yX0_rings.cls ≠ "java/lang/invoke/VarHandle" ∧ (parseMethodDescriptor yX0_rings.desc).map (fun d => d.parameters.length) = some 3 := ⟨by decide +kernel, by decide +kernel, by decide +kernel⟩
def fX0_rings_L6 (s0 : sg_M) (x1 : Int) (x3 : Int) (k46 : Int → Prop) : Nat → Int → Int → Prop
  | 0, _, _ => False
  | n_6 + 1, x4_6, x5_6 => ((x1 ≤ x5_6 → k46 x4_6) ∧ (¬ (x1 ≤ x5_6) → (((s0 32 3) ≤ x5_6 → k46 x4_6) ∧ (¬ ((s0 32 3) ≤ x5_6) → (0 ≤ x5_6 ∧ x5_6 < 60) ∧ sg_R ((s0 34 x5_6) - (x3 * x3)) ∧ fX0_root ((s0 34 x5_6) - (x3 * x3)) (fun u8 => sg_R (x4_6 + u8) ∧ sg_R (x5_6 + 1) ∧ (fX0_rings_L6 s0 x1 x3 k46 n_6) (x4_6 + u8) (x5_6 + 1))))))
def fX0_rings_L58 (s0 : sg_M) (x3 : Int) (x4_46e6 : Int) (Q : Int → Prop) : Nat → Int → Int → Prop
  | 0, _, _ => False
  | n_58 + 1, x5_58, x6_58 => (((s0 32 3) ≤ x6_58 → Q (sg_min x4_46e6 x5_58)) ∧ (¬ ((s0 32 3) ≤ x6_58) → (0 ≤ x6_58 ∧ x6_58 < 60) ∧ sg_R ((s0 34 x6_58) - (x3 * x3)) ∧ fX0_root ((s0 34 x6_58) - (x3 * x3)) (fun u20 => sg_R (x5_58 + u20) ∧ sg_R (x6_58 + 1) ∧ (fX0_rings_L58 s0 x3 x4_46e6 Q n_58) (x5_58 + u20) (x6_58 + 1))))
def fX0_rings (s0 : sg_M) (x1 : Int) (x2 : Int) (x3 : Int) (Q : Int → Prop) : Prop := (∃ n12 : Nat, fX0_rings_L6 s0 x1 x3 (fun x4_46e6 => sg_R (x2 + 1) ∧ (∃ n24 : Nat, fX0_rings_L58 s0 x3 x4_46e6 Q n24 0 (sg_max 0 (x2 + 1)))) n12 0 0)
set_option maxHeartbeats 4000000 in
set_option maxRecDepth 100000 in
theorem CX0_rings {l : Launch} {G : sg_G} {La : sg_L} {s0 : sg_M} (hst : sg_St La) {x1 : Int} (r1 : sg_R x1) {x2 : Int} (r2 : sg_R x2) {x3 : Int} (r3 : sg_R x3) {Q : Int → Prop} (hf : fX0_rings s0 x1 x2 x3 Q) : sg_C l G yX0_rings cX0_rings 7 (some .int) 2 0 0 La s0 [sg_r 32, sg_i x1, sg_i x2, sg_i x3] (sg_PI La s0 Q) := by
  refine sg_body (by decide +kernel) (Nat.le_of_ble_eq_true rfl) ?_
  intro p e s m args below meth c F hnm
  unfold fX0_rings at hf
  show sg_W p l e (sg_rm 2 0 0) s m args below meth c (MQ below (sg_Q (some .int) G La s.heap.size (sg_PI La s0 Q)) args s 0 0 (sg_A La s.heap.size)) 7 G (sg_A La s.heap.size) La s0 0 0 0 [(0, sg_r 32), (1, sg_i x1), (2, sg_i x2), (3, sg_i x3)] []
  refine gw_iconst F dX0_rings_0 ?_
  refine gw_istore F (by decide) rfl dX0_rings_1 ?_
  refine gw_iconst F dX0_rings_3 ?_
  refine gw_istore F (by decide) rfl dX0_rings_4 ?_
  have L6 : ∀ (k46 : Int → Prop) (hk46 : ∀ (x4_46e6 : Int), sg_R x4_46e6 → k46 x4_46e6 → sg_W p l e (sg_rm 2 0 0) s m args below meth c (MQ below (sg_Q (some .int) G La s.heap.size (sg_PI La s0 Q)) args s 0 0 (sg_A La s.heap.size)) 7 G (sg_A La s.heap.size) La s0 0 0 46 [(0, sg_r 32), (2, sg_i x2), (3, sg_i x3), (4, sg_i x4_46e6)] []), ∀ n_6 : Nat, ∀ (x4_6 : Int) (x5_6 : Int), sg_R x4_6 → sg_R x5_6 → fX0_rings_L6 s0 x1 x3 k46 n_6 x4_6 x5_6 → sg_W p l e (sg_rm 2 0 0) s m args below meth c (MQ below (sg_Q (some .int) G La s.heap.size (sg_PI La s0 Q)) args s 0 0 (sg_A La s.heap.size)) 7 G (sg_A La s.heap.size) La s0 0 0 6 [(0, sg_r 32), (1, sg_i x1), (2, sg_i x2), (3, sg_i x3), (4, sg_i x4_6), (5, sg_i x5_6)] [] := by
    intro k46 hk46 n_6
    induction n_6 with
    | zero => intro x4_6 x5_6 r4_6 r5_6 hf; exact hf.elim
    | succ n_6 ih =>
      intro x4_6 x5_6 r4_6 r5_6 hf
      unfold fX0_rings_L6 at hf
      refine gw_iload F 5 rfl dX0_rings_6 ?_
      refine gw_iload_n F 1 rfl rfl dX0_rings_8 ?_
      refine gw_icmp_ge F (tgt := 46) dX0_rings_9 (by decide) r5_6 r1 (fun c1 => ?_) (fun c1 => ?_)
      · have hf := hf.1 c1
        refine gw_sub [0, 2, 3, 4] rfl ?_
        exact hk46 x4_6 r4_6 hf
      · have hf := hf.2 c1
        refine gw_iload F 5 rfl dX0_rings_12 ?_
        refine gw_aload_n F 0 rfl rfl (by decide) dX0_rings_14 ?_
        refine gw_get0 F (so_32 hst) (by decide) rfl sg_lay_RX0 (j := 3) (by decide) rfl (host := "") (.inl kw_257) dX0_rings_15 (fun h2 => ?_)
        refine gw_icmp_ge F (tgt := 46) dX0_rings_18 (by decide) r5_6 h2 (fun c3 => ?_) (fun c3 => ?_)
        · have hf := hf.1 c3
          refine gw_sub [0, 2, 3, 4] rfl ?_
          exact hk46 x4_6 r4_6 hf
        · have hf := hf.2 c3
          refine gw_iload F 4 rfl dX0_rings_21 ?_
          refine gw_aload_n F 0 rfl rfl (by decide) dX0_rings_23 ?_
          refine gw_get3 F (so_32 hst) (by decide) rfl sg_lay_RX0 (j := 1) (by decide) (o1 := 34) (by first | rfl | omega) rfl (host := "") (.inl kw_253) dX0_rings_24 (fun h4 => ?_)
          refine gw_iload F 5 rfl dX0_rings_27 ?_
          obtain ⟨⟨b50, b51⟩, hf⟩ := hf
          refine gw_iald F (sa_34 hst) b50 b51 dX0_rings_29 (fun h6 => ?_)
          refine gw_iload_n F 3 rfl rfl dX0_rings_30 ?_
          refine gw_iload_n F 3 rfl rfl dX0_rings_31 ?_
          refine gw_imul F rfl dX0_rings_32 ?_
          refine gw_isub F rfl dX0_rings_33 ?_
          obtain ⟨g7, hf⟩ := hf
          refine gk_PI F (gc_S F (S := [sg_i x4_6]) (As := [sg_i ((s0 34 x5_6) - (x3 * x3))]) (CX0_root g7 hf) kw_565 kw_100 kw_563 kw_564 hcX0_root ⟨by decide, by decide⟩ rfl rfl (Nat.le_of_ble_eq_true rfl) ⟨by decide, by decide⟩ dX0_rings_34) (fun u8 h9 hf => ?_)
          refine gw_iadd F rfl dX0_rings_37 ?_
          refine gw_istore F (by decide) rfl dX0_rings_38 ?_
          refine gw_iinc F (z := (x5_6 + 1)) 5 rfl (by omega) (by decide) rfl dX0_rings_40 ?_
          refine gw_goto F (tgt := 6) dX0_rings_43 (by decide) ?_
          obtain ⟨g10, hf⟩ := hf
          obtain ⟨g11, hf⟩ := hf
          refine gw_sub [2, 3, 4, 5, 1, 0] rfl ?_
          exact ih (x4_6 + u8) (x5_6 + 1) g10 g11 hf
  obtain ⟨n12, hf⟩ := hf
  refine gw_sub [2, 3, 4, 5, 1, 0] rfl ?_
  refine L6 _ (fun x4_46e6 r4_46e6 hf => ?_) n12 0 0 (by decide) (by decide) hf
  refine gw_iconst F dX0_rings_46 ?_
  refine gw_istore F (by decide) rfl dX0_rings_47 ?_
  refine gw_iconst F dX0_rings_49 ?_
  refine gw_iload_n F 2 rfl rfl dX0_rings_50 ?_
  refine gw_iconst F dX0_rings_51 ?_
  refine gw_iadd F rfl dX0_rings_52 ?_
  obtain ⟨g13, hf⟩ := hf
  refine gw_max F (by decide) g13 rfl kw_527 kw_max1 kw_math kw_max2 (Nat.le_of_ble_eq_true rfl) (by decide) (by decide) (by decide) (by decide) dX0_rings_53 ?_
  refine gw_istore F (by decide) rfl dX0_rings_56 ?_
  have L58 : ∀ n_58 : Nat, ∀ (x5_58 : Int) (x6_58 : Int), sg_R x5_58 → sg_R x6_58 → fX0_rings_L58 s0 x3 x4_46e6 Q n_58 x5_58 x6_58 → sg_W p l e (sg_rm 2 0 0) s m args below meth c (MQ below (sg_Q (some .int) G La s.heap.size (sg_PI La s0 Q)) args s 0 0 (sg_A La s.heap.size)) 7 G (sg_A La s.heap.size) La s0 0 0 58 [(0, sg_r 32), (3, sg_i x3), (4, sg_i x4_46e6), (5, sg_i x5_58), (6, sg_i x6_58)] [] := by
    intro n_58
    induction n_58 with
    | zero => intro x5_58 x6_58 r5_58 r6_58 hf; exact hf.elim
    | succ n_58 ih =>
      intro x5_58 x6_58 r5_58 r6_58 hf
      unfold fX0_rings_L58 at hf
      refine gw_iload F 4 rfl dX0_rings_58 ?_
      refine gw_aload_n F 0 rfl rfl (by decide) dX0_rings_60 ?_
      refine gw_get0 F (so_32 hst) (by decide) rfl sg_lay_RX0 (j := 3) (by decide) rfl (host := "") (.inl kw_257) dX0_rings_61 (fun h14 => ?_)
      refine gw_icmp_ge F (tgt := 92) dX0_rings_64 (by decide) r6_58 h14 (fun c15 => ?_) (fun c15 => ?_)
      · have hf := hf.1 c15
        refine gw_iload F 2 rfl dX0_rings_92 ?_
        refine gw_iload F 3 rfl dX0_rings_94 ?_
        refine gw_min F r4_46e6 r5_58 rfl kw_507 kw_min1 kw_math kw_min2 (Nat.le_of_ble_eq_true rfl) (by decide) (by decide) (by decide) (by decide) dX0_rings_96 ?_
        exact gr_PI F (sg_min_R r4_46e6 r5_58) hf (by decide) (by decide) dX0_rings_99
      · have hf := hf.2 c15
        refine gw_iload F 3 rfl dX0_rings_67 ?_
        refine gw_aload_n F 0 rfl rfl (by decide) dX0_rings_69 ?_
        refine gw_get3 F (so_32 hst) (by decide) rfl sg_lay_RX0 (j := 1) (by decide) (o1 := 34) (by first | rfl | omega) rfl (host := "") (.inl kw_253) dX0_rings_70 (fun h16 => ?_)
        refine gw_iload F 4 rfl dX0_rings_73 ?_
        obtain ⟨⟨b170, b171⟩, hf⟩ := hf
        refine gw_iald F (sa_34 hst) b170 b171 dX0_rings_75 (fun h18 => ?_)
        refine gw_iload_n F 1 rfl rfl dX0_rings_76 ?_
        refine gw_iload_n F 1 rfl rfl dX0_rings_77 ?_
        refine gw_imul F rfl dX0_rings_78 ?_
        refine gw_isub F rfl dX0_rings_79 ?_
        obtain ⟨g19, hf⟩ := hf
        refine gk_PI F (gc_S F (S := [sg_i x5_58]) (As := [sg_i ((s0 34 x6_58) - (x3 * x3))]) (CX0_root g19 hf) kw_565 kw_100 kw_563 kw_564 hcX0_root ⟨by decide, by decide⟩ rfl rfl (Nat.le_of_ble_eq_true rfl) ⟨by decide, by decide⟩ dX0_rings_80) (fun u20 h21 hf => ?_)
        refine gw_iadd F rfl dX0_rings_83 ?_
        refine gw_istore F (by decide) rfl dX0_rings_84 ?_
        refine gw_iinc F (z := (x6_58 + 1)) 4 rfl (by omega) (by decide) rfl dX0_rings_86 ?_
        refine gw_goto F (tgt := 58) dX0_rings_89 (by decide) ?_
        obtain ⟨g22, hf⟩ := hf
        obtain ⟨g23, hf⟩ := hf
        refine gw_sub [2, 3, 4, 1, 0] rfl ?_
        exact ih (x5_58 + u20) (x6_58 + 1) g22 g23 hf
  obtain ⟨n24, hf⟩ := hf
  refine gw_sub [2, 4, 5, 1, 0] rfl ?_
  refine L58   n24 0 (sg_max 0 (x2 + 1)) (by decide) (sg_max_R (by decide) g13) hf

theorem dX0_listen_0 : decode cX0_listen 0 = .ok (.aload_n 0, 1) := by decide +kernel
theorem dX0_listen_1 : decode cX0_listen 1 = .ok (.iconst 0, 1) := by decide +kernel
theorem dX0_listen_2 : decode cX0_listen 2 = .ok (.putfield 40, 3) := by decide +kernel
theorem dX0_listen_5 : decode cX0_listen 5 = .ok (.aload_n 0, 1) := by decide +kernel
theorem dX0_listen_6 : decode cX0_listen 6 = .ok (.bipush 99, 2) := by decide +kernel
theorem dX0_listen_8 : decode cX0_listen 8 = .ok (.putfield 43, 3) := by decide +kernel
theorem dX0_listen_11 : decode cX0_listen 11 = .ok (.aload_n 0, 1) := by decide +kernel
theorem dX0_listen_12 : decode cX0_listen 12 = .ok (.iconst 0, 1) := by decide +kernel
theorem dX0_listen_13 : decode cX0_listen 13 = .ok (.putfield 46, 3) := by decide +kernel
theorem dX0_listen_16 : decode cX0_listen 16 = .ok (.aload_n 0, 1) := by decide +kernel
theorem dX0_listen_17 : decode cX0_listen 17 = .ok (.iconst 0, 1) := by decide +kernel
theorem dX0_listen_18 : decode cX0_listen 18 = .ok (.putfield 49, 3) := by decide +kernel
theorem dX0_listen_21 : decode cX0_listen 21 = .ok (.aload_n 0, 1) := by decide +kernel
theorem dX0_listen_22 : decode cX0_listen 22 = .ok (.getfield 34, 3) := by decide +kernel
theorem dX0_listen_25 : decode cX0_listen 25 = .ok (.iconst (-1), 1) := by decide +kernel
theorem dX0_listen_26 : decode cX0_listen 26 = .ok (.if_icmp .eq 4, 3) := by decide +kernel
theorem dX0_listen_29 : decode cX0_listen 29 = .ok (.return_, 1) := by decide +kernel
theorem dX0_listen_30 : decode cX0_listen 30 = .ok (.iconst (-1), 1) := by decide +kernel
theorem dX0_listen_31 : decode cX0_listen 31 = .ok (.istore_n 1, 1) := by decide +kernel
theorem dX0_listen_32 : decode cX0_listen 32 = .ok (.iconst 0, 1) := by decide +kernel
theorem dX0_listen_33 : decode cX0_listen 33 = .ok (.istore_n 2, 1) := by decide +kernel
theorem dX0_listen_34 : decode cX0_listen 34 = .ok (.iload_n 2, 1) := by decide +kernel
theorem dX0_listen_35 : decode cX0_listen 35 = .ok (.aload_n 0, 1) := by decide +kernel
theorem dX0_listen_36 : decode cX0_listen 36 = .ok (.getfield 23, 3) := by decide +kernel
theorem dX0_listen_39 : decode cX0_listen 39 = .ok (.getfield 90, 3) := by decide +kernel
theorem dX0_listen_42 : decode cX0_listen 42 = .ok (.if_icmp .ge 107, 3) := by decide +kernel
theorem dX0_listen_45 : decode cX0_listen 45 = .ok (.aload_n 0, 1) := by decide +kernel
theorem dX0_listen_46 : decode cX0_listen 46 = .ok (.getfield 23, 3) := by decide +kernel
theorem dX0_listen_49 : decode cX0_listen 49 = .ok (.iload_n 2, 1) := by decide +kernel
theorem dX0_listen_50 : decode cX0_listen 50 = .ok (.invokevirtual 91, 3) := by decide +kernel
theorem dX0_listen_53 : decode cX0_listen 53 = .ok (.istore_n 3, 1) := by decide +kernel
theorem dX0_listen_54 : decode cX0_listen 54 = .ok (.aload_n 0, 1) := by decide +kernel
theorem dX0_listen_55 : decode cX0_listen 55 = .ok (.iload_n 3, 1) := by decide +kernel
theorem dX0_listen_56 : decode cX0_listen 56 = .ok (.aload_n 0, 1) := by decide +kernel
theorem dX0_listen_57 : decode cX0_listen 57 = .ok (.getfield 31, 3) := by decide +kernel
theorem dX0_listen_60 : decode cX0_listen 60 = .ok (.aload_n 0, 1) := by decide +kernel
theorem dX0_listen_61 : decode cX0_listen 61 = .ok (.iload_n 3, 1) := by decide +kernel
theorem dX0_listen_62 : decode cX0_listen 62 = .ok (.invokevirtual 133, 3) := by decide +kernel
theorem dX0_listen_65 : decode cX0_listen 65 = .ok (.invokevirtual 94, 3) := by decide +kernel
theorem dX0_listen_68 : decode cX0_listen 68 = .ok (.istore 4, 2) := by decide +kernel
theorem dX0_listen_70 : decode cX0_listen 70 = .ok (.iload 4, 2) := by decide +kernel
theorem dX0_listen_72 : decode cX0_listen 72 = .ok (.ifCond .le 71, 3) := by decide +kernel
theorem dX0_listen_75 : decode cX0_listen 75 = .ok (.aload_n 0, 1) := by decide +kernel
theorem dX0_listen_76 : decode cX0_listen 76 = .ok (.iload_n 3, 1) := by decide +kernel
theorem dX0_listen_77 : decode cX0_listen 77 = .ok (.iload 4, 2) := by decide +kernel
theorem dX0_listen_79 : decode cX0_listen 79 = .ok (.invokevirtual 102, 3) := by decide +kernel
theorem dX0_listen_82 : decode cX0_listen 82 = .ok (.istore 5, 2) := by decide +kernel
theorem dX0_listen_84 : decode cX0_listen 84 = .ok (.aload_n 0, 1) := by decide +kernel
theorem dX0_listen_85 : decode cX0_listen 85 = .ok (.iload_n 3, 1) := by decide +kernel
theorem dX0_listen_86 : decode cX0_listen 86 = .ok (.iload 4, 2) := by decide +kernel
theorem dX0_listen_88 : decode cX0_listen 88 = .ok (.invokevirtual 108, 3) := by decide +kernel
theorem dX0_listen_91 : decode cX0_listen 91 = .ok (.istore 6, 2) := by decide +kernel
theorem dX0_listen_93 : decode cX0_listen 93 = .ok (.aload_n 0, 1) := by decide +kernel
theorem dX0_listen_94 : decode cX0_listen 94 = .ok (.iload 5, 2) := by decide +kernel
theorem dX0_listen_96 : decode cX0_listen 96 = .ok (.iload 6, 2) := by decide +kernel
theorem dX0_listen_98 : decode cX0_listen 98 = .ok (.iload 4, 2) := by decide +kernel
theorem dX0_listen_100 : decode cX0_listen 100 = .ok (.invokevirtual 124, 3) := by decide +kernel
theorem dX0_listen_103 : decode cX0_listen 103 = .ok (.istore 7, 2) := by decide +kernel
theorem dX0_listen_105 : decode cX0_listen 105 = .ok (.iload 7, 2) := by decide +kernel
theorem dX0_listen_107 : decode cX0_listen 107 = .ok (.iload_n 1, 1) := by decide +kernel
theorem dX0_listen_108 : decode cX0_listen 108 = .ok (.if_icmp .le 35, 3) := by decide +kernel
theorem dX0_listen_111 : decode cX0_listen 111 = .ok (.iload 7, 2) := by decide +kernel
theorem dX0_listen_113 : decode cX0_listen 113 = .ok (.istore_n 1, 1) := by decide +kernel
theorem dX0_listen_114 : decode cX0_listen 114 = .ok (.aload_n 0, 1) := by decide +kernel
theorem dX0_listen_115 : decode cX0_listen 115 = .ok (.iload 4, 2) := by decide +kernel
theorem dX0_listen_117 : decode cX0_listen 117 = .ok (.putfield 40, 3) := by decide +kernel
theorem dX0_listen_120 : decode cX0_listen 120 = .ok (.aload_n 0, 1) := by decide +kernel
theorem dX0_listen_121 : decode cX0_listen 121 = .ok (.iload_n 3, 1) := by decide +kernel
theorem dX0_listen_122 : decode cX0_listen 122 = .ok (.putfield 43, 3) := by decide +kernel
theorem dX0_listen_125 : decode cX0_listen 125 = .ok (.aload_n 0, 1) := by decide +kernel
theorem dX0_listen_126 : decode cX0_listen 126 = .ok (.iload 7, 2) := by decide +kernel
theorem dX0_listen_128 : decode cX0_listen 128 = .ok (.putfield 46, 3) := by decide +kernel
theorem dX0_listen_131 : decode cX0_listen 131 = .ok (.aload_n 0, 1) := by decide +kernel
theorem dX0_listen_132 : decode cX0_listen 132 = .ok (.aload_n 0, 1) := by decide +kernel
theorem dX0_listen_133 : decode cX0_listen 133 = .ok (.iload 5, 2) := by decide +kernel
theorem dX0_listen_135 : decode cX0_listen 135 = .ok (.iload 6, 2) := by decide +kernel
theorem dX0_listen_137 : decode cX0_listen 137 = .ok (.invokevirtual 117, 3) := by decide +kernel
theorem dX0_listen_140 : decode cX0_listen 140 = .ok (.putfield 49, 3) := by decide +kernel
theorem dX0_listen_143 : decode cX0_listen 143 = .ok (.iinc 2 1, 3) := by decide +kernel
theorem dX0_listen_146 : decode cX0_listen 146 = .ok (.goto (-112), 3) := by decide +kernel
theorem dX0_listen_149 : decode cX0_listen 149 = .ok (.return_, 1) := by decide +kernel
theorem hcX0_listen : yX0_listen.cls ≠ "java/lang/invoke/MethodHandle" ∧ yX0_listen.cls ≠ "java/lang/invoke/VarHandle" ∧ (parseMethodDescriptor yX0_listen.desc).map (fun d => d.parameters.length) = some 0 := ⟨by decide +kernel, by decide +kernel, by decide +kernel⟩
def fX0_listen_j143 (x2_34 : Int) (k34 : sg_M → Int → Int → Prop) (s_143 : sg_M) (x1_143 : Int) : Prop := sg_R (x2_34 + 1) ∧ k34 s_143 x1_143 (x2_34 + 1)
def fX0_listen_L34 (La : sg_L) (Q : sg_M → Prop) : Nat → sg_M → Int → Int → Prop
  | 0, _, _, _ => False
  | n_34 + 1, s_34, x1_34, x2_34 => (((s_34 35 1) ≤ x2_34 → Q s_34) ∧ (¬ ((s_34 35 1) ≤ x2_34) → fX4_at La s_34 35 x2_34 (fun u15 => fX0_mostKept s_34 u15 (fun u18 => fX0_leastTone s_34 u15 (s_34 32 4) u18 (fun u20 => ((u20 ≤ 0 → (fX0_listen_j143 x2_34 (fX0_listen_L34 La Q n_34)) s_34 x1_34) ∧ (¬ (u20 ≤ 0) → fX0_firstOfRun s_34 u15 u20 (fun u24 => fX0_lastOfRun s_34 u15 u20 (fun u26 => fX0_rings s_34 u24 u26 u20 (fun u28 => ((u28 ≤ x1_34 → (fX0_listen_j143 x2_34 (fX0_listen_L34 La Q n_34)) s_34 x1_34) ∧ (¬ (u28 ≤ x1_34) → ∀ s31 : sg_M, s31 = sg_up s_34 32 7 u20 → ∀ s33 : sg_M, s33 = sg_up s31 32 8 u15 → ∀ s35 : sg_M, s35 = sg_up s33 32 9 u28 → fX0_isTwice La s35 u24 u26 (fun u37 => ∀ s39 : sg_M, s39 = sg_up s35 32 10 u37 → (fX0_listen_j143 x2_34 (fX0_listen_L34 La Q n_34)) s39 u28)))))))))))))
def fX0_listen (La : sg_L) (s0 : sg_M) (Q : sg_M → Prop) : Prop := ∀ s1 : sg_M, s1 = sg_up s0 32 7 0 → ∀ s3 : sg_M, s3 = sg_up s1 32 8 99 → ∀ s5 : sg_M, s5 = sg_up s3 32 9 0 → ∀ s7 : sg_M, s7 = sg_up s5 32 10 0 → (((s7 32 5) = (-1) → (∃ n41 : Nat, fX0_listen_L34 La Q n41 s7 (-1) 0)) ∧ (¬ ((s7 32 5) = (-1)) → Q s7))
set_option maxHeartbeats 4000000 in
set_option maxRecDepth 100000 in
theorem CX0_listen {l : Launch} {G : sg_G} {La : sg_L} {s0 : sg_M} (hst : sg_St La) {Q : sg_M → Prop} (hf : fX0_listen La s0 Q) : sg_C l G yX0_listen cX0_listen 8 (none) 4 0 0 La s0 [sg_r 32] (sg_HV La Q) := by
  refine sg_body (by decide +kernel) (Nat.le_of_ble_eq_true rfl) ?_
  intro p e s m args below meth c F hnm
  unfold fX0_listen at hf
  show sg_W p l e (sg_rm 4 0 0) s m args below meth c (MQ below (sg_Q (none) G La s.heap.size (sg_HV La Q)) args s 0 0 (sg_A La s.heap.size)) 8 G (sg_A La s.heap.size) La s0 0 0 0 [(0, sg_r 32)] []
  refine gw_aload_n F 0 rfl rfl (by decide) dX0_listen_0 ?_
  refine gw_iconst F dX0_listen_1 ?_
  obtain ⟨s1, e2⟩ : ∃ z : sg_M, z = sg_up s0 32 7 0 := ⟨_, rfl⟩
  have hf := hf s1 e2
  refine gw_put0 F (so_32 hst) (by decide) rfl sg_lay_RX0 (j := 7) (by decide) (by decide) e2 tyX0_ok nmX0 rfl (tyX0_ok 7 (by decide)) rfl (host := "") (.inl kw_264) dX0_listen_2 ?_
  refine gw_aload_n F 0 rfl rfl (by decide) dX0_listen_5 ?_
  refine gw_bipush F rfl dX0_listen_6 ?_
  obtain ⟨s3, e4⟩ : ∃ z : sg_M, z = sg_up s1 32 8 99 := ⟨_, rfl⟩
  have hf := hf s3 e4
  refine gw_put0 F (so_32 hst) (by decide) rfl sg_lay_RX0 (j := 8) (by decide) (by decide) e4 tyX0_ok nmX0 rfl (tyX0_ok 8 (by decide)) rfl (host := "") (.inl kw_267) dX0_listen_8 ?_
  refine gw_aload_n F 0 rfl rfl (by decide) dX0_listen_11 ?_
  refine gw_iconst F dX0_listen_12 ?_
  obtain ⟨s5, e6⟩ : ∃ z : sg_M, z = sg_up s3 32 9 0 := ⟨_, rfl⟩
  have hf := hf s5 e6
  refine gw_put0 F (so_32 hst) (by decide) rfl sg_lay_RX0 (j := 9) (by decide) (by decide) e6 tyX0_ok nmX0 rfl (tyX0_ok 9 (by decide)) rfl (host := "") (.inl kw_270) dX0_listen_13 ?_
  refine gw_aload_n F 0 rfl rfl (by decide) dX0_listen_16 ?_
  refine gw_iconst F dX0_listen_17 ?_
  obtain ⟨s7, e8⟩ : ∃ z : sg_M, z = sg_up s5 32 10 0 := ⟨_, rfl⟩
  have hf := hf s7 e8
  refine gw_put1 F (so_32 hst) (by decide) rfl sg_lay_RX0 (j := 10) (by decide) (by decide) e8 tyX0_ok nmX0 rfl (tyX0_ok 10 (by decide)) rfl (host := "") (.inl kw_273) dX0_listen_18 ?_
  refine gw_aload_n F 0 rfl rfl (by decide) dX0_listen_21 ?_
  refine gw_get0 F (so_32 hst) (by decide) rfl sg_lay_RX0 (j := 5) (by decide) rfl (host := "") (.inl kw_259) dX0_listen_22 (fun h9 => ?_)
  refine gw_iconst F dX0_listen_25 ?_
  refine gw_icmp_eq F (tgt := 30) dX0_listen_26 (by decide) h9 (by decide) (fun c10 => ?_) (fun c10 => ?_)
  · have hf := hf.1 c10
    refine gw_iconst F dX0_listen_30 ?_
    refine gw_istore_n F rfl (by decide) rfl dX0_listen_31 ?_
    refine gw_iconst F dX0_listen_32 ?_
    refine gw_istore_n F rfl (by decide) rfl dX0_listen_33 ?_
    have L34 : ∀ n_34 : Nat, ∀ (s_34 : sg_M) (x1_34 : Int) (x2_34 : Int), sg_R x1_34 → sg_R x2_34 → fX0_listen_L34 La Q n_34 s_34 x1_34 x2_34 → sg_W p l e (sg_rm 4 0 0) s m args below meth c (MQ below (sg_Q (none) G La s.heap.size (sg_HV La Q)) args s 0 0 (sg_A La s.heap.size)) 8 G (sg_A La s.heap.size) La s_34 0 0 34 [(0, sg_r 32), (1, sg_i x1_34), (2, sg_i x2_34)] [] := by
      intro n_34
      induction n_34 with
      | zero => intro s_34 x1_34 x2_34 r1_34 r2_34 hf; exact hf.elim
      | succ n_34 ih =>
        intro s_34 x1_34 x2_34 r1_34 r2_34 hf
        unfold fX0_listen_L34 at hf
        refine gw_iload_n F 2 rfl rfl dX0_listen_34 ?_
        refine gw_aload_n F 0 rfl rfl (by decide) dX0_listen_35 ?_
        refine gw_get3 F (so_32 hst) (by decide) rfl sg_lay_RX0 (j := 2) (by decide) (o1 := 35) (by first | rfl | omega) rfl (host := "") (.inl kw_254) dX0_listen_36 (fun h11 => ?_)
        refine gw_get0 F (so_35 hst) (by decide) rfl sg_lay_RX4 (j := 1) (by decide) rfl (.inr kw_202) dX0_listen_39 (fun h12 => ?_)
        refine gw_icmp_ge F (tgt := 149) dX0_listen_42 (by decide) r2_34 h12 (fun c13 => ?_) (fun c13 => ?_)
        · have hf := hf.1 c13
          exact gr_HV F hf (by decide) (by decide) dX0_listen_149
        · have hf := hf.2 c13
          refine gw_aload_n F 0 rfl rfl (by decide) dX0_listen_45 ?_
          refine gw_get3 F (so_32 hst) (by decide) rfl sg_lay_RX0 (j := 2) (by decide) (o1 := 35) (by first | rfl | omega) rfl (host := "") (.inl kw_254) dX0_listen_46 (fun h14 => ?_)
          refine gw_iload_n F 2 rfl rfl dX0_listen_49 ?_
          refine gk_PI F (gc_V F (S := []) (As := [sg_i x2_34]) (T := TX4) (N := 3) (CX4_at (so_35 hst) r2_34 hf) (so_35 hst) (by decide) rfl kw_546 kw_97 kw_555 kw_544 kw_545 hcX4_at ⟨by decide, by decide⟩ rfl rfl (Nat.le_of_ble_eq_true rfl) ⟨by decide, by decide⟩ dX0_listen_50) (fun u15 h16 hf => ?_)
          refine gw_istore_n F rfl (by decide) rfl dX0_listen_53 ?_
          refine gw_aload_n F 1 rfl rfl (by decide) dX0_listen_54 ?_
          refine gw_iload_n F 0 rfl rfl dX0_listen_55 ?_
          refine gw_aload_n F 1 rfl rfl (by decide) dX0_listen_56 ?_
          refine gw_get0 F (so_32 hst) (by decide) rfl sg_lay_RX0 (j := 4) (by decide) rfl (host := "") (.inl kw_258) dX0_listen_57 (fun h17 => ?_)
          refine gw_aload_n F 1 rfl rfl (by decide) dX0_listen_60 ?_
          refine gw_iload_n F 0 rfl rfl dX0_listen_61 ?_
          refine gk_PI F (gc_V F (S := [sg_i (s_34 32 4), sg_i u15, sg_r 32]) (As := [sg_i u15]) (T := TX0) (N := 11) (CX0_mostKept hst h16 hf) (so_32 hst) (by decide) rfl kw_662 kw_100 kw_660 kw_661 kw_21 hcX0_mostKept ⟨by decide, by decide⟩ rfl rfl (Nat.le_of_ble_eq_true rfl) ⟨by decide, by decide⟩ dX0_listen_62) (fun u18 h19 hf => ?_)
          refine gk_PI F (gc_V F (S := []) (As := [sg_i u15, sg_i (s_34 32 4), sg_i u18]) (T := TX0) (N := 11) (CX0_leastTone hst h16 h17 h19 hf) (so_32 hst) (by decide) rfl kw_558 kw_100 kw_556 kw_557 kw_6 hcX0_leastTone ⟨by decide, by decide⟩ rfl rfl (Nat.le_of_ble_eq_true rfl) ⟨by decide, by decide⟩ dX0_listen_65) (fun u20 h21 hf => ?_)
          refine gw_istore F (by decide) rfl dX0_listen_68 ?_
          refine gw_iload F 0 rfl dX0_listen_70 ?_
          have J143 : ∀ (s_143 : sg_M) (x1_143 : Int), sg_R x1_143 → (fX0_listen_j143 x2_34 (fX0_listen_L34 La Q n_34)) s_143 x1_143 → sg_W p l e (sg_rm 4 0 0) s m args below meth c (MQ below (sg_Q (none) G La s.heap.size (sg_HV La Q)) args s 0 0 (sg_A La s.heap.size)) 8 G (sg_A La s.heap.size) La s_143 0 0 143 [(0, sg_r 32), (1, sg_i x1_143), (2, sg_i x2_34)] [] := by
            intro s_143 x1_143 r1_143 hf
            unfold fX0_listen_j143 at hf
            refine gw_iinc F (z := (x2_34 + 1)) 2 rfl (by omega) (by decide) rfl dX0_listen_143 ?_
            refine gw_goto F (tgt := 34) dX0_listen_146 (by decide) ?_
            obtain ⟨g22, hf⟩ := hf
            refine gw_sub [1, 2, 0] rfl ?_
            exact ih s_143 x1_143 (x2_34 + 1) r1_143 g22 hf
          refine gw_if_le F (tgt := 143) dX0_listen_72 (by decide) h21 (fun c23 => ?_) (fun c23 => ?_)
          · have hf := hf.1 c23
            refine gw_sub [2, 3, 4] rfl ?_
            exact J143 s_34 x1_34 r1_34 hf
          · have hf := hf.2 c23
            refine gw_aload_n F 2 rfl rfl (by decide) dX0_listen_75 ?_
            refine gw_iload_n F 1 rfl rfl dX0_listen_76 ?_
            refine gw_iload F 0 rfl dX0_listen_77 ?_
            refine gk_PI F (gc_V F (S := []) (As := [sg_i u15, sg_i u20]) (T := TX0) (N := 11) (CX0_firstOfRun hst h16 h21 hf) (so_32 hst) (by decide) rfl kw_571 kw_100 kw_569 kw_570 kw_9 hcX0_firstOfRun ⟨by decide, by decide⟩ rfl rfl (Nat.le_of_ble_eq_true rfl) ⟨by decide, by decide⟩ dX0_listen_79) (fun u24 h25 hf => ?_)
            refine gw_istore F (by decide) rfl dX0_listen_82 ?_
            refine gw_aload_n F 3 rfl rfl (by decide) dX0_listen_84 ?_
            refine gw_iload_n F 2 rfl rfl dX0_listen_85 ?_
            refine gw_iload F 1 rfl dX0_listen_86 ?_
            refine gk_PI F (gc_V F (S := []) (As := [sg_i u15, sg_i u20]) (T := TX0) (N := 11) (CX0_lastOfRun hst h16 h21 hf) (so_32 hst) (by decide) rfl kw_574 kw_100 kw_572 kw_573 kw_10 hcX0_lastOfRun ⟨by decide, by decide⟩ rfl rfl (Nat.le_of_ble_eq_true rfl) ⟨by decide, by decide⟩ dX0_listen_88) (fun u26 h27 hf => ?_)
            refine gw_istore F (by decide) rfl dX0_listen_91 ?_
            refine gw_aload_n F 4 rfl rfl (by decide) dX0_listen_93 ?_
            refine gw_iload F 1 rfl dX0_listen_94 ?_
            refine gw_iload F 0 rfl dX0_listen_96 ?_
            refine gw_iload F 2 rfl dX0_listen_98 ?_
            refine gk_PI F (gc_V F (S := []) (As := [sg_i u24, sg_i u26, sg_i u20]) (T := TX0) (N := 11) (CX0_rings hst h25 h27 h21 hf) (so_32 hst) (by decide) rfl kw_580 kw_100 kw_578 kw_579 kw_12 hcX0_rings ⟨by decide, by decide⟩ rfl rfl (Nat.le_of_ble_eq_true rfl) ⟨by decide, by decide⟩ dX0_listen_100) (fun u28 h29 hf => ?_)
            refine gw_istore F (by decide) rfl dX0_listen_103 ?_
            refine gw_iload F 0 rfl dX0_listen_105 ?_
            refine gw_iload_n F 6 rfl rfl dX0_listen_107 ?_
            refine gw_icmp_le F (tgt := 143) dX0_listen_108 (by decide) h29 r1_34 (fun c30 => ?_) (fun c30 => ?_)
            · have hf := hf.1 c30
              refine gw_sub [5, 6, 7] rfl ?_
              exact J143 s_34 x1_34 r1_34 hf
            · have hf := hf.2 c30
              refine gw_iload F 0 rfl dX0_listen_111 ?_
              refine gw_istore_n F rfl (by decide) rfl dX0_listen_113 ?_
              refine gw_aload_n F 6 rfl rfl (by decide) dX0_listen_114 ?_
              refine gw_iload F 4 rfl dX0_listen_115 ?_
              obtain ⟨s31, e32⟩ : ∃ z : sg_M, z = sg_up s_34 32 7 u20 := ⟨_, rfl⟩
              have hf := hf s31 e32
              refine gw_put0 F (so_32 hst) (by decide) rfl sg_lay_RX0 (j := 7) (by decide) h21 e32 tyX0_ok nmX0 rfl (tyX0_ok 7 (by decide)) rfl (host := "") (.inl kw_264) dX0_listen_117 ?_
              refine gw_aload_n F 6 rfl rfl (by decide) dX0_listen_120 ?_
              refine gw_iload_n F 5 rfl rfl dX0_listen_121 ?_
              obtain ⟨s33, e34⟩ : ∃ z : sg_M, z = sg_up s31 32 8 u15 := ⟨_, rfl⟩
              have hf := hf s33 e34
              refine gw_put0 F (so_32 hst) (by decide) rfl sg_lay_RX0 (j := 8) (by decide) h16 e34 tyX0_ok nmX0 rfl (tyX0_ok 8 (by decide)) rfl (host := "") (.inl kw_267) dX0_listen_122 ?_
              refine gw_aload_n F 6 rfl rfl (by decide) dX0_listen_125 ?_
              refine gw_iload F 1 rfl dX0_listen_126 ?_
              obtain ⟨s35, e36⟩ : ∃ z : sg_M, z = sg_up s33 32 9 u28 := ⟨_, rfl⟩
              have hf := hf s35 e36
              refine gw_put0 F (so_32 hst) (by decide) rfl sg_lay_RX0 (j := 9) (by decide) h29 e36 tyX0_ok nmX0 rfl (tyX0_ok 9 (by decide)) rfl (host := "") (.inl kw_270) dX0_listen_128 ?_
              refine gw_aload_n F 6 rfl rfl (by decide) dX0_listen_131 ?_
              refine gw_aload_n F 6 rfl rfl (by decide) dX0_listen_132 ?_
              refine gw_iload F 3 rfl dX0_listen_133 ?_
              refine gw_iload F 2 rfl dX0_listen_135 ?_
              refine gk_PZ F (gc_V F (S := [sg_r 32]) (As := [sg_i u24, sg_i u26]) (T := TX0) (N := 11) (CX0_isTwice hst h25 h27 hf) (so_32 hst) (by decide) rfl kw_577 kw_100 kw_575 kw_576 kw_11 hcX0_isTwice ⟨by decide, by decide⟩ rfl rfl (Nat.le_of_ble_eq_true rfl) ⟨by decide, by decide⟩ dX0_listen_137) (fun u37 h38 hf => ?_)
              obtain ⟨s39, e40⟩ : ∃ z : sg_M, z = sg_up s35 32 10 u37 := ⟨_, rfl⟩
              have hf := hf s39 e40
              refine gw_put1 F (so_32 hst) (by decide) rfl sg_lay_RX0 (j := 10) (by decide) h38 e40 tyX0_ok nmX0 rfl (tyX0_ok 10 (by decide)) rfl (host := "") (.inl kw_273) dX0_listen_140 ?_
              refine gw_sub [6, 0, 7] rfl ?_
              exact J143 s39 u28 h29 hf
    obtain ⟨n41, hf⟩ := hf
    refine gw_sub [2, 1, 0] rfl ?_
    refine L34   n41 s7 (-1) 0 (by decide) (by decide) hf
  · have hf := hf.2 c10
    exact gr_HV F hf (by decide) (by decide) dX0_listen_29

theorem dX11_listenTo_0 : decode cX11_listenTo 0 = .ok (.aload_n 0, 1) := by decide +kernel
theorem dX11_listenTo_1 : decode cX11_listenTo 1 = .ok (.getfield 54, 3) := by decide +kernel
theorem dX11_listenTo_4 : decode cX11_listenTo 4 = .ok (.aload_n 1, 1) := by decide +kernel
theorem dX11_listenTo_5 : decode cX11_listenTo 5 = .ok (.iload_n 2, 1) := by decide +kernel
theorem dX11_listenTo_6 : decode cX11_listenTo 6 = .ok (.iload_n 3, 1) := by decide +kernel
theorem dX11_listenTo_7 : decode cX11_listenTo 7 = .ok (.invokevirtual 171, 3) := by decide +kernel
theorem dX11_listenTo_10 : decode cX11_listenTo 10 = .ok (.aload_n 0, 1) := by decide +kernel
theorem dX11_listenTo_11 : decode cX11_listenTo 11 = .ok (.getfield 54, 3) := by decide +kernel
theorem dX11_listenTo_14 : decode cX11_listenTo 14 = .ok (.invokevirtual 349, 3) := by decide +kernel
theorem dX11_listenTo_17 : decode cX11_listenTo 17 = .ok (.return_, 1) := by decide +kernel
theorem hcX11_listenTo : yX11_listenTo.cls ≠ "java/lang/invoke/MethodHandle" ∧ yX11_listenTo.cls ≠ "java/lang/invoke/VarHandle" ∧ (parseMethodDescriptor yX11_listenTo.desc).map (fun d => d.parameters.length) = some 3 := ⟨by decide +kernel, by decide +kernel, by decide +kernel⟩
def fX11_listenTo (La : sg_L) (s0 : sg_M) (o1 : Int) (x2 : Int) (x3 : Int) (Q : sg_M → Prop) : Prop := fX0_bendTo La s0 o1 x2 x3 (fun s2 => fX0_listen La s2 (fun s4 => Q s4))
set_option maxHeartbeats 4000000 in
set_option maxRecDepth 100000 in
theorem CX11_listenTo {l : Launch} {G : sg_G} {La : sg_L} {s0 : sg_M} (hst : sg_St La) {o1 : Int} (t1 : sg_O La o1 1) {x2 : Int} (r2 : sg_R x2) {x3 : Int} (r3 : sg_R x3) {Q : sg_M → Prop} (hf : fX11_listenTo La s0 o1 x2 x3 Q) : sg_C l G yX11_listenTo cX11_listenTo 4 (none) 5 0 0 La s0 [sg_r 0, sg_r o1, sg_i x2, sg_i x3] (sg_HV La Q) := by
  refine sg_body (by decide +kernel) (Nat.le_of_ble_eq_true rfl) ?_
  intro p e s m args below meth c F hnm
  unfold fX11_listenTo at hf
  show sg_W p l e (sg_rm 5 0 0) s m args below meth c (MQ below (sg_Q (none) G La s.heap.size (sg_HV La Q)) args s 0 0 (sg_A La s.heap.size)) 4 G (sg_A La s.heap.size) La s0 0 0 0 [(0, sg_r 0), (1, sg_r o1), (2, sg_i x2), (3, sg_i x3)] []
  refine gw_aload_n F 0 rfl rfl (by decide) dX11_listenTo_0 ?_
  refine gw_get7 F (so_0 hst) (by decide) rfl sg_lay_RX11 (j := 5) (by decide) (o1 := 32) (by first | rfl | omega) rfl (host := "") (.inl kw_331) dX11_listenTo_1 (fun h1 => ?_)
  refine gw_aload_n F 1 rfl rfl t1.1 dX11_listenTo_4 ?_
  refine gw_iload_n F 2 rfl rfl dX11_listenTo_5 ?_
  refine gw_iload_n F 3 rfl rfl dX11_listenTo_6 ?_
  refine gk_HV F (gc_V F (S := []) (As := [sg_r o1, sg_i x2, sg_i x3]) (T := TX0) (N := 11) (CX0_bendTo hst t1 r2 r3 hf) (so_32 hst) (by decide) rfl kw_506 kw_100 kw_503 kw_504 kw_505 hcX0_bendTo ⟨by decide, by decide⟩ rfl rfl (Nat.le_of_ble_eq_true rfl) ⟨by decide, by decide⟩ dX11_listenTo_7) (fun s2 hf => ?_)
  refine gw_aload_n F 0 rfl rfl (by decide) dX11_listenTo_10 ?_
  refine gw_get7 F (so_0 hst) (by decide) rfl sg_lay_RX11 (j := 5) (by decide) (o1 := 32) (by first | rfl | omega) rfl (host := "") (.inl kw_331) dX11_listenTo_11 (fun h3 => ?_)
  refine gk_HV F (gc_V F (S := []) (As := []) (T := TX0) (N := 11) (CX0_listen hst hf) (so_32 hst) (by decide) rfl kw_659 kw_100 kw_656 kw_657 kw_658 hcX0_listen ⟨by decide, by decide⟩ rfl rfl (Nat.le_of_ble_eq_true rfl) ⟨by decide, by decide⟩ dX11_listenTo_14) (fun s4 hf => ?_)
  exact gr_HV F hf (by decide) (by decide) dX11_listenTo_17

theorem dX11_rangeOfTrial_0 : decode cX11_rangeOfTrial 0 = .ok (.sipush 2000, 3) := by decide +kernel
theorem dX11_rangeOfTrial_3 : decode cX11_rangeOfTrial 3 = .ok (.istore_n 1, 1) := by decide +kernel
theorem dX11_rangeOfTrial_4 : decode cX11_rangeOfTrial 4 = .ok (.iconst 0, 1) := by decide +kernel
theorem dX11_rangeOfTrial_5 : decode cX11_rangeOfTrial 5 = .ok (.istore_n 2, 1) := by decide +kernel
theorem dX11_rangeOfTrial_6 : decode cX11_rangeOfTrial 6 = .ok (.iconst 0, 1) := by decide +kernel
theorem dX11_rangeOfTrial_7 : decode cX11_rangeOfTrial 7 = .ok (.istore_n 3, 1) := by decide +kernel
theorem dX11_rangeOfTrial_8 : decode cX11_rangeOfTrial 8 = .ok (.iload_n 3, 1) := by decide +kernel
theorem dX11_rangeOfTrial_9 : decode cX11_rangeOfTrial 9 = .ok (.aload_n 0, 1) := by decide +kernel
theorem dX11_rangeOfTrial_10 : decode cX11_rangeOfTrial 10 = .ok (.getfield 39, 3) := by decide +kernel
theorem dX11_rangeOfTrial_13 : decode cX11_rangeOfTrial 13 = .ok (.getfield 237, 3) := by decide +kernel
theorem dX11_rangeOfTrial_16 : decode cX11_rangeOfTrial 16 = .ok (.getfield 241, 3) := by decide +kernel
theorem dX11_rangeOfTrial_19 : decode cX11_rangeOfTrial 19 = .ok (.if_icmp .ge 93, 3) := by decide +kernel
theorem dX11_rangeOfTrial_22 : decode cX11_rangeOfTrial 22 = .ok (.aload_n 0, 1) := by decide +kernel
theorem dX11_rangeOfTrial_23 : decode cX11_rangeOfTrial 23 = .ok (.aload_n 0, 1) := by decide +kernel
theorem dX11_rangeOfTrial_24 : decode cX11_rangeOfTrial 24 = .ok (.getfield 47, 3) := by decide +kernel
theorem dX11_rangeOfTrial_27 : decode cX11_rangeOfTrial 27 = .ok (.aload_n 0, 1) := by decide +kernel
theorem dX11_rangeOfTrial_28 : decode cX11_rangeOfTrial 28 = .ok (.getfield 39, 3) := by decide +kernel
theorem dX11_rangeOfTrial_31 : decode cX11_rangeOfTrial 31 = .ok (.getfield 237, 3) := by decide +kernel
theorem dX11_rangeOfTrial_34 : decode cX11_rangeOfTrial 34 = .ok (.getfield 352, 3) := by decide +kernel
theorem dX11_rangeOfTrial_37 : decode cX11_rangeOfTrial 37 = .ok (.iload_n 3, 1) := by decide +kernel
theorem dX11_rangeOfTrial_38 : decode cX11_rangeOfTrial 38 = .ok (.invokevirtual 182, 3) := by decide +kernel
theorem dX11_rangeOfTrial_41 : decode cX11_rangeOfTrial 41 = .ok (.aload_n 0, 1) := by decide +kernel
theorem dX11_rangeOfTrial_42 : decode cX11_rangeOfTrial 42 = .ok (.getfield 39, 3) := by decide +kernel
theorem dX11_rangeOfTrial_45 : decode cX11_rangeOfTrial 45 = .ok (.getfield 237, 3) := by decide +kernel
theorem dX11_rangeOfTrial_48 : decode cX11_rangeOfTrial 48 = .ok (.getfield 355, 3) := by decide +kernel
theorem dX11_rangeOfTrial_51 : decode cX11_rangeOfTrial 51 = .ok (.iload_n 3, 1) := by decide +kernel
theorem dX11_rangeOfTrial_52 : decode cX11_rangeOfTrial 52 = .ok (.invokevirtual 182, 3) := by decide +kernel
theorem dX11_rangeOfTrial_55 : decode cX11_rangeOfTrial 55 = .ok (.invokevirtual 225, 3) := by decide +kernel
theorem dX11_rangeOfTrial_58 : decode cX11_rangeOfTrial 58 = .ok (.aload_n 0, 1) := by decide +kernel
theorem dX11_rangeOfTrial_59 : decode cX11_rangeOfTrial 59 = .ok (.getfield 54, 3) := by decide +kernel
theorem dX11_rangeOfTrial_62 : decode cX11_rangeOfTrial 62 = .ok (.getfield 175, 3) := by decide +kernel
theorem dX11_rangeOfTrial_65 : decode cX11_rangeOfTrial 65 = .ok (.iconst (-1), 1) := by decide +kernel
theorem dX11_rangeOfTrial_66 : decode cX11_rangeOfTrial 66 = .ok (.if_icmp .eq 6, 3) := by decide +kernel
theorem dX11_rangeOfTrial_69 : decode cX11_rangeOfTrial 69 = .ok (.bipush (-2), 2) := by decide +kernel
theorem dX11_rangeOfTrial_71 : decode cX11_rangeOfTrial 71 = .ok (.ireturn, 1) := by decide +kernel
theorem dX11_rangeOfTrial_72 : decode cX11_rangeOfTrial 72 = .ok (.aload_n 0, 1) := by decide +kernel
theorem dX11_rangeOfTrial_73 : decode cX11_rangeOfTrial 73 = .ok (.getfield 54, 3) := by decide +kernel
theorem dX11_rangeOfTrial_76 : decode cX11_rangeOfTrial 76 = .ok (.getfield 228, 3) := by decide +kernel
theorem dX11_rangeOfTrial_79 : decode cX11_rangeOfTrial 79 = .ok (.ifCond .le 27, 3) := by decide +kernel
theorem dX11_rangeOfTrial_82 : decode cX11_rangeOfTrial 82 = .ok (.iload_n 1, 1) := by decide +kernel
theorem dX11_rangeOfTrial_83 : decode cX11_rangeOfTrial 83 = .ok (.aload_n 0, 1) := by decide +kernel
theorem dX11_rangeOfTrial_84 : decode cX11_rangeOfTrial 84 = .ok (.getfield 54, 3) := by decide +kernel
theorem dX11_rangeOfTrial_87 : decode cX11_rangeOfTrial 87 = .ok (.getfield 228, 3) := by decide +kernel
theorem dX11_rangeOfTrial_90 : decode cX11_rangeOfTrial 90 = .ok (.invokestatic 297, 3) := by decide +kernel
theorem dX11_rangeOfTrial_93 : decode cX11_rangeOfTrial 93 = .ok (.istore_n 1, 1) := by decide +kernel
theorem dX11_rangeOfTrial_94 : decode cX11_rangeOfTrial 94 = .ok (.iload_n 2, 1) := by decide +kernel
theorem dX11_rangeOfTrial_95 : decode cX11_rangeOfTrial 95 = .ok (.aload_n 0, 1) := by decide +kernel
theorem dX11_rangeOfTrial_96 : decode cX11_rangeOfTrial 96 = .ok (.getfield 54, 3) := by decide +kernel
theorem dX11_rangeOfTrial_99 : decode cX11_rangeOfTrial 99 = .ok (.getfield 228, 3) := by decide +kernel
theorem dX11_rangeOfTrial_102 : decode cX11_rangeOfTrial 102 = .ok (.invokestatic 291, 3) := by decide +kernel
theorem dX11_rangeOfTrial_105 : decode cX11_rangeOfTrial 105 = .ok (.istore_n 2, 1) := by decide +kernel
theorem dX11_rangeOfTrial_106 : decode cX11_rangeOfTrial 106 = .ok (.iinc 3 1, 3) := by decide +kernel
theorem dX11_rangeOfTrial_109 : decode cX11_rangeOfTrial 109 = .ok (.goto (-101), 3) := by decide +kernel
theorem dX11_rangeOfTrial_112 : decode cX11_rangeOfTrial 112 = .ok (.iload_n 2, 1) := by decide +kernel
theorem dX11_rangeOfTrial_113 : decode cX11_rangeOfTrial 113 = .ok (.ifCond .ne 7, 3) := by decide +kernel
theorem dX11_rangeOfTrial_116 : decode cX11_rangeOfTrial 116 = .ok (.iconst (-1), 1) := by decide +kernel
theorem dX11_rangeOfTrial_117 : decode cX11_rangeOfTrial 117 = .ok (.goto 6, 3) := by decide +kernel
theorem dX11_rangeOfTrial_120 : decode cX11_rangeOfTrial 120 = .ok (.iload_n 2, 1) := by decide +kernel
theorem dX11_rangeOfTrial_121 : decode cX11_rangeOfTrial 121 = .ok (.iload_n 1, 1) := by decide +kernel
theorem dX11_rangeOfTrial_122 : decode cX11_rangeOfTrial 122 = .ok (.isub, 1) := by decide +kernel
theorem dX11_rangeOfTrial_123 : decode cX11_rangeOfTrial 123 = .ok (.ireturn, 1) := by decide +kernel
theorem hcX11_rangeOfTrial : yX11_rangeOfTrial.cls ≠ "java/lang/invoke/MethodHandle" ∧ yX11_rangeOfTrial.cls ≠ "java/lang/invoke/VarHandle" ∧ (parseMethodDescriptor yX11_rangeOfTrial.desc).map (fun d => d.parameters.length) = some 0 := ⟨by decide +kernel, by decide +kernel, by decide +kernel⟩
def fX11_rangeOfTrial_j106 (x3_8 : Int) (s16 : sg_M) (k8 : sg_M → Int → Int → Int → Prop) (x1_106 : Int) (x2_106 : Int) : Prop := sg_R (x3_8 + 1) ∧ k8 s16 x1_106 x2_106 (x3_8 + 1)
def fX11_rangeOfTrial_L8 (La : sg_L) (Q : Int → sg_M → Prop) (k112 : sg_M → Int → Int → Prop) : Nat → sg_M → Int → Int → Int → Prop
  | 0, _, _, _, _ => False
  | n_8 + 1, s_8, x1_8, x2_8, x3_8 => (((s_8 20 2) ≤ x3_8 → k112 s_8 x1_8 x2_8) ∧ (¬ ((s_8 20 2) ≤ x3_8) → fX4_at La s_8 21 x3_8 (fun u9 => fX4_at La s_8 23 x3_8 (fun u14 => fX11_listenTo La s_8 27 u9 u14 (fun s16 => (((s16 32 5) = (-1) → (((s16 32 7) ≤ 0 → (fX11_rangeOfTrial_j106 x3_8 s16 (fX11_rangeOfTrial_L8 La Q k112 n_8)) x1_8 x2_8) ∧ (¬ ((s16 32 7) ≤ 0) → (fX11_rangeOfTrial_j106 x3_8 s16 (fX11_rangeOfTrial_L8 La Q k112 n_8)) (sg_min x1_8 (s16 32 7)) (sg_max x2_8 (s16 32 7))))) ∧ (¬ ((s16 32 5) = (-1)) → Q (-2) s16)))))))
def fX11_rangeOfTrial (La : sg_L) (s0 : sg_M) (Q : Int → sg_M → Prop) : Prop := (∃ n28 : Nat, fX11_rangeOfTrial_L8 La Q (fun s_112e8 x1_112e8 x2_112e8 => ((x2_112e8 ≠ 0 → sg_R (x2_112e8 - x1_112e8) ∧ Q (x2_112e8 - x1_112e8) s_112e8) ∧ (x2_112e8 = 0 → Q (-1) s_112e8))) n28 s0 2000 0 0)
set_option maxHeartbeats 4000000 in
set_option maxRecDepth 100000 in
theorem CX11_rangeOfTrial {l : Launch} {G : sg_G} {La : sg_L} {s0 : sg_M} (hst : sg_St La) {Q : Int → sg_M → Prop} (hf : fX11_rangeOfTrial La s0 Q) : sg_C l G yX11_rangeOfTrial cX11_rangeOfTrial 4 (some .int) 6 0 0 La s0 [sg_r 0] (sg_HI La Q) := by
  refine sg_body (by decide +kernel) (Nat.le_of_ble_eq_true rfl) ?_
  intro p e s m args below meth c F hnm
  unfold fX11_rangeOfTrial at hf
  show sg_W p l e (sg_rm 6 0 0) s m args below meth c (MQ below (sg_Q (some .int) G La s.heap.size (sg_HI La Q)) args s 0 0 (sg_A La s.heap.size)) 4 G (sg_A La s.heap.size) La s0 0 0 0 [(0, sg_r 0)] []
  refine gw_sipush F rfl dX11_rangeOfTrial_0 ?_
  refine gw_istore_n F rfl (by decide) rfl dX11_rangeOfTrial_3 ?_
  refine gw_iconst F dX11_rangeOfTrial_4 ?_
  refine gw_istore_n F rfl (by decide) rfl dX11_rangeOfTrial_5 ?_
  refine gw_iconst F dX11_rangeOfTrial_6 ?_
  refine gw_istore_n F rfl (by decide) rfl dX11_rangeOfTrial_7 ?_
  have L8 : ∀ (k112 : sg_M → Int → Int → Prop) (hk112 : ∀ (s_112e8 : sg_M) (x1_112e8 : Int) (x2_112e8 : Int), sg_R x1_112e8 → sg_R x2_112e8 → k112 s_112e8 x1_112e8 x2_112e8 → sg_W p l e (sg_rm 6 0 0) s m args below meth c (MQ below (sg_Q (some .int) G La s.heap.size (sg_HI La Q)) args s 0 0 (sg_A La s.heap.size)) 4 G (sg_A La s.heap.size) La s_112e8 0 0 112 [(1, sg_i x1_112e8), (2, sg_i x2_112e8)] []), ∀ n_8 : Nat, ∀ (s_8 : sg_M) (x1_8 : Int) (x2_8 : Int) (x3_8 : Int), sg_R x1_8 → sg_R x2_8 → sg_R x3_8 → fX11_rangeOfTrial_L8 La Q k112 n_8 s_8 x1_8 x2_8 x3_8 → sg_W p l e (sg_rm 6 0 0) s m args below meth c (MQ below (sg_Q (some .int) G La s.heap.size (sg_HI La Q)) args s 0 0 (sg_A La s.heap.size)) 4 G (sg_A La s.heap.size) La s_8 0 0 8 [(0, sg_r 0), (1, sg_i x1_8), (2, sg_i x2_8), (3, sg_i x3_8)] [] := by
    intro k112 hk112 n_8
    induction n_8 with
    | zero => intro s_8 x1_8 x2_8 x3_8 r1_8 r2_8 r3_8 hf; exact hf.elim
    | succ n_8 ih =>
      intro s_8 x1_8 x2_8 x3_8 r1_8 r2_8 r3_8 hf
      unfold fX11_rangeOfTrial_L8 at hf
      refine gw_iload_n F 3 rfl rfl dX11_rangeOfTrial_8 ?_
      refine gw_aload_n F 0 rfl rfl (by decide) dX11_rangeOfTrial_9 ?_
      refine gw_get7 F (so_0 hst) (by decide) rfl sg_lay_RX11 (j := 2) (by decide) (o1 := 4) (by first | rfl | omega) rfl (host := "") (.inl kw_328) dX11_rangeOfTrial_10 (fun h1 => ?_)
      refine gw_get7 F (so_4 hst) (by decide) rfl sg_lay_RX7 (j := 3) (by decide) (o1 := 20) (by first | rfl | omega) rfl (.inr kw_240) dX11_rangeOfTrial_13 (fun h2 => ?_)
      refine gw_get0 F (so_20 hst) (by decide) rfl sg_lay_RX2 (j := 2) (by decide) rfl (.inr kw_230) dX11_rangeOfTrial_16 (fun h3 => ?_)
      refine gw_icmp_ge F (tgt := 112) dX11_rangeOfTrial_19 (by decide) r3_8 h3 (fun c4 => ?_) (fun c4 => ?_)
      · have hf := hf.1 c4
        refine gw_sub [1, 2] rfl ?_
        exact hk112 s_8 x1_8 x2_8 r1_8 r2_8 hf
      · have hf := hf.2 c4
        refine gw_aload_n F 0 rfl rfl (by decide) dX11_rangeOfTrial_22 ?_
        refine gw_aload_n F 0 rfl rfl (by decide) dX11_rangeOfTrial_23 ?_
        refine gw_get7 F (so_0 hst) (by decide) rfl sg_lay_RX11 (j := 4) (by decide) (o1 := 27) (by first | rfl | omega) rfl (host := "") (.inl kw_330) dX11_rangeOfTrial_24 (fun h5 => ?_)
        refine gw_aload_n F 0 rfl rfl (by decide) dX11_rangeOfTrial_27 ?_
        refine gw_get7 F (so_0 hst) (by decide) rfl sg_lay_RX11 (j := 2) (by decide) (o1 := 4) (by first | rfl | omega) rfl (host := "") (.inl kw_328) dX11_rangeOfTrial_28 (fun h6 => ?_)
        refine gw_get7 F (so_4 hst) (by decide) rfl sg_lay_RX7 (j := 3) (by decide) (o1 := 20) (by first | rfl | omega) rfl (.inr kw_240) dX11_rangeOfTrial_31 (fun h7 => ?_)
        refine gw_get3 F (so_20 hst) (by decide) rfl sg_lay_RX2 (j := 0) (by decide) (o1 := 21) (by first | rfl | omega) rfl (.inr kw_225) dX11_rangeOfTrial_34 (fun h8 => ?_)
        refine gw_iload_n F 3 rfl rfl dX11_rangeOfTrial_37 ?_
        refine gk_PI F (gc_V F (S := [sg_r 27, sg_r 0]) (As := [sg_i x3_8]) (T := TX4) (N := 3) (CX4_at (so_21 hst) r3_8 hf) (so_21 hst) (by decide) rfl kw_546 kw_97 kw_543 kw_544 kw_545 hcX4_at ⟨by decide, by decide⟩ rfl rfl (Nat.le_of_ble_eq_true rfl) ⟨by decide, by decide⟩ dX11_rangeOfTrial_38) (fun u9 h10 hf => ?_)
        refine gw_aload_n F 0 rfl rfl (by decide) dX11_rangeOfTrial_41 ?_
        refine gw_get7 F (so_0 hst) (by decide) rfl sg_lay_RX11 (j := 2) (by decide) (o1 := 4) (by first | rfl | omega) rfl (host := "") (.inl kw_328) dX11_rangeOfTrial_42 (fun h11 => ?_)
        refine gw_get7 F (so_4 hst) (by decide) rfl sg_lay_RX7 (j := 3) (by decide) (o1 := 20) (by first | rfl | omega) rfl (.inr kw_240) dX11_rangeOfTrial_45 (fun h12 => ?_)
        refine gw_get3 F (so_20 hst) (by decide) rfl sg_lay_RX2 (j := 1) (by decide) (o1 := 23) (by first | rfl | omega) rfl (.inr kw_227) dX11_rangeOfTrial_48 (fun h13 => ?_)
        refine gw_iload_n F 3 rfl rfl dX11_rangeOfTrial_51 ?_
        refine gk_PI F (gc_V F (S := [sg_i u9, sg_r 27, sg_r 0]) (As := [sg_i x3_8]) (T := TX4) (N := 3) (CX4_at (so_23 hst) r3_8 hf) (so_23 hst) (by decide) rfl kw_546 kw_97 kw_543 kw_544 kw_545 hcX4_at ⟨by decide, by decide⟩ rfl rfl (Nat.le_of_ble_eq_true rfl) ⟨by decide, by decide⟩ dX11_rangeOfTrial_52) (fun u14 h15 hf => ?_)
        refine gk_HV F (gc_V F (S := []) (As := [sg_r 27, sg_i u9, sg_i u14]) (T := TX11) (N := 19) (CX11_listenTo hst (so_27 hst) h10 h15 hf) (so_0 hst) (by decide) rfl kw_655 kw_90 kw_653 kw_654 kw_20 hcX11_listenTo ⟨by decide, by decide⟩ rfl rfl (Nat.le_of_ble_eq_true rfl) ⟨by decide, by decide⟩ dX11_rangeOfTrial_55) (fun s16 hf => ?_)
        refine gw_aload_n F 0 rfl rfl (by decide) dX11_rangeOfTrial_58 ?_
        refine gw_get7 F (so_0 hst) (by decide) rfl sg_lay_RX11 (j := 5) (by decide) (o1 := 32) (by first | rfl | omega) rfl (host := "") (.inl kw_331) dX11_rangeOfTrial_59 (fun h17 => ?_)
        refine gw_get0 F (so_32 hst) (by decide) rfl sg_lay_RX0 (j := 5) (by decide) rfl (.inr kw_260) dX11_rangeOfTrial_62 (fun h18 => ?_)
        refine gw_iconst F dX11_rangeOfTrial_65 ?_
        refine gw_icmp_eq F (tgt := 72) dX11_rangeOfTrial_66 (by decide) h18 (by decide) (fun c19 => ?_) (fun c19 => ?_)
        · have hf := hf.1 c19
          refine gw_aload_n F 0 rfl rfl (by decide) dX11_rangeOfTrial_72 ?_
          refine gw_get7 F (so_0 hst) (by decide) rfl sg_lay_RX11 (j := 5) (by decide) (o1 := 32) (by first | rfl | omega) rfl (host := "") (.inl kw_331) dX11_rangeOfTrial_73 (fun h20 => ?_)
          refine gw_get0 F (so_32 hst) (by decide) rfl sg_lay_RX0 (j := 7) (by decide) rfl (.inr kw_266) dX11_rangeOfTrial_76 (fun h21 => ?_)
          have J106 : ∀ (x1_106 : Int) (x2_106 : Int), sg_R x1_106 → sg_R x2_106 → (fX11_rangeOfTrial_j106 x3_8 s16 (fX11_rangeOfTrial_L8 La Q k112 n_8)) x1_106 x2_106 → sg_W p l e (sg_rm 6 0 0) s m args below meth c (MQ below (sg_Q (some .int) G La s.heap.size (sg_HI La Q)) args s 0 0 (sg_A La s.heap.size)) 4 G (sg_A La s.heap.size) La s16 0 0 106 [(0, sg_r 0), (1, sg_i x1_106), (2, sg_i x2_106), (3, sg_i x3_8)] [] := by
            intro x1_106 x2_106 r1_106 r2_106 hf
            unfold fX11_rangeOfTrial_j106 at hf
            refine gw_iinc F (z := (x3_8 + 1)) 3 rfl (by omega) (by decide) rfl dX11_rangeOfTrial_106 ?_
            refine gw_goto F (tgt := 8) dX11_rangeOfTrial_109 (by decide) ?_
            obtain ⟨g22, hf⟩ := hf
            refine gw_sub [1, 2, 3, 0] rfl ?_
            exact ih s16 x1_106 x2_106 (x3_8 + 1) r1_106 r2_106 g22 hf
          refine gw_if_le F (tgt := 106) dX11_rangeOfTrial_79 (by decide) h21 (fun c23 => ?_) (fun c23 => ?_)
          · have hf := hf.1 c23
            refine gw_sub [0, 1, 2, 3] rfl ?_
            exact J106 x1_8 x2_8 r1_8 r2_8 hf
          · have hf := hf.2 c23
            refine gw_iload_n F 1 rfl rfl dX11_rangeOfTrial_82 ?_
            refine gw_aload_n F 0 rfl rfl (by decide) dX11_rangeOfTrial_83 ?_
            refine gw_get7 F (so_0 hst) (by decide) rfl sg_lay_RX11 (j := 5) (by decide) (o1 := 32) (by first | rfl | omega) rfl (host := "") (.inl kw_331) dX11_rangeOfTrial_84 (fun h24 => ?_)
            refine gw_get0 F (so_32 hst) (by decide) rfl sg_lay_RX0 (j := 7) (by decide) rfl (.inr kw_266) dX11_rangeOfTrial_87 (fun h25 => ?_)
            refine gw_min F r1_8 h25 rfl kw_522 kw_min1 kw_math kw_min2 (Nat.le_of_ble_eq_true rfl) (by decide) (by decide) (by decide) (by decide) dX11_rangeOfTrial_90 ?_
            refine gw_istore_n F rfl (by decide) rfl dX11_rangeOfTrial_93 ?_
            refine gw_iload_n F 2 rfl rfl dX11_rangeOfTrial_94 ?_
            refine gw_aload_n F 1 rfl rfl (by decide) dX11_rangeOfTrial_95 ?_
            refine gw_get7 F (so_0 hst) (by decide) rfl sg_lay_RX11 (j := 5) (by decide) (o1 := 32) (by first | rfl | omega) rfl (host := "") (.inl kw_331) dX11_rangeOfTrial_96 (fun h26 => ?_)
            refine gw_get0 F (so_32 hst) (by decide) rfl sg_lay_RX0 (j := 7) (by decide) rfl (.inr kw_266) dX11_rangeOfTrial_99 (fun h27 => ?_)
            refine gw_max F r2_8 h27 rfl kw_523 kw_max1 kw_math kw_max2 (Nat.le_of_ble_eq_true rfl) (by decide) (by decide) (by decide) (by decide) dX11_rangeOfTrial_102 ?_
            refine gw_istore_n F rfl (by decide) rfl dX11_rangeOfTrial_105 ?_
            refine gw_sub [2, 1, 0, 3] rfl ?_
            exact J106 (sg_min x1_8 (s16 32 7)) (sg_max x2_8 (s16 32 7)) (sg_min_R r1_8 h25) (sg_max_R r2_8 h27) hf
        · have hf := hf.2 c19
          refine gw_bipush F rfl dX11_rangeOfTrial_69 ?_
          exact gr_HI F (by decide) hf (by decide) (by decide) dX11_rangeOfTrial_71
  obtain ⟨n28, hf⟩ := hf
  refine gw_sub [3, 2, 1, 0] rfl ?_
  refine L8 _ (fun s_112e8 x1_112e8 x2_112e8 r1_112e8 r2_112e8 hf => ?_) n28 s0 2000 0 0 (by decide) (by decide) (by decide) hf
  refine gw_iload_n F 1 rfl rfl dX11_rangeOfTrial_112 ?_
  refine gw_if_ne F (tgt := 120) dX11_rangeOfTrial_113 (by decide) r2_112e8 (fun c29 => ?_) (fun c29 => ?_)
  · have hf := hf.1 c29
    refine gw_iload_n F 1 rfl rfl dX11_rangeOfTrial_120 ?_
    refine gw_iload_n F 0 rfl rfl dX11_rangeOfTrial_121 ?_
    refine gw_isub F rfl dX11_rangeOfTrial_122 ?_
    obtain ⟨g30, hf⟩ := hf
    exact gr_HI F g30 hf (by decide) (by decide) dX11_rangeOfTrial_123
  · have hf := hf.2 c29
    refine gw_iconst F dX11_rangeOfTrial_116 ?_
    refine gw_goto F (tgt := 123) dX11_rangeOfTrial_117 (by decide) ?_
    exact gr_HI F (by decide) hf (by decide) (by decide) dX11_rangeOfTrial_123

theorem dX1_addAlike_0 : decode cX1_addAlike 0 = .ok (.iconst 0, 1) := by decide +kernel
theorem dX1_addAlike_1 : decode cX1_addAlike 1 = .ok (.istore 6, 2) := by decide +kernel
theorem dX1_addAlike_3 : decode cX1_addAlike 3 = .ok (.iload 6, 2) := by decide +kernel
theorem dX1_addAlike_5 : decode cX1_addAlike 5 = .ok (.iload_n 1, 1) := by decide +kernel
theorem dX1_addAlike_6 : decode cX1_addAlike 6 = .ok (.if_icmp .ge 77, 3) := by decide +kernel
theorem dX1_addAlike_9 : decode cX1_addAlike 9 = .ok (.aload_n 0, 1) := by decide +kernel
theorem dX1_addAlike_10 : decode cX1_addAlike 10 = .ok (.getfield 24, 3) := by decide +kernel
theorem dX1_addAlike_13 : decode cX1_addAlike 13 = .ok (.ifCond .lt 70, 3) := by decide +kernel
theorem dX1_addAlike_16 : decode cX1_addAlike 16 = .ok (.aload_n 0, 1) := by decide +kernel
theorem dX1_addAlike_17 : decode cX1_addAlike 17 = .ok (.getfield 24, 3) := by decide +kernel
theorem dX1_addAlike_20 : decode cX1_addAlike 20 = .ok (.bipush 60, 2) := by decide +kernel
theorem dX1_addAlike_22 : decode cX1_addAlike 22 = .ok (.if_icmp .ge 61, 3) := by decide +kernel
theorem dX1_addAlike_25 : decode cX1_addAlike 25 = .ok (.aload_n 0, 1) := by decide +kernel
theorem dX1_addAlike_26 : decode cX1_addAlike 26 = .ok (.getfield 9, 3) := by decide +kernel
theorem dX1_addAlike_29 : decode cX1_addAlike 29 = .ok (.aload_n 0, 1) := by decide +kernel
theorem dX1_addAlike_30 : decode cX1_addAlike 30 = .ok (.getfield 24, 3) := by decide +kernel
theorem dX1_addAlike_33 : decode cX1_addAlike 33 = .ok (.iload_n 2, 1) := by decide +kernel
theorem dX1_addAlike_34 : decode cX1_addAlike 34 = .ok (.iastore, 1) := by decide +kernel
theorem dX1_addAlike_35 : decode cX1_addAlike 35 = .ok (.aload_n 0, 1) := by decide +kernel
theorem dX1_addAlike_36 : decode cX1_addAlike 36 = .ok (.getfield 15, 3) := by decide +kernel
theorem dX1_addAlike_39 : decode cX1_addAlike 39 = .ok (.aload_n 0, 1) := by decide +kernel
theorem dX1_addAlike_40 : decode cX1_addAlike 40 = .ok (.getfield 24, 3) := by decide +kernel
theorem dX1_addAlike_43 : decode cX1_addAlike 43 = .ok (.iload_n 3, 1) := by decide +kernel
theorem dX1_addAlike_44 : decode cX1_addAlike 44 = .ok (.iastore, 1) := by decide +kernel
theorem dX1_addAlike_45 : decode cX1_addAlike 45 = .ok (.aload_n 0, 1) := by decide +kernel
theorem dX1_addAlike_46 : decode cX1_addAlike 46 = .ok (.getfield 18, 3) := by decide +kernel
theorem dX1_addAlike_49 : decode cX1_addAlike 49 = .ok (.aload_n 0, 1) := by decide +kernel
theorem dX1_addAlike_50 : decode cX1_addAlike 50 = .ok (.getfield 24, 3) := by decide +kernel
theorem dX1_addAlike_53 : decode cX1_addAlike 53 = .ok (.iload 4, 2) := by decide +kernel
theorem dX1_addAlike_55 : decode cX1_addAlike 55 = .ok (.iastore, 1) := by decide +kernel
theorem dX1_addAlike_56 : decode cX1_addAlike 56 = .ok (.aload_n 0, 1) := by decide +kernel
theorem dX1_addAlike_57 : decode cX1_addAlike 57 = .ok (.getfield 21, 3) := by decide +kernel
theorem dX1_addAlike_60 : decode cX1_addAlike 60 = .ok (.aload_n 0, 1) := by decide +kernel
theorem dX1_addAlike_61 : decode cX1_addAlike 61 = .ok (.getfield 24, 3) := by decide +kernel
theorem dX1_addAlike_64 : decode cX1_addAlike 64 = .ok (.iload 5, 2) := by decide +kernel
theorem dX1_addAlike_66 : decode cX1_addAlike 66 = .ok (.iastore, 1) := by decide +kernel
theorem dX1_addAlike_67 : decode cX1_addAlike 67 = .ok (.aload_n 0, 1) := by decide +kernel
theorem dX1_addAlike_68 : decode cX1_addAlike 68 = .ok (.dup, 1) := by decide +kernel
theorem dX1_addAlike_69 : decode cX1_addAlike 69 = .ok (.getfield 24, 3) := by decide +kernel
theorem dX1_addAlike_72 : decode cX1_addAlike 72 = .ok (.iconst 1, 1) := by decide +kernel
theorem dX1_addAlike_73 : decode cX1_addAlike 73 = .ok (.iadd, 1) := by decide +kernel
theorem dX1_addAlike_74 : decode cX1_addAlike 74 = .ok (.putfield 24, 3) := by decide +kernel
theorem dX1_addAlike_77 : decode cX1_addAlike 77 = .ok (.iinc 6 1, 3) := by decide +kernel
theorem dX1_addAlike_80 : decode cX1_addAlike 80 = .ok (.goto (-77), 3) := by decide +kernel
theorem dX1_addAlike_83 : decode cX1_addAlike 83 = .ok (.return_, 1) := by decide +kernel
theorem hcX1_addAlike : yX1_addAlike.cls ≠ "java/lang/invoke/MethodHandle" ∧ yX1_addAlike.cls ≠ "java/lang/invoke/VarHandle" ∧ (parseMethodDescriptor yX1_addAlike.desc).map (fun d => d.parameters.length) = some 5 := ⟨by decide +kernel, by decide +kernel, by decide +kernel⟩
def fX1_addAlike_L3 (o : Int) (x1 : Int) (x2 : Int) (x3 : Int) (x4 : Int) (x5 : Int) (Q : sg_M → Prop) : Nat → sg_M → Int → Prop
  | 0, _, _ => False
  | n_3 + 1, s_3, x6_3 => ((x1 ≤ x6_3 → Q s_3) ∧ (¬ (x1 ≤ x6_3) → (((s_3 o 4) < 0 → Q s_3) ∧ (¬ ((s_3 o 4) < 0) → ((60 ≤ (s_3 o 4) → Q s_3) ∧ (¬ (60 ≤ (s_3 o 4)) → (0 ≤ (s_3 o 4) ∧ (s_3 o 4) < 60) ∧ ∀ s9 : sg_M, s9 = sg_up s_3 (o + 1) (s_3 o 4) x2 → (0 ≤ (s9 o 4) ∧ (s9 o 4) < 60) ∧ ∀ s14 : sg_M, s14 = sg_up s9 (o + 2) (s9 o 4) x3 → (0 ≤ (s14 o 4) ∧ (s14 o 4) < 60) ∧ ∀ s19 : sg_M, s19 = sg_up s14 (o + 3) (s14 o 4) x4 → (0 ≤ (s19 o 4) ∧ (s19 o 4) < 60) ∧ ∀ s24 : sg_M, s24 = sg_up s19 (o + 4) (s19 o 4) x5 → sg_R ((s24 o 4) + 1) ∧ ∀ s28 : sg_M, s28 = sg_up s24 o 4 ((s24 o 4) + 1) → sg_R (x6_3 + 1) ∧ (fX1_addAlike_L3 o x1 x2 x3 x4 x5 Q n_3) s28 (x6_3 + 1)))))))
def fX1_addAlike (s0 : sg_M) (o : Int) (x1 : Int) (x2 : Int) (x3 : Int) (x4 : Int) (x5 : Int) (Q : sg_M → Prop) : Prop := (∃ n31 : Nat, fX1_addAlike_L3 o x1 x2 x3 x4 x5 Q n31 s0 0)
set_option maxHeartbeats 4000000 in
set_option maxRecDepth 100000 in
theorem CX1_addAlike {l : Launch} {G : sg_G} {La : sg_L} {s0 : sg_M} {o : Int} (to : sg_O La o 1) {x1 : Int} (r1 : sg_R x1) {x2 : Int} (r2 : sg_R x2) {x3 : Int} (r3 : sg_R x3) {x4 : Int} (r4 : sg_R x4) {x5 : Int} (r5 : sg_R x5) {Q : sg_M → Prop} (hf : fX1_addAlike s0 o x1 x2 x3 x4 x5 Q) : sg_C l G yX1_addAlike cX1_addAlike 7 (none) 1 0 0 La s0 [sg_r o, sg_i x1, sg_i x2, sg_i x3, sg_i x4, sg_i x5] (sg_HV La Q) := by
  refine sg_body (by decide +kernel) (Nat.le_of_ble_eq_true rfl) ?_
  intro p e s m args below meth c F hnm
  unfold fX1_addAlike at hf
  show sg_W p l e (sg_rm 1 0 0) s m args below meth c (MQ below (sg_Q (none) G La s.heap.size (sg_HV La Q)) args s 0 0 (sg_A La s.heap.size)) 7 G (sg_A La s.heap.size) La s0 0 0 0 [(0, sg_r o), (1, sg_i x1), (2, sg_i x2), (3, sg_i x3), (4, sg_i x4), (5, sg_i x5)] []
  refine gw_iconst F dX1_addAlike_0 ?_
  refine gw_istore F (by decide) rfl dX1_addAlike_1 ?_
  have L3 : ∀ n_3 : Nat, ∀ (s_3 : sg_M) (x6_3 : Int), sg_R x6_3 → fX1_addAlike_L3 o x1 x2 x3 x4 x5 Q n_3 s_3 x6_3 → sg_W p l e (sg_rm 1 0 0) s m args below meth c (MQ below (sg_Q (none) G La s.heap.size (sg_HV La Q)) args s 0 0 (sg_A La s.heap.size)) 7 G (sg_A La s.heap.size) La s_3 0 0 3 [(0, sg_r o), (1, sg_i x1), (2, sg_i x2), (3, sg_i x3), (4, sg_i x4), (5, sg_i x5), (6, sg_i x6_3)] [] := by
    intro n_3
    induction n_3 with
    | zero => intro s_3 x6_3 r6_3 hf; exact hf.elim
    | succ n_3 ih =>
      intro s_3 x6_3 r6_3 hf
      unfold fX1_addAlike_L3 at hf
      refine gw_iload F 6 rfl dX1_addAlike_3 ?_
      refine gw_iload_n F 1 rfl rfl dX1_addAlike_5 ?_
      refine gw_icmp_ge F (tgt := 83) dX1_addAlike_6 (by decide) r6_3 r1 (fun c1 => ?_) (fun c1 => ?_)
      · have hf := hf.1 c1
        exact gr_HV F hf (by decide) (by decide) dX1_addAlike_83
      · have hf := hf.2 c1
        refine gw_aload_n F 0 rfl rfl to.1 dX1_addAlike_9 ?_
        refine gw_get0 F to (by decide) rfl sg_lay_RX1 (j := 4) (by decide) rfl (host := "") (.inl kw_163) dX1_addAlike_10 (fun h2 => ?_)
        refine gw_if_lt F (tgt := 83) dX1_addAlike_13 (by decide) h2 (fun c3 => ?_) (fun c3 => ?_)
        · have hf := hf.1 c3
          exact gr_HV F hf (by decide) (by decide) dX1_addAlike_83
        · have hf := hf.2 c3
          refine gw_aload_n F 0 rfl rfl to.1 dX1_addAlike_16 ?_
          refine gw_get0 F to (by decide) rfl sg_lay_RX1 (j := 4) (by decide) rfl (host := "") (.inl kw_163) dX1_addAlike_17 (fun h4 => ?_)
          refine gw_bipush F rfl dX1_addAlike_20 ?_
          refine gw_icmp_ge F (tgt := 83) dX1_addAlike_22 (by decide) h4 (by decide) (fun c5 => ?_) (fun c5 => ?_)
          · have hf := hf.1 c5
            exact gr_HV F hf (by decide) (by decide) dX1_addAlike_83
          · have hf := hf.2 c5
            refine gw_aload_n F 0 rfl rfl to.1 dX1_addAlike_25 ?_
            refine gw_get3 F to (by decide) rfl sg_lay_RX1 (j := 0) (by decide) (o1 := (o + 1)) (by first | rfl | omega) rfl (host := "") (.inl kw_158) dX1_addAlike_26 (fun h6 => ?_)
            refine gw_aload_n F 0 rfl rfl to.1 dX1_addAlike_29 ?_
            refine gw_get0 F to (by decide) rfl sg_lay_RX1 (j := 4) (by decide) rfl (host := "") (.inl kw_163) dX1_addAlike_30 (fun h7 => ?_)
            refine gw_iload_n F 2 rfl rfl dX1_addAlike_33 ?_
            obtain ⟨⟨b80, b81⟩, hf⟩ := hf
            obtain ⟨s9, e10⟩ : ∃ z : sg_M, z = sg_up s_3 (o + 1) (s_3 o 4) x2 := ⟨_, rfl⟩
            have hf := hf s9 e10
            refine gw_iast F (sg_AN_of (sg_O_of h6 (by decide)) (by decide) (by decide) (by decide)) b80 b81 r2 e10 dX1_addAlike_34 ?_
            refine gw_aload_n F 0 rfl rfl to.1 dX1_addAlike_35 ?_
            refine gw_get3 F to (by decide) rfl sg_lay_RX1 (j := 1) (by decide) (o1 := (o + 2)) (by first | rfl | omega) rfl (host := "") (.inl kw_159) dX1_addAlike_36 (fun h11 => ?_)
            refine gw_aload_n F 0 rfl rfl to.1 dX1_addAlike_39 ?_
            refine gw_get0 F to (by decide) rfl sg_lay_RX1 (j := 4) (by decide) rfl (host := "") (.inl kw_163) dX1_addAlike_40 (fun h12 => ?_)
            refine gw_iload_n F 3 rfl rfl dX1_addAlike_43 ?_
            obtain ⟨⟨b130, b131⟩, hf⟩ := hf
            obtain ⟨s14, e15⟩ : ∃ z : sg_M, z = sg_up s9 (o + 2) (s9 o 4) x3 := ⟨_, rfl⟩
            have hf := hf s14 e15
            refine gw_iast F (sg_AN_of (sg_O_of h11 (by decide)) (by decide) (by decide) (by decide)) b130 b131 r3 e15 dX1_addAlike_44 ?_
            refine gw_aload_n F 0 rfl rfl to.1 dX1_addAlike_45 ?_
            refine gw_get3 F to (by decide) rfl sg_lay_RX1 (j := 2) (by decide) (o1 := (o + 3)) (by first | rfl | omega) rfl (host := "") (.inl kw_161) dX1_addAlike_46 (fun h16 => ?_)
            refine gw_aload_n F 0 rfl rfl to.1 dX1_addAlike_49 ?_
            refine gw_get0 F to (by decide) rfl sg_lay_RX1 (j := 4) (by decide) rfl (host := "") (.inl kw_163) dX1_addAlike_50 (fun h17 => ?_)
            refine gw_iload F 4 rfl dX1_addAlike_53 ?_
            obtain ⟨⟨b180, b181⟩, hf⟩ := hf
            obtain ⟨s19, e20⟩ : ∃ z : sg_M, z = sg_up s14 (o + 3) (s14 o 4) x4 := ⟨_, rfl⟩
            have hf := hf s19 e20
            refine gw_iast F (sg_AN_of (sg_O_of h16 (by decide)) (by decide) (by decide) (by decide)) b180 b181 r4 e20 dX1_addAlike_55 ?_
            refine gw_aload_n F 0 rfl rfl to.1 dX1_addAlike_56 ?_
            refine gw_get3 F to (by decide) rfl sg_lay_RX1 (j := 3) (by decide) (o1 := (o + 4)) (by first | rfl | omega) rfl (host := "") (.inl kw_162) dX1_addAlike_57 (fun h21 => ?_)
            refine gw_aload_n F 0 rfl rfl to.1 dX1_addAlike_60 ?_
            refine gw_get0 F to (by decide) rfl sg_lay_RX1 (j := 4) (by decide) rfl (host := "") (.inl kw_163) dX1_addAlike_61 (fun h22 => ?_)
            refine gw_iload F 5 rfl dX1_addAlike_64 ?_
            obtain ⟨⟨b230, b231⟩, hf⟩ := hf
            obtain ⟨s24, e25⟩ : ∃ z : sg_M, z = sg_up s19 (o + 4) (s19 o 4) x5 := ⟨_, rfl⟩
            have hf := hf s24 e25
            refine gw_iast F (sg_AN_of (sg_O_of h21 (by decide)) (by decide) (by decide) (by decide)) b230 b231 r5 e25 dX1_addAlike_66 ?_
            refine gw_aload_n F 0 rfl rfl to.1 dX1_addAlike_67 ?_
            refine gw_dup F rfl dX1_addAlike_68 ?_
            refine gw_get0 F to (by decide) rfl sg_lay_RX1 (j := 4) (by decide) rfl (host := "") (.inl kw_163) dX1_addAlike_69 (fun h26 => ?_)
            refine gw_iconst F dX1_addAlike_72 ?_
            refine gw_iadd F rfl dX1_addAlike_73 ?_
            obtain ⟨g27, hf⟩ := hf
            obtain ⟨s28, e29⟩ : ∃ z : sg_M, z = sg_up s24 o 4 ((s24 o 4) + 1) := ⟨_, rfl⟩
            have hf := hf s28 e29
            refine gw_put0 F to (by decide) rfl sg_lay_RX1 (j := 4) (by decide) g27 e29 tyX1_ok nmX1 rfl (tyX1_ok 4 (by decide)) rfl (host := "") (.inl kw_163) dX1_addAlike_74 ?_
            refine gw_iinc F (z := (x6_3 + 1)) 6 rfl (by omega) (by decide) rfl dX1_addAlike_77 ?_
            refine gw_goto F (tgt := 3) dX1_addAlike_80 (by decide) ?_
            obtain ⟨g30, hf⟩ := hf
            refine gw_sub [1, 2, 3, 4, 5, 6, 0] rfl ?_
            exact ih s28 (x6_3 + 1) g30 hf
  obtain ⟨n31, hf⟩ := hf
  refine gw_sub [1, 2, 3, 4, 5, 6, 0] rfl ?_
  refine L3   n31 s0 0 (by decide) hf

theorem dX1_copyFrom_0 : decode cX1_copyFrom 0 = .ok (.aload_n 0, 1) := by decide +kernel
theorem dX1_copyFrom_1 : decode cX1_copyFrom 1 = .ok (.iconst 0, 1) := by decide +kernel
theorem dX1_copyFrom_2 : decode cX1_copyFrom 2 = .ok (.putfield 24, 3) := by decide +kernel
theorem dX1_copyFrom_5 : decode cX1_copyFrom 5 = .ok (.iconst 0, 1) := by decide +kernel
theorem dX1_copyFrom_6 : decode cX1_copyFrom 6 = .ok (.istore_n 2, 1) := by decide +kernel
theorem dX1_copyFrom_7 : decode cX1_copyFrom 7 = .ok (.iload_n 2, 1) := by decide +kernel
theorem dX1_copyFrom_8 : decode cX1_copyFrom 8 = .ok (.aload_n 1, 1) := by decide +kernel
theorem dX1_copyFrom_9 : decode cX1_copyFrom 9 = .ok (.getfield 24, 3) := by decide +kernel
theorem dX1_copyFrom_12 : decode cX1_copyFrom 12 = .ok (.if_icmp .ge 44, 3) := by decide +kernel
theorem dX1_copyFrom_15 : decode cX1_copyFrom 15 = .ok (.iload_n 2, 1) := by decide +kernel
theorem dX1_copyFrom_16 : decode cX1_copyFrom 16 = .ok (.bipush 60, 2) := by decide +kernel
theorem dX1_copyFrom_18 : decode cX1_copyFrom 18 = .ok (.if_icmp .ge 38, 3) := by decide +kernel
theorem dX1_copyFrom_21 : decode cX1_copyFrom 21 = .ok (.aload_n 0, 1) := by decide +kernel
theorem dX1_copyFrom_22 : decode cX1_copyFrom 22 = .ok (.iconst 1, 1) := by decide +kernel
theorem dX1_copyFrom_23 : decode cX1_copyFrom 23 = .ok (.aload_n 1, 1) := by decide +kernel
theorem dX1_copyFrom_24 : decode cX1_copyFrom 24 = .ok (.getfield 9, 3) := by decide +kernel
theorem dX1_copyFrom_27 : decode cX1_copyFrom 27 = .ok (.iload_n 2, 1) := by decide +kernel
theorem dX1_copyFrom_28 : decode cX1_copyFrom 28 = .ok (.iaload, 1) := by decide +kernel
theorem dX1_copyFrom_29 : decode cX1_copyFrom 29 = .ok (.aload_n 1, 1) := by decide +kernel
theorem dX1_copyFrom_30 : decode cX1_copyFrom 30 = .ok (.getfield 15, 3) := by decide +kernel
theorem dX1_copyFrom_33 : decode cX1_copyFrom 33 = .ok (.iload_n 2, 1) := by decide +kernel
theorem dX1_copyFrom_34 : decode cX1_copyFrom 34 = .ok (.iaload, 1) := by decide +kernel
theorem dX1_copyFrom_35 : decode cX1_copyFrom 35 = .ok (.aload_n 1, 1) := by decide +kernel
theorem dX1_copyFrom_36 : decode cX1_copyFrom 36 = .ok (.getfield 18, 3) := by decide +kernel
theorem dX1_copyFrom_39 : decode cX1_copyFrom 39 = .ok (.iload_n 2, 1) := by decide +kernel
theorem dX1_copyFrom_40 : decode cX1_copyFrom 40 = .ok (.iaload, 1) := by decide +kernel
theorem dX1_copyFrom_41 : decode cX1_copyFrom 41 = .ok (.aload_n 1, 1) := by decide +kernel
theorem dX1_copyFrom_42 : decode cX1_copyFrom 42 = .ok (.getfield 21, 3) := by decide +kernel
theorem dX1_copyFrom_45 : decode cX1_copyFrom 45 = .ok (.iload_n 2, 1) := by decide +kernel
theorem dX1_copyFrom_46 : decode cX1_copyFrom 46 = .ok (.iaload, 1) := by decide +kernel
theorem dX1_copyFrom_47 : decode cX1_copyFrom 47 = .ok (.invokevirtual 34, 3) := by decide +kernel
theorem dX1_copyFrom_50 : decode cX1_copyFrom 50 = .ok (.iinc 2 1, 3) := by decide +kernel
theorem dX1_copyFrom_53 : decode cX1_copyFrom 53 = .ok (.goto (-46), 3) := by decide +kernel
theorem dX1_copyFrom_56 : decode cX1_copyFrom 56 = .ok (.aload_n 0, 1) := by decide +kernel
theorem dX1_copyFrom_57 : decode cX1_copyFrom 57 = .ok (.aload_n 1, 1) := by decide +kernel
theorem dX1_copyFrom_58 : decode cX1_copyFrom 58 = .ok (.getfield 28, 3) := by decide +kernel
theorem dX1_copyFrom_61 : decode cX1_copyFrom 61 = .ok (.putfield 28, 3) := by decide +kernel
theorem dX1_copyFrom_64 : decode cX1_copyFrom 64 = .ok (.aload_n 0, 1) := by decide +kernel
theorem dX1_copyFrom_65 : decode cX1_copyFrom 65 = .ok (.aload_n 1, 1) := by decide +kernel
theorem dX1_copyFrom_66 : decode cX1_copyFrom 66 = .ok (.getfield 31, 3) := by decide +kernel
theorem dX1_copyFrom_69 : decode cX1_copyFrom 69 = .ok (.putfield 31, 3) := by decide +kernel
theorem dX1_copyFrom_72 : decode cX1_copyFrom 72 = .ok (.return_, 1) := by decide +kernel
theorem hcX1_copyFrom : yX1_copyFrom.cls ≠ "java/lang/invoke/MethodHandle" ∧ yX1_copyFrom.cls ≠ "java/lang/invoke/VarHandle" ∧ (parseMethodDescriptor yX1_copyFrom.desc).map (fun d => d.parameters.length) = some 1 := ⟨by decide +kernel, by decide +kernel, by decide +kernel⟩
def fX1_copyFrom_L7 (o : Int) (o1 : Int) (Q : sg_M → Prop) : Nat → sg_M → Int → Prop
  | 0, _, _ => False
  | n_7 + 1, s_7, x2_7 => (((s_7 o1 4) ≤ x2_7 → ∀ s6 : sg_M, s6 = sg_up s_7 o 5 (s_7 o1 5) → ∀ s9 : sg_M, s9 = sg_up s6 o 6 (s6 o1 6) → Q s9) ∧ (¬ ((s_7 o1 4) ≤ x2_7) → ((60 ≤ x2_7 → ∀ s13 : sg_M, s13 = sg_up s_7 o 5 (s_7 o1 5) → ∀ s16 : sg_M, s16 = sg_up s13 o 6 (s13 o1 6) → Q s16) ∧ (¬ (60 ≤ x2_7) → (0 ≤ x2_7 ∧ x2_7 < 60) ∧ (0 ≤ x2_7 ∧ x2_7 < 60) ∧ (0 ≤ x2_7 ∧ x2_7 < 60) ∧ (0 ≤ x2_7 ∧ x2_7 < 60) ∧ fX1_addAlike s_7 o 1 (s_7 (o1 + 1) x2_7) (s_7 (o1 + 2) x2_7) (s_7 (o1 + 3) x2_7) (s_7 (o1 + 4) x2_7) (fun s30 => sg_R (x2_7 + 1) ∧ (fX1_copyFrom_L7 o o1 Q n_7) s30 (x2_7 + 1))))))
def fX1_copyFrom (s0 : sg_M) (o : Int) (o1 : Int) (Q : sg_M → Prop) : Prop := ∀ s1 : sg_M, s1 = sg_up s0 o 4 0 → (∃ n32 : Nat, fX1_copyFrom_L7 o o1 Q n32 s1 0)
set_option maxHeartbeats 4000000 in
set_option maxRecDepth 100000 in
theorem CX1_copyFrom {l : Launch} {G : sg_G} {La : sg_L} {s0 : sg_M} {o : Int} (to : sg_O La o 1) {o1 : Int} (t1 : sg_O La o1 1) {Q : sg_M → Prop} (hf : fX1_copyFrom s0 o o1 Q) : sg_C l G yX1_copyFrom cX1_copyFrom 3 (none) 2 0 0 La s0 [sg_r o, sg_r o1] (sg_HV La Q) := by
  refine sg_body (by decide +kernel) (Nat.le_of_ble_eq_true rfl) ?_
  intro p e s m args below meth c F hnm
  unfold fX1_copyFrom at hf
  show sg_W p l e (sg_rm 2 0 0) s m args below meth c (MQ below (sg_Q (none) G La s.heap.size (sg_HV La Q)) args s 0 0 (sg_A La s.heap.size)) 3 G (sg_A La s.heap.size) La s0 0 0 0 [(0, sg_r o), (1, sg_r o1)] []
  refine gw_aload_n F 0 rfl rfl to.1 dX1_copyFrom_0 ?_
  refine gw_iconst F dX1_copyFrom_1 ?_
  obtain ⟨s1, e2⟩ : ∃ z : sg_M, z = sg_up s0 o 4 0 := ⟨_, rfl⟩
  have hf := hf s1 e2
  refine gw_put0 F to (by decide) rfl sg_lay_RX1 (j := 4) (by decide) (by decide) e2 tyX1_ok nmX1 rfl (tyX1_ok 4 (by decide)) rfl (host := "") (.inl kw_163) dX1_copyFrom_2 ?_
  refine gw_iconst F dX1_copyFrom_5 ?_
  refine gw_istore_n F rfl (by decide) rfl dX1_copyFrom_6 ?_
  have L7 : ∀ n_7 : Nat, ∀ (s_7 : sg_M) (x2_7 : Int), sg_R x2_7 → fX1_copyFrom_L7 o o1 Q n_7 s_7 x2_7 → sg_W p l e (sg_rm 2 0 0) s m args below meth c (MQ below (sg_Q (none) G La s.heap.size (sg_HV La Q)) args s 0 0 (sg_A La s.heap.size)) 3 G (sg_A La s.heap.size) La s_7 0 0 7 [(0, sg_r o), (1, sg_r o1), (2, sg_i x2_7)] [] := by
    intro n_7
    induction n_7 with
    | zero => intro s_7 x2_7 r2_7 hf; exact hf.elim
    | succ n_7 ih =>
      intro s_7 x2_7 r2_7 hf
      unfold fX1_copyFrom_L7 at hf
      refine gw_iload_n F 2 rfl rfl dX1_copyFrom_7 ?_
      refine gw_aload_n F 1 rfl rfl t1.1 dX1_copyFrom_8 ?_
      refine gw_get0 F t1 (by decide) rfl sg_lay_RX1 (j := 4) (by decide) rfl (host := "") (.inl kw_163) dX1_copyFrom_9 (fun h3 => ?_)
      refine gw_icmp_ge F (tgt := 56) dX1_copyFrom_12 (by decide) r2_7 h3 (fun c4 => ?_) (fun c4 => ?_)
      · have hf := hf.1 c4
        refine gw_aload_n F 0 rfl rfl to.1 dX1_copyFrom_56 ?_
        refine gw_aload_n F 1 rfl rfl t1.1 dX1_copyFrom_57 ?_
        refine gw_get0 F t1 (by decide) rfl sg_lay_RX1 (j := 5) (by decide) rfl (host := "") (.inl kw_166) dX1_copyFrom_58 (fun h5 => ?_)
        obtain ⟨s6, e7⟩ : ∃ z : sg_M, z = sg_up s_7 o 5 (s_7 o1 5) := ⟨_, rfl⟩
        have hf := hf s6 e7
        refine gw_put0 F to (by decide) rfl sg_lay_RX1 (j := 5) (by decide) h5 e7 tyX1_ok nmX1 rfl (tyX1_ok 5 (by decide)) rfl (host := "") (.inl kw_166) dX1_copyFrom_61 ?_
        refine gw_aload_n F 0 rfl rfl to.1 dX1_copyFrom_64 ?_
        refine gw_aload_n F 1 rfl rfl t1.1 dX1_copyFrom_65 ?_
        refine gw_get0 F t1 (by decide) rfl sg_lay_RX1 (j := 6) (by decide) rfl (host := "") (.inl kw_169) dX1_copyFrom_66 (fun h8 => ?_)
        obtain ⟨s9, e10⟩ : ∃ z : sg_M, z = sg_up s6 o 6 (s6 o1 6) := ⟨_, rfl⟩
        have hf := hf s9 e10
        refine gw_put0 F to (by decide) rfl sg_lay_RX1 (j := 6) (by decide) h8 e10 tyX1_ok nmX1 rfl (tyX1_ok 6 (by decide)) rfl (host := "") (.inl kw_169) dX1_copyFrom_69 ?_
        exact gr_HV F hf (by decide) (by decide) dX1_copyFrom_72
      · have hf := hf.2 c4
        refine gw_iload_n F 2 rfl rfl dX1_copyFrom_15 ?_
        refine gw_bipush F rfl dX1_copyFrom_16 ?_
        refine gw_icmp_ge F (tgt := 56) dX1_copyFrom_18 (by decide) r2_7 (by decide) (fun c11 => ?_) (fun c11 => ?_)
        · have hf := hf.1 c11
          refine gw_aload_n F 0 rfl rfl to.1 dX1_copyFrom_56 ?_
          refine gw_aload_n F 1 rfl rfl t1.1 dX1_copyFrom_57 ?_
          refine gw_get0 F t1 (by decide) rfl sg_lay_RX1 (j := 5) (by decide) rfl (host := "") (.inl kw_166) dX1_copyFrom_58 (fun h12 => ?_)
          obtain ⟨s13, e14⟩ : ∃ z : sg_M, z = sg_up s_7 o 5 (s_7 o1 5) := ⟨_, rfl⟩
          have hf := hf s13 e14
          refine gw_put0 F to (by decide) rfl sg_lay_RX1 (j := 5) (by decide) h12 e14 tyX1_ok nmX1 rfl (tyX1_ok 5 (by decide)) rfl (host := "") (.inl kw_166) dX1_copyFrom_61 ?_
          refine gw_aload_n F 0 rfl rfl to.1 dX1_copyFrom_64 ?_
          refine gw_aload_n F 1 rfl rfl t1.1 dX1_copyFrom_65 ?_
          refine gw_get0 F t1 (by decide) rfl sg_lay_RX1 (j := 6) (by decide) rfl (host := "") (.inl kw_169) dX1_copyFrom_66 (fun h15 => ?_)
          obtain ⟨s16, e17⟩ : ∃ z : sg_M, z = sg_up s13 o 6 (s13 o1 6) := ⟨_, rfl⟩
          have hf := hf s16 e17
          refine gw_put0 F to (by decide) rfl sg_lay_RX1 (j := 6) (by decide) h15 e17 tyX1_ok nmX1 rfl (tyX1_ok 6 (by decide)) rfl (host := "") (.inl kw_169) dX1_copyFrom_69 ?_
          exact gr_HV F hf (by decide) (by decide) dX1_copyFrom_72
        · have hf := hf.2 c11
          refine gw_aload_n F 0 rfl rfl to.1 dX1_copyFrom_21 ?_
          refine gw_iconst F dX1_copyFrom_22 ?_
          refine gw_aload_n F 1 rfl rfl t1.1 dX1_copyFrom_23 ?_
          refine gw_get3 F t1 (by decide) rfl sg_lay_RX1 (j := 0) (by decide) (o1 := (o1 + 1)) (by first | rfl | omega) rfl (host := "") (.inl kw_158) dX1_copyFrom_24 (fun h18 => ?_)
          refine gw_iload_n F 2 rfl rfl dX1_copyFrom_27 ?_
          obtain ⟨⟨b190, b191⟩, hf⟩ := hf
          refine gw_iald F (sg_AN_of (sg_O_of h18 (by decide)) (by decide) (by decide) (by decide)) b190 b191 dX1_copyFrom_28 (fun h20 => ?_)
          refine gw_aload_n F 1 rfl rfl t1.1 dX1_copyFrom_29 ?_
          refine gw_get3 F t1 (by decide) rfl sg_lay_RX1 (j := 1) (by decide) (o1 := (o1 + 2)) (by first | rfl | omega) rfl (host := "") (.inl kw_159) dX1_copyFrom_30 (fun h21 => ?_)
          refine gw_iload_n F 2 rfl rfl dX1_copyFrom_33 ?_
          obtain ⟨⟨b220, b221⟩, hf⟩ := hf
          refine gw_iald F (sg_AN_of (sg_O_of h21 (by decide)) (by decide) (by decide) (by decide)) b220 b221 dX1_copyFrom_34 (fun h23 => ?_)
          refine gw_aload_n F 1 rfl rfl t1.1 dX1_copyFrom_35 ?_
          refine gw_get3 F t1 (by decide) rfl sg_lay_RX1 (j := 2) (by decide) (o1 := (o1 + 3)) (by first | rfl | omega) rfl (host := "") (.inl kw_161) dX1_copyFrom_36 (fun h24 => ?_)
          refine gw_iload_n F 2 rfl rfl dX1_copyFrom_39 ?_
          obtain ⟨⟨b250, b251⟩, hf⟩ := hf
          refine gw_iald F (sg_AN_of (sg_O_of h24 (by decide)) (by decide) (by decide) (by decide)) b250 b251 dX1_copyFrom_40 (fun h26 => ?_)
          refine gw_aload_n F 1 rfl rfl t1.1 dX1_copyFrom_41 ?_
          refine gw_get3 F t1 (by decide) rfl sg_lay_RX1 (j := 3) (by decide) (o1 := (o1 + 4)) (by first | rfl | omega) rfl (host := "") (.inl kw_162) dX1_copyFrom_42 (fun h27 => ?_)
          refine gw_iload_n F 2 rfl rfl dX1_copyFrom_45 ?_
          obtain ⟨⟨b280, b281⟩, hf⟩ := hf
          refine gw_iald F (sg_AN_of (sg_O_of h27 (by decide)) (by decide) (by decide) (by decide)) b280 b281 dX1_copyFrom_46 (fun h29 => ?_)
          refine gk_HV F (gc_V F (S := []) (As := [sg_i 1, sg_i (s_7 (o1 + 1) x2_7), sg_i (s_7 (o1 + 2) x2_7), sg_i (s_7 (o1 + 3) x2_7), sg_i (s_7 (o1 + 4) x2_7)]) (T := TX1) (N := 7) (CX1_addAlike to (by decide) h20 h23 h26 h29 hf) to (by decide) rfl kw_321 kw_94 kw_472 kw_319 kw_320 hcX1_addAlike ⟨by decide, by decide⟩ rfl rfl (Nat.le_of_ble_eq_true rfl) ⟨by decide, by decide⟩ dX1_copyFrom_47) (fun s30 hf => ?_)
          refine gw_iinc F (z := (x2_7 + 1)) 2 rfl (by omega) (by decide) rfl dX1_copyFrom_50 ?_
          refine gw_goto F (tgt := 7) dX1_copyFrom_53 (by decide) ?_
          obtain ⟨g31, hf⟩ := hf
          refine gw_sub [1, 2, 0] rfl ?_
          exact ih s30 (x2_7 + 1) g31 hf
  obtain ⟨n32, hf⟩ := hf
  refine gw_sub [1, 2, 0] rfl ?_
  refine L7   n32 s1 0 (by decide) hf

theorem dX1_thicken_0 : decode cX1_thicken 0 = .ok (.aload_n 0, 1) := by decide +kernel
theorem dX1_thicken_1 : decode cX1_thicken 1 = .ok (.getfield 24, 3) := by decide +kernel
theorem dX1_thicken_4 : decode cX1_thicken 4 = .ok (.iconst 1, 1) := by decide +kernel
theorem dX1_thicken_5 : decode cX1_thicken 5 = .ok (.isub, 1) := by decide +kernel
theorem dX1_thicken_6 : decode cX1_thicken 6 = .ok (.istore_n 3, 1) := by decide +kernel
theorem dX1_thicken_7 : decode cX1_thicken 7 = .ok (.iload_n 3, 1) := by decide +kernel
theorem dX1_thicken_8 : decode cX1_thicken 8 = .ok (.iconst 1, 1) := by decide +kernel
theorem dX1_thicken_9 : decode cX1_thicken 9 = .ok (.if_icmp .ge 4, 3) := by decide +kernel
theorem dX1_thicken_12 : decode cX1_thicken 12 = .ok (.return_, 1) := by decide +kernel
theorem dX1_thicken_13 : decode cX1_thicken 13 = .ok (.iconst 0, 1) := by decide +kernel
theorem dX1_thicken_14 : decode cX1_thicken 14 = .ok (.istore 4, 2) := by decide +kernel
theorem dX1_thicken_16 : decode cX1_thicken 16 = .ok (.iload 4, 2) := by decide +kernel
theorem dX1_thicken_18 : decode cX1_thicken 18 = .ok (.aload_n 0, 1) := by decide +kernel
theorem dX1_thicken_19 : decode cX1_thicken 19 = .ok (.getfield 24, 3) := by decide +kernel
theorem dX1_thicken_22 : decode cX1_thicken 22 = .ok (.if_icmp .ge 33, 3) := by decide +kernel
theorem dX1_thicken_25 : decode cX1_thicken 25 = .ok (.iload 4, 2) := by decide +kernel
theorem dX1_thicken_27 : decode cX1_thicken 27 = .ok (.bipush 60, 2) := by decide +kernel
theorem dX1_thicken_29 : decode cX1_thicken 29 = .ok (.if_icmp .ge 26, 3) := by decide +kernel
theorem dX1_thicken_32 : decode cX1_thicken 32 = .ok (.aload_n 0, 1) := by decide +kernel
theorem dX1_thicken_33 : decode cX1_thicken 33 = .ok (.getfield 15, 3) := by decide +kernel
theorem dX1_thicken_36 : decode cX1_thicken 36 = .ok (.iload 4, 2) := by decide +kernel
theorem dX1_thicken_38 : decode cX1_thicken 38 = .ok (.iload_n 1, 1) := by decide +kernel
theorem dX1_thicken_39 : decode cX1_thicken 39 = .ok (.iload_n 2, 1) := by decide +kernel
theorem dX1_thicken_40 : decode cX1_thicken 40 = .ok (.iload_n 1, 1) := by decide +kernel
theorem dX1_thicken_41 : decode cX1_thicken 41 = .ok (.isub, 1) := by decide +kernel
theorem dX1_thicken_42 : decode cX1_thicken 42 = .ok (.iload 4, 2) := by decide +kernel
theorem dX1_thicken_44 : decode cX1_thicken 44 = .ok (.imul, 1) := by decide +kernel
theorem dX1_thicken_45 : decode cX1_thicken 45 = .ok (.iload_n 3, 1) := by decide +kernel
theorem dX1_thicken_46 : decode cX1_thicken 46 = .ok (.idiv, 1) := by decide +kernel
theorem dX1_thicken_47 : decode cX1_thicken 47 = .ok (.iadd, 1) := by decide +kernel
theorem dX1_thicken_48 : decode cX1_thicken 48 = .ok (.iastore, 1) := by decide +kernel
theorem dX1_thicken_49 : decode cX1_thicken 49 = .ok (.iinc 4 1, 3) := by decide +kernel
theorem dX1_thicken_52 : decode cX1_thicken 52 = .ok (.goto (-36), 3) := by decide +kernel
theorem dX1_thicken_55 : decode cX1_thicken 55 = .ok (.return_, 1) := by decide +kernel
theorem hcX1_thicken : yX1_thicken.cls ≠ "java/lang/invoke/MethodHandle" ∧ yX1_thicken.cls ≠ "java/lang/invoke/VarHandle" ∧ (parseMethodDescriptor yX1_thicken.desc).map (fun d => d.parameters.length) = some 2 := ⟨by decide +kernel, by decide +kernel, by decide +kernel⟩
def fX1_thicken_L16 (s0 : sg_M) (o : Int) (x1 : Int) (x2 : Int) (Q : sg_M → Prop) : Nat → sg_M → Int → Prop
  | 0, _, _ => False
  | n_16 + 1, s_16, x4_16 => (((s_16 o 4) ≤ x4_16 → Q s_16) ∧ (¬ ((s_16 o 4) ≤ x4_16) → ((60 ≤ x4_16 → Q s_16) ∧ (¬ (60 ≤ x4_16) → sg_R ((x2 - x1) * x4_16) ∧ (((s0 o 4) - 1) ≠ 0) ∧ (0 ≤ x4_16 ∧ x4_16 < 60) ∧ sg_R (x1 + (Int.tdiv ((x2 - x1) * x4_16) ((s0 o 4) - 1))) ∧ ∀ v12 : Int, v12 = (x1 + (Int.tdiv ((x2 - x1) * x4_16) ((s0 o 4) - 1))) → ∀ s14 : sg_M, s14 = sg_up s_16 (o + 2) x4_16 v12 → sg_R (x4_16 + 1) ∧ (fX1_thicken_L16 s0 o x1 x2 Q n_16) s14 (x4_16 + 1)))))
def fX1_thicken (s0 : sg_M) (o : Int) (x1 : Int) (x2 : Int) (Q : sg_M → Prop) : Prop := sg_R ((s0 o 4) - 1) ∧ ((1 ≤ ((s0 o 4) - 1) → (∃ n17 : Nat, fX1_thicken_L16 s0 o x1 x2 Q n17 s0 0)) ∧ (¬ (1 ≤ ((s0 o 4) - 1)) → Q s0))
set_option maxHeartbeats 4000000 in
set_option maxRecDepth 100000 in
theorem CX1_thicken {l : Launch} {G : sg_G} {La : sg_L} {s0 : sg_M} {o : Int} (to : sg_O La o 1) {x1 : Int} (r1 : sg_R x1) {x2 : Int} (r2 : sg_R x2) {Q : sg_M → Prop} (hf : fX1_thicken s0 o x1 x2 Q) : sg_C l G yX1_thicken cX1_thicken 5 (none) 1 0 0 La s0 [sg_r o, sg_i x1, sg_i x2] (sg_HV La Q) := by
  refine sg_body (by decide +kernel) (Nat.le_of_ble_eq_true rfl) ?_
  intro p e s m args below meth c F hnm
  unfold fX1_thicken at hf
  show sg_W p l e (sg_rm 1 0 0) s m args below meth c (MQ below (sg_Q (none) G La s.heap.size (sg_HV La Q)) args s 0 0 (sg_A La s.heap.size)) 5 G (sg_A La s.heap.size) La s0 0 0 0 [(0, sg_r o), (1, sg_i x1), (2, sg_i x2)] []
  refine gw_aload_n F 0 rfl rfl to.1 dX1_thicken_0 ?_
  refine gw_get0 F to (by decide) rfl sg_lay_RX1 (j := 4) (by decide) rfl (host := "") (.inl kw_163) dX1_thicken_1 (fun h1 => ?_)
  refine gw_iconst F dX1_thicken_4 ?_
  refine gw_isub F rfl dX1_thicken_5 ?_
  refine gw_istore_n F rfl (by decide) rfl dX1_thicken_6 ?_
  refine gw_iload_n F 0 rfl rfl dX1_thicken_7 ?_
  refine gw_iconst F dX1_thicken_8 ?_
  obtain ⟨g2, hf⟩ := hf
  refine gw_icmp_ge F (tgt := 13) dX1_thicken_9 (by decide) g2 (by decide) (fun c3 => ?_) (fun c3 => ?_)
  · have hf := hf.1 c3
    refine gw_iconst F dX1_thicken_13 ?_
    refine gw_istore F (by decide) rfl dX1_thicken_14 ?_
    have L16 : ∀ n_16 : Nat, ∀ (s_16 : sg_M) (x4_16 : Int), sg_R x4_16 → fX1_thicken_L16 s0 o x1 x2 Q n_16 s_16 x4_16 → sg_W p l e (sg_rm 1 0 0) s m args below meth c (MQ below (sg_Q (none) G La s.heap.size (sg_HV La Q)) args s 0 0 (sg_A La s.heap.size)) 5 G (sg_A La s.heap.size) La s_16 0 0 16 [(0, sg_r o), (1, sg_i x1), (2, sg_i x2), (3, sg_i ((s0 o 4) - 1)), (4, sg_i x4_16)] [] := by
      intro n_16
      induction n_16 with
      | zero => intro s_16 x4_16 r4_16 hf; exact hf.elim
      | succ n_16 ih =>
        intro s_16 x4_16 r4_16 hf
        unfold fX1_thicken_L16 at hf
        refine gw_iload F 4 rfl dX1_thicken_16 ?_
        refine gw_aload_n F 0 rfl rfl to.1 dX1_thicken_18 ?_
        refine gw_get0 F to (by decide) rfl sg_lay_RX1 (j := 4) (by decide) rfl (host := "") (.inl kw_163) dX1_thicken_19 (fun h4 => ?_)
        refine gw_icmp_ge F (tgt := 55) dX1_thicken_22 (by decide) r4_16 h4 (fun c5 => ?_) (fun c5 => ?_)
        · have hf := hf.1 c5
          exact gr_HV F hf (by decide) (by decide) dX1_thicken_55
        · have hf := hf.2 c5
          refine gw_iload F 4 rfl dX1_thicken_25 ?_
          refine gw_bipush F rfl dX1_thicken_27 ?_
          refine gw_icmp_ge F (tgt := 55) dX1_thicken_29 (by decide) r4_16 (by decide) (fun c6 => ?_) (fun c6 => ?_)
          · have hf := hf.1 c6
            exact gr_HV F hf (by decide) (by decide) dX1_thicken_55
          · have hf := hf.2 c6
            refine gw_aload_n F 0 rfl rfl to.1 dX1_thicken_32 ?_
            refine gw_get3 F to (by decide) rfl sg_lay_RX1 (j := 1) (by decide) (o1 := (o + 2)) (by first | rfl | omega) rfl (host := "") (.inl kw_159) dX1_thicken_33 (fun h7 => ?_)
            refine gw_iload F 4 rfl dX1_thicken_36 ?_
            refine gw_iload_n F 1 rfl rfl dX1_thicken_38 ?_
            refine gw_iload_n F 2 rfl rfl dX1_thicken_39 ?_
            refine gw_iload_n F 1 rfl rfl dX1_thicken_40 ?_
            refine gw_isub F rfl dX1_thicken_41 ?_
            refine gw_iload F 4 rfl dX1_thicken_42 ?_
            refine gw_imul F rfl dX1_thicken_44 ?_
            refine gw_iload_n F 3 rfl rfl dX1_thicken_45 ?_
            obtain ⟨g8, hf⟩ := hf
            obtain ⟨g9, hf⟩ := hf
            refine gw_idiv F g8 g2 g9 rfl dX1_thicken_46 ?_
            refine gw_iadd F rfl dX1_thicken_47 ?_
            obtain ⟨⟨b100, b101⟩, hf⟩ := hf
            obtain ⟨g11, hf⟩ := hf
            obtain ⟨v12, e13⟩ : ∃ z : Int, z = (x1 + (Int.tdiv ((x2 - x1) * x4_16) ((s0 o 4) - 1))) := ⟨_, rfl⟩
            have hf := hf v12 e13
            refine gw_nmI e13 ?_
            obtain ⟨s14, e15⟩ : ∃ z : sg_M, z = sg_up s_16 (o + 2) x4_16 v12 := ⟨_, rfl⟩
            have hf := hf s14 e15
            refine gw_iast F (sg_AN_of (sg_O_of h7 (by decide)) (by decide) (by decide) (by decide)) b100 b101 (e13 ▸ g11) e15 dX1_thicken_48 ?_
            refine gw_iinc F (z := (x4_16 + 1)) 4 rfl (by omega) (by decide) rfl dX1_thicken_49 ?_
            refine gw_goto F (tgt := 16) dX1_thicken_52 (by decide) ?_
            obtain ⟨g16, hf⟩ := hf
            refine gw_sub [1, 2, 3, 4, 0] rfl ?_
            exact ih s14 (x4_16 + 1) g16 hf
    obtain ⟨n17, hf⟩ := hf
    refine gw_sub [2, 3, 4, 1, 0] rfl ?_
    refine L16   n17 s0 0 (by decide) hf
  · have hf := hf.2 c3
    exact gr_HV F hf (by decide) (by decide) dX1_thicken_12
