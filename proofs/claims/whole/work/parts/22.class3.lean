theorem dX11_which_0 : decode cX11_which 0 = .ok (.iload_n 1, 1) := by decide +kernel
theorem dX11_which_1 : decode cX11_which 1 = .ok (.invokestatic 258, 3) := by decide +kernel
theorem dX11_which_4 : decode cX11_which 4 = .ok (.ifCond .eq 14, 3) := by decide +kernel
theorem dX11_which_7 : decode cX11_which 7 = .ok (.aload_n 0, 1) := by decide +kernel
theorem dX11_which_8 : decode cX11_which 8 = .ok (.invokevirtual 304, 3) := by decide +kernel
theorem dX11_which_11 : decode cX11_which 11 = .ok (.ifCond .eq 7, 3) := by decide +kernel
theorem dX11_which_14 : decode cX11_which 14 = .ok (.iconst 1, 1) := by decide +kernel
theorem dX11_which_15 : decode cX11_which 15 = .ok (.goto 4, 3) := by decide +kernel
theorem dX11_which_18 : decode cX11_which 18 = .ok (.iconst 0, 1) := by decide +kernel
theorem dX11_which_19 : decode cX11_which 19 = .ok (.istore_n 2, 1) := by decide +kernel
theorem dX11_which_20 : decode cX11_which 20 = .ok (.iload_n 2, 1) := by decide +kernel
theorem dX11_which_21 : decode cX11_which 21 = .ok (.ifCond .eq 7, 3) := by decide +kernel
theorem dX11_which_24 : decode cX11_which 24 = .ok (.iconst 0, 1) := by decide +kernel
theorem dX11_which_25 : decode cX11_which 25 = .ok (.goto 4, 3) := by decide +kernel
theorem dX11_which_28 : decode cX11_which 28 = .ok (.iconst (-1), 1) := by decide +kernel
theorem dX11_which_29 : decode cX11_which 29 = .ok (.istore_n 3, 1) := by decide +kernel
theorem dX11_which_30 : decode cX11_which 30 = .ok (.iconst 0, 1) := by decide +kernel
theorem dX11_which_31 : decode cX11_which 31 = .ok (.istore 4, 2) := by decide +kernel
theorem dX11_which_33 : decode cX11_which 33 = .ok (.iload_n 2, 1) := by decide +kernel
theorem dX11_which_34 : decode cX11_which 34 = .ok (.ifCond .eq 53, 3) := by decide +kernel
theorem dX11_which_37 : decode cX11_which 37 = .ok (.iload 4, 2) := by decide +kernel
theorem dX11_which_39 : decode cX11_which 39 = .ok (.iconst 4, 1) := by decide +kernel
theorem dX11_which_40 : decode cX11_which 40 = .ok (.if_icmp .ge 47, 3) := by decide +kernel
theorem dX11_which_43 : decode cX11_which 43 = .ok (.aload_n 0, 1) := by decide +kernel
theorem dX11_which_44 : decode cX11_which 44 = .ok (.getfield 39, 3) := by decide +kernel
theorem dX11_which_47 : decode cX11_which 47 = .ok (.getfield 300, 3) := by decide +kernel
theorem dX11_which_50 : decode cX11_which 50 = .ok (.iload 4, 2) := by decide +kernel
theorem dX11_which_52 : decode cX11_which 52 = .ok (.aaload, 1) := by decide +kernel
theorem dX11_which_53 : decode cX11_which 53 = .ok (.ifnull 28, 3) := by decide +kernel
theorem dX11_which_56 : decode cX11_which 56 = .ok (.aload_n 0, 1) := by decide +kernel
theorem dX11_which_57 : decode cX11_which 57 = .ok (.aload_n 0, 1) := by decide +kernel
theorem dX11_which_58 : decode cX11_which 58 = .ok (.getfield 39, 3) := by decide +kernel
theorem dX11_which_61 : decode cX11_which 61 = .ok (.getfield 300, 3) := by decide +kernel
theorem dX11_which_64 : decode cX11_which 64 = .ok (.iload 4, 2) := by decide +kernel
theorem dX11_which_66 : decode cX11_which 66 = .ok (.aaload, 1) := by decide +kernel
theorem dX11_which_67 : decode cX11_which 67 = .ok (.iload_n 1, 1) := by decide +kernel
theorem dX11_which_68 : decode cX11_which 68 = .ok (.invokevirtual 308, 3) := by decide +kernel
theorem dX11_which_71 : decode cX11_which 71 = .ok (.ifCond .eq 10, 3) := by decide +kernel
theorem dX11_which_74 : decode cX11_which 74 = .ok (.iload_n 3, 1) := by decide +kernel
theorem dX11_which_75 : decode cX11_which 75 = .ok (.iconst 1, 1) := by decide +kernel
theorem dX11_which_76 : decode cX11_which 76 = .ok (.iload 4, 2) := by decide +kernel
theorem dX11_which_78 : decode cX11_which 78 = .ok (.ishl, 1) := by decide +kernel
theorem dX11_which_79 : decode cX11_which 79 = .ok (.ior, 1) := by decide +kernel
theorem dX11_which_80 : decode cX11_which 80 = .ok (.istore_n 3, 1) := by decide +kernel
theorem dX11_which_81 : decode cX11_which 81 = .ok (.iinc 4 1, 3) := by decide +kernel
theorem dX11_which_84 : decode cX11_which 84 = .ok (.goto (-51), 3) := by decide +kernel
theorem dX11_which_87 : decode cX11_which 87 = .ok (.aload_n 0, 1) := by decide +kernel
theorem dX11_which_88 : decode cX11_which 88 = .ok (.getfield 10, 3) := by decide +kernel
theorem dX11_which_91 : decode cX11_which 91 = .ok (.iconst 0, 1) := by decide +kernel
theorem dX11_which_92 : decode cX11_which 92 = .ok (.putfield 122, 3) := by decide +kernel
theorem dX11_which_95 : decode cX11_which 95 = .ok (.iload_n 3, 1) := by decide +kernel
theorem dX11_which_96 : decode cX11_which 96 = .ok (.ireturn, 1) := by decide +kernel
theorem hcX11_which : yX11_which.cls ≠ "java/lang/invoke/MethodHandle" ∧ yX11_which.cls ≠ "java/lang/invoke/VarHandle" ∧ (parseMethodDescriptor yX11_which.desc).map (fun d => d.parameters.length) = some 1 := ⟨by decide +kernel, by decide +kernel, by decide +kernel⟩
def fX11_which_j81 (x4_33 : Int) (k33 : sg_M → Int → Int → Prop) (s_81 : sg_M) (x3_81 : Int) : Prop := sg_R (x4_33 + 1) ∧ k33 s_81 x3_81 (x4_33 + 1)
def fX11_which_L33 (La : sg_L) (x1 : Int) (y0_19 : Int) (Q : Int → sg_M → Prop) : Nat → sg_M → Int → Int → Prop
  | 0, _, _, _ => False
  | n_33 + 1, s_33, x3_33, x4_33 => ((y0_19 = 0 → ∀ s5 : sg_M, s5 = sg_up s_33 1 1 0 → Q x3_33 s5) ∧ (¬ (y0_19 = 0) → ((4 ≤ x4_33 → ∀ s9 : sg_M, s9 = sg_up s_33 1 1 0 → Q x3_33 s9) ∧ (¬ (4 ≤ x4_33) → (0 ≤ x4_33 ∧ x4_33 < 4) ∧ (((s_33 25 x4_33) < 0 → (fX11_which_j81 x4_33 (fX11_which_L33 La x1 y0_19 Q n_33)) s_33 x3_33) ∧ (0 ≤ (s_33 25 x4_33) → (0 ≤ x4_33 ∧ x4_33 < 4) ∧ (0 ≤ (s_33 25 x4_33)) ∧ fX11_isFitting La s_33 (s_33 25 x4_33) x1 (fun u24 s26 => ((u24 = 0 → (fX11_which_j81 x4_33 (fX11_which_L33 La x1 y0_19 Q n_33)) s26 x3_33) ∧ (¬ (u24 = 0) → (fX11_which_j81 x4_33 (fX11_which_L33 La x1 y0_19 Q n_33)) s26 (sg_or x3_33 (sg_shl 1 x4_33)))))))))))
def fX11_which_j29 (La : sg_L) (s0 : sg_M) (x1 : Int) (y0_19 : Int) (Q : Int → sg_M → Prop) (y0_29 : Int) : Prop := (∃ n28 : Nat, fX11_which_L33 La x1 y0_19 Q n28 s0 y0_29 0)
def fX11_which_j19 (La : sg_L) (s0 : sg_M) (x1 : Int) (Q : Int → sg_M → Prop) (y0_19 : Int) : Prop := ((y0_19 = 0 → (fX11_which_j29 La s0 x1 y0_19 Q) (-1)) ∧ (¬ (y0_19 = 0) → (fX11_which_j29 La s0 x1 y0_19 Q) 0))
def fX11_which_j18  (k19 : Int → Prop)  : Prop := k19 0
def fX11_which (La : sg_L) (s0 : sg_M) (x1 : Int) (Q : Int → sg_M → Prop) : Prop := fX11_isSlip x1 (fun u1 => ((u1 = 0 → (fX11_which_j18  (fX11_which_j19 La s0 x1 Q))) ∧ (¬ (u1 = 0) → fX11_tellsTones s0 (fun u31 => ((u31 = 0 → (fX11_which_j18  (fX11_which_j19 La s0 x1 Q))) ∧ (¬ (u31 = 0) → (fX11_which_j19 La s0 x1 Q) 1))))))
set_option maxHeartbeats 4000000 in
set_option maxRecDepth 100000 in
theorem CX11_which {l : Launch} {G : sg_G} {La : sg_L} {s0 : sg_M} (hst : sg_St La) {x1 : Int} (r1 : sg_R x1) {Q : Int → sg_M → Prop} (hf : fX11_which La s0 x1 Q) : sg_C l G yX11_which cX11_which 5 (some .int) 7 0 0 La s0 [sg_r 0, sg_i x1] (sg_HI La Q) := by
  refine sg_body (by decide +kernel) (Nat.le_of_ble_eq_true rfl) ?_
  intro p e s m args below meth c F hnm
  unfold fX11_which at hf
  show sg_W p l e (sg_rm 7 0 0) s m args below meth c (MQ below (sg_Q (some .int) G La s.heap.size (sg_HI La Q)) args s 0 0 (sg_A La s.heap.size)) 5 G (sg_A La s.heap.size) La s0 0 0 0 [(0, sg_r 0), (1, sg_i x1)] []
  refine gw_iload_n F 1 rfl rfl dX11_which_0 ?_
  refine gk_PZ F (gc_S F (S := []) (As := [sg_i x1]) (CX11_isSlip r1 hf) kw_688 kw_90 kw_686 kw_687 hcX11_isSlip ⟨by decide, by decide⟩ rfl rfl (Nat.le_of_ble_eq_true rfl) ⟨by decide, by decide⟩ dX11_which_1) (fun u1 h2 hf => ?_)
  have J19 : ∀ (y0_19 : Int), sg_R y0_19 → (fX11_which_j19 La s0 x1 Q) y0_19 → sg_W p l e (sg_rm 7 0 0) s m args below meth c (MQ below (sg_Q (some .int) G La s.heap.size (sg_HI La Q)) args s 0 0 (sg_A La s.heap.size)) 5 G (sg_A La s.heap.size) La s0 0 0 19 [(0, sg_r 0), (1, sg_i x1)] [sg_i y0_19] := by
    intro y0_19 ry0_19 hf
    unfold fX11_which_j19 at hf
    refine gw_istore_n F rfl (by decide) rfl dX11_which_19 ?_
    refine gw_iload_n F 0 rfl rfl dX11_which_20 ?_
    have J29 : ∀ (y0_29 : Int), sg_R y0_29 → (fX11_which_j29 La s0 x1 y0_19 Q) y0_29 → sg_W p l e (sg_rm 7 0 0) s m args below meth c (MQ below (sg_Q (some .int) G La s.heap.size (sg_HI La Q)) args s 0 0 (sg_A La s.heap.size)) 5 G (sg_A La s.heap.size) La s0 0 0 29 [(0, sg_r 0), (1, sg_i x1), (2, sg_i y0_19)] [sg_i y0_29] := by
      intro y0_29 ry0_29 hf
      unfold fX11_which_j29 at hf
      refine gw_istore_n F rfl (by decide) rfl dX11_which_29 ?_
      refine gw_iconst F dX11_which_30 ?_
      refine gw_istore F (by decide) rfl dX11_which_31 ?_
      have L33 : ∀ n_33 : Nat, ∀ (s_33 : sg_M) (x3_33 : Int) (x4_33 : Int), sg_R x3_33 → sg_R x4_33 → fX11_which_L33 La x1 y0_19 Q n_33 s_33 x3_33 x4_33 → sg_W p l e (sg_rm 7 0 0) s m args below meth c (MQ below (sg_Q (some .int) G La s.heap.size (sg_HI La Q)) args s 0 0 (sg_A La s.heap.size)) 5 G (sg_A La s.heap.size) La s_33 0 0 33 [(0, sg_r 0), (1, sg_i x1), (2, sg_i y0_19), (3, sg_i x3_33), (4, sg_i x4_33)] [] := by
        intro n_33
        induction n_33 with
        | zero => intro s_33 x3_33 x4_33 r3_33 r4_33 hf; exact hf.elim
        | succ n_33 ih =>
          intro s_33 x3_33 x4_33 r3_33 r4_33 hf
          unfold fX11_which_L33 at hf
          refine gw_iload_n F 2 rfl rfl dX11_which_33 ?_
          refine gw_if_eq F (tgt := 87) dX11_which_34 (by decide) ry0_19 (fun c3 => ?_) (fun c3 => ?_)
          · have hf := hf.1 c3
            refine gw_aload_n F 0 rfl rfl (by decide) dX11_which_87 ?_
            refine gw_get7 F (so_0 hst) (by decide) rfl sg_lay_RX11 (j := 0) (by decide) (o1 := 1) (by first | rfl | omega) rfl (host := "") (.inl kw_326) dX11_which_88 (fun h4 => ?_)
            refine gw_iconst F dX11_which_91 ?_
            obtain ⟨s5, e6⟩ : ∃ z : sg_M, z = sg_up s_33 1 1 0 := ⟨_, rfl⟩
            have hf := hf s5 e6
            refine gw_put0 F (so_1 hst) (by decide) rfl sg_lay_RX8 (j := 1) (by decide) (by decide) e6 tyX8_ok nmX8 rfl (tyX8_ok 1 (by decide)) rfl (.inr kw_128) dX11_which_92 ?_
            refine gw_iload_n F 3 rfl rfl dX11_which_95 ?_
            exact gr_HI F r3_33 hf (by decide) (by decide) dX11_which_96
          · have hf := hf.2 c3
            refine gw_iload F 4 rfl dX11_which_37 ?_
            refine gw_iconst F dX11_which_39 ?_
            refine gw_icmp_ge F (tgt := 87) dX11_which_40 (by decide) r4_33 (by decide) (fun c7 => ?_) (fun c7 => ?_)
            · have hf := hf.1 c7
              refine gw_aload_n F 0 rfl rfl (by decide) dX11_which_87 ?_
              refine gw_get7 F (so_0 hst) (by decide) rfl sg_lay_RX11 (j := 0) (by decide) (o1 := 1) (by first | rfl | omega) rfl (host := "") (.inl kw_326) dX11_which_88 (fun h8 => ?_)
              refine gw_iconst F dX11_which_91 ?_
              obtain ⟨s9, e10⟩ : ∃ z : sg_M, z = sg_up s_33 1 1 0 := ⟨_, rfl⟩
              have hf := hf s9 e10
              refine gw_put0 F (so_1 hst) (by decide) rfl sg_lay_RX8 (j := 1) (by decide) (by decide) e10 tyX8_ok nmX8 rfl (tyX8_ok 1 (by decide)) rfl (.inr kw_128) dX11_which_92 ?_
              refine gw_iload_n F 3 rfl rfl dX11_which_95 ?_
              exact gr_HI F r3_33 hf (by decide) (by decide) dX11_which_96
            · have hf := hf.2 c7
              refine gw_aload_n F 0 rfl rfl (by decide) dX11_which_43 ?_
              refine gw_get7 F (so_0 hst) (by decide) rfl sg_lay_RX11 (j := 2) (by decide) (o1 := 4) (by first | rfl | omega) rfl (host := "") (.inl kw_328) dX11_which_44 (fun h11 => ?_)
              refine gw_get7 F (so_4 hst) (by decide) rfl sg_lay_RX7 (j := 4) (by decide) (o1 := 25) (by first | rfl | omega) rfl (.inr kw_242) dX11_which_47 (fun h12 => ?_)
              refine gw_iload F 4 rfl dX11_which_50 ?_
              obtain ⟨⟨b130, b131⟩, hf⟩ := hf
              refine gw_aaldB F (n := 4) (so_25 hst) (by decide) (by decide) (by decide) b130 b131 dX11_which_52 (fun h14 => ?_)
              have J81 : ∀ (s_81 : sg_M) (x3_81 : Int), sg_R x3_81 → (fX11_which_j81 x4_33 (fX11_which_L33 La x1 y0_19 Q n_33)) s_81 x3_81 → sg_W p l e (sg_rm 7 0 0) s m args below meth c (MQ below (sg_Q (some .int) G La s.heap.size (sg_HI La Q)) args s 0 0 (sg_A La s.heap.size)) 5 G (sg_A La s.heap.size) La s_81 0 0 81 [(0, sg_r 0), (1, sg_i x1), (2, sg_i y0_19), (3, sg_i x3_81), (4, sg_i x4_33)] [] := by
                intro s_81 x3_81 r3_81 hf
                unfold fX11_which_j81 at hf
                refine gw_iinc F (z := (x4_33 + 1)) 4 rfl (by omega) (by decide) rfl dX11_which_81 ?_
                refine gw_goto F (tgt := 33) dX11_which_84 (by decide) ?_
                obtain ⟨g15, hf⟩ := hf
                refine gw_sub [1, 2, 3, 4, 0] rfl ?_
                exact ih s_81 x3_81 (x4_33 + 1) r3_81 g15 hf
              refine gw_ifnull F (tgt := 81) dX11_which_53 (by decide) (fun c16 => ?_) (fun c16 => ?_)
              · have hf := hf.1 c16
                refine gw_sub [0, 1, 2, 3, 4] rfl ?_
                exact J81 s_33 x3_33 r3_33 hf
              · have hf := hf.2 c16
                have t17 := sg_nn h14 c16
                refine gw_aload_n F 0 rfl rfl (by decide) dX11_which_56 ?_
                refine gw_aload_n F 0 rfl rfl (by decide) dX11_which_57 ?_
                refine gw_get7 F (so_0 hst) (by decide) rfl sg_lay_RX11 (j := 2) (by decide) (o1 := 4) (by first | rfl | omega) rfl (host := "") (.inl kw_328) dX11_which_58 (fun h18 => ?_)
                refine gw_get7 F (so_4 hst) (by decide) rfl sg_lay_RX7 (j := 4) (by decide) (o1 := 25) (by first | rfl | omega) rfl (.inr kw_242) dX11_which_61 (fun h19 => ?_)
                refine gw_iload F 4 rfl dX11_which_64 ?_
                obtain ⟨⟨b200, b201⟩, hf⟩ := hf
                refine gw_aaldB F (n := 4) (so_25 hst) (by decide) (by decide) (by decide) b200 b201 dX11_which_66 (fun h21 => ?_)
                refine gw_iload_n F 1 rfl rfl dX11_which_67 ?_
                obtain ⟨g22, hf⟩ := hf
                have t23 := sg_nn h21 g22
                refine gk_HZ F (gc_V F (S := []) (As := [sg_r (s_33 25 x4_33), sg_i x1]) (T := TX11) (N := 19) (CX11_isFitting hst t23 r1 hf) (so_0 hst) (by decide) rfl kw_768 kw_90 kw_766 kw_767 kw_29 hcX11_isFitting ⟨by decide, by decide⟩ rfl rfl (Nat.le_of_ble_eq_true rfl) ⟨by decide, by decide⟩ dX11_which_68) (fun u24 s26 h25 hf => ?_)
                refine gw_if_eq F (tgt := 81) dX11_which_71 (by decide) (sg_B_R h25) (fun c27 => ?_) (fun c27 => ?_)
                · have hf := hf.1 c27
                  refine gw_sub [0, 1, 2, 3, 4] rfl ?_
                  exact J81 s26 x3_33 r3_33 hf
                · have hf := hf.2 c27
                  refine gw_iload_n F 3 rfl rfl dX11_which_74 ?_
                  refine gw_iconst F dX11_which_75 ?_
                  refine gw_iload F 4 rfl dX11_which_76 ?_
                  refine gw_ishl F rfl dX11_which_78 ?_
                  refine gw_ior F rfl dX11_which_79 ?_
                  refine gw_istore_n F rfl (by decide) rfl dX11_which_80 ?_
                  refine gw_sub [1, 2, 3, 0, 4] rfl ?_
                  exact J81 s26 (sg_or x3_33 (sg_shl 1 x4_33)) (sg_or_R _ _) hf
      obtain ⟨n28, hf⟩ := hf
      refine gw_sub [2, 3, 4, 1, 0] rfl ?_
      refine L33   n28 s0 y0_29 0 ry0_29 (by decide) hf
    refine gw_if_eq F (tgt := 28) dX11_which_21 (by decide) ry0_19 (fun c29 => ?_) (fun c29 => ?_)
    · have hf := hf.1 c29
      refine gw_iconst F dX11_which_28 ?_
      refine gw_sub [1, 2, 0] rfl ?_
      exact J29 (-1) (by decide) hf
    · have hf := hf.2 c29
      refine gw_iconst F dX11_which_24 ?_
      refine gw_goto F (tgt := 29) dX11_which_25 (by decide) ?_
      refine gw_sub [1, 2, 0] rfl ?_
      exact J29 0 (by decide) hf
  have J18 : (fX11_which_j18  (fX11_which_j19 La s0 x1 Q)) → sg_W p l e (sg_rm 7 0 0) s m args below meth c (MQ below (sg_Q (some .int) G La s.heap.size (sg_HI La Q)) args s 0 0 (sg_A La s.heap.size)) 5 G (sg_A La s.heap.size) La s0 0 0 18 [(0, sg_r 0), (1, sg_i x1)] [] := by
    intro hf
    unfold fX11_which_j18 at hf
    refine gw_iconst F dX11_which_18 ?_
    refine gw_sub [0, 1] rfl ?_
    exact J19 0 (by decide) hf
  refine gw_if_eq F (tgt := 18) dX11_which_4 (by decide) (sg_B_R h2) (fun c30 => ?_) (fun c30 => ?_)
  · have hf := hf.1 c30
    refine gw_sub [0, 1] rfl ?_
    exact J18  hf
  · have hf := hf.2 c30
    refine gw_aload_n F 0 rfl rfl (by decide) dX11_which_7 ?_
    refine gk_PZ F (gc_V F (S := []) (As := []) (T := TX11) (N := 19) (CX11_tellsTones hst hf) (so_0 hst) (by decide) rfl kw_763 kw_90 kw_761 kw_762 kw_28 hcX11_tellsTones ⟨by decide, by decide⟩ rfl rfl (Nat.le_of_ble_eq_true rfl) ⟨by decide, by decide⟩ dX11_which_8) (fun u31 h32 hf => ?_)
    refine gw_if_eq F (tgt := 18) dX11_which_11 (by decide) (sg_B_R h32) (fun c33 => ?_) (fun c33 => ?_)
    · have hf := hf.1 c33
      refine gw_sub [0, 1] rfl ?_
      exact J18  hf
    · have hf := hf.2 c33
      refine gw_iconst F dX11_which_14 ?_
      refine gw_goto F (tgt := 19) dX11_which_15 (by decide) ?_
      refine gw_sub [0, 1] rfl ?_
      exact J19 1 (by decide) hf

theorem dX11_fault_0 : decode cX11_fault 0 = .ok (.aload_n 0, 1) := by decide +kernel
theorem dX11_fault_1 : decode cX11_fault 1 = .ok (.getfield 102, 3) := by decide +kernel
theorem dX11_fault_4 : decode cX11_fault 4 = .ok (.ireturn, 1) := by decide +kernel
theorem hcX11_fault : yX11_fault.cls ≠ "java/lang/invoke/MethodHandle" ∧ yX11_fault.cls ≠ "java/lang/invoke/VarHandle" ∧ (parseMethodDescriptor yX11_fault.desc).map (fun d => d.parameters.length) = some 0 := ⟨by decide +kernel, by decide +kernel, by decide +kernel⟩
def fX11_fault (s0 : sg_M) (Q : Int → Prop) : Prop := Q (s0 0 16)
set_option maxHeartbeats 4000000 in
set_option maxRecDepth 100000 in
theorem CX11_fault {l : Launch} {G : sg_G} {La : sg_L} {s0 : sg_M} (hst : sg_St La) {Q : Int → Prop} (hf : fX11_fault s0 Q) : sg_C l G yX11_fault cX11_fault 1 (some .int) 1 0 0 La s0 [sg_r 0] (sg_PI La s0 Q) := by
  refine sg_body (by decide +kernel) (Nat.le_of_ble_eq_true rfl) ?_
  intro p e s m args below meth c F hnm
  unfold fX11_fault at hf
  show sg_W p l e (sg_rm 1 0 0) s m args below meth c (MQ below (sg_Q (some .int) G La s.heap.size (sg_PI La s0 Q)) args s 0 0 (sg_A La s.heap.size)) 1 G (sg_A La s.heap.size) La s0 0 0 0 [(0, sg_r 0)] []
  refine gw_aload_n F 0 rfl rfl (by decide) dX11_fault_0 ?_
  refine gw_get0 F (so_0 hst) (by decide) rfl sg_lay_RX11 (j := 16) (by decide) rfl (host := "") (.inl kw_342) dX11_fault_1 (fun h1 => ?_)
  exact gr_PI F h1 hf (by decide) (by decide) dX11_fault_4

theorem dX11_run_0 : decode cX11_run 0 = .ok (.aload_n 0, 1) := by decide +kernel
theorem dX11_run_1 : decode cX11_run 1 = .ok (.getfield 61, 3) := by decide +kernel
theorem dX11_run_4 : decode cX11_run 4 = .ok (.getfield 189, 3) := by decide +kernel
theorem dX11_run_7 : decode cX11_run 7 = .ok (.ifCond .ne 5, 3) := by decide +kernel
theorem dX11_run_10 : decode cX11_run 10 = .ok (.iconst (-1), 1) := by decide +kernel
theorem dX11_run_11 : decode cX11_run 11 = .ok (.ireturn, 1) := by decide +kernel
theorem dX11_run_12 : decode cX11_run 12 = .ok (.iload_n 1, 1) := by decide +kernel
theorem dX11_run_13 : decode cX11_run 13 = .ok (.tableswitch 91 0 4 #[35, 43, 51, 67, 83], 35) := by decide +kernel
theorem dX11_run_48 : decode cX11_run 48 = .ok (.aload_n 0, 1) := by decide +kernel
theorem dX11_run_49 : decode cX11_run 49 = .ok (.getfield 61, 3) := by decide +kernel
theorem dX11_run_52 : decode cX11_run 52 = .ok (.getfield 192, 3) := by decide +kernel
theorem dX11_run_55 : decode cX11_run 55 = .ok (.ireturn, 1) := by decide +kernel
theorem dX11_run_56 : decode cX11_run 56 = .ok (.aload_n 0, 1) := by decide +kernel
theorem dX11_run_57 : decode cX11_run 57 = .ok (.getfield 61, 3) := by decide +kernel
theorem dX11_run_60 : decode cX11_run 60 = .ok (.getfield 195, 3) := by decide +kernel
theorem dX11_run_63 : decode cX11_run 63 = .ok (.ireturn, 1) := by decide +kernel
theorem dX11_run_64 : decode cX11_run 64 = .ok (.aload_n 0, 1) := by decide +kernel
theorem dX11_run_65 : decode cX11_run 65 = .ok (.getfield 61, 3) := by decide +kernel
theorem dX11_run_68 : decode cX11_run 68 = .ok (.getfield 198, 3) := by decide +kernel
theorem dX11_run_71 : decode cX11_run 71 = .ok (.ifCond .eq 7, 3) := by decide +kernel
theorem dX11_run_74 : decode cX11_run 74 = .ok (.iconst 1, 1) := by decide +kernel
theorem dX11_run_75 : decode cX11_run 75 = .ok (.goto 4, 3) := by decide +kernel
theorem dX11_run_78 : decode cX11_run 78 = .ok (.iconst 0, 1) := by decide +kernel
theorem dX11_run_79 : decode cX11_run 79 = .ok (.ireturn, 1) := by decide +kernel
theorem dX11_run_80 : decode cX11_run 80 = .ok (.aload_n 0, 1) := by decide +kernel
theorem dX11_run_81 : decode cX11_run 81 = .ok (.getfield 61, 3) := by decide +kernel
theorem dX11_run_84 : decode cX11_run 84 = .ok (.getfield 202, 3) := by decide +kernel
theorem dX11_run_87 : decode cX11_run 87 = .ok (.ifCond .eq 7, 3) := by decide +kernel
theorem dX11_run_90 : decode cX11_run 90 = .ok (.iconst 1, 1) := by decide +kernel
theorem dX11_run_91 : decode cX11_run 91 = .ok (.goto 4, 3) := by decide +kernel
theorem dX11_run_94 : decode cX11_run 94 = .ok (.iconst 0, 1) := by decide +kernel
theorem dX11_run_95 : decode cX11_run 95 = .ok (.ireturn, 1) := by decide +kernel
theorem dX11_run_96 : decode cX11_run 96 = .ok (.aload_n 0, 1) := by decide +kernel
theorem dX11_run_97 : decode cX11_run 97 = .ok (.getfield 61, 3) := by decide +kernel
theorem dX11_run_100 : decode cX11_run 100 = .ok (.getfield 205, 3) := by decide +kernel
theorem dX11_run_103 : decode cX11_run 103 = .ok (.ireturn, 1) := by decide +kernel
theorem dX11_run_104 : decode cX11_run 104 = .ok (.iconst (-1), 1) := by decide +kernel
theorem dX11_run_105 : decode cX11_run 105 = .ok (.ireturn, 1) := by decide +kernel
theorem hcX11_run : yX11_run.cls ≠ "java/lang/invoke/MethodHandle" ∧ yX11_run.cls ≠ "java/lang/invoke/VarHandle" ∧ (parseMethodDescriptor yX11_run.desc).map (fun d => d.parameters.length) = some 1 := ⟨by decide +kernel, by decide +kernel, by decide +kernel⟩
def fX11_run (s0 : sg_M) (x1 : Int) (Q : Int → Prop) : Prop := (((s0 37 1) ≠ 0 → ((x1 < 0 ∨ 4 < x1 → Q (-1)) ∧ (x1 = 0 → Q (s0 37 2)) ∧ (x1 = 1 → Q (s0 37 3)) ∧ (x1 = 2 → (((s0 37 5) = 0 → Q 0) ∧ (¬ ((s0 37 5) = 0) → Q 1))) ∧ (x1 = 3 → (((s0 37 6) = 0 → Q 0) ∧ (¬ ((s0 37 6) = 0) → Q 1))) ∧ (x1 = 4 → Q (s0 37 4)))) ∧ ((s0 37 1) = 0 → Q (-1)))
set_option maxHeartbeats 4000000 in
set_option maxRecDepth 100000 in
theorem CX11_run {l : Launch} {G : sg_G} {La : sg_L} {s0 : sg_M} (hst : sg_St La) {x1 : Int} (r1 : sg_R x1) {Q : Int → Prop} (hf : fX11_run s0 x1 Q) : sg_C l G yX11_run cX11_run 2 (some .int) 1 0 0 La s0 [sg_r 0, sg_i x1] (sg_PI La s0 Q) := by
  refine sg_body (by decide +kernel) (Nat.le_of_ble_eq_true rfl) ?_
  intro p e s m args below meth c F hnm
  unfold fX11_run at hf
  show sg_W p l e (sg_rm 1 0 0) s m args below meth c (MQ below (sg_Q (some .int) G La s.heap.size (sg_PI La s0 Q)) args s 0 0 (sg_A La s.heap.size)) 2 G (sg_A La s.heap.size) La s0 0 0 0 [(0, sg_r 0), (1, sg_i x1)] []
  refine gw_aload_n F 0 rfl rfl (by decide) dX11_run_0 ?_
  refine gw_get7 F (so_0 hst) (by decide) rfl sg_lay_RX11 (j := 6) (by decide) (o1 := 37) (by first | rfl | omega) rfl (host := "") (.inl kw_332) dX11_run_1 (fun h1 => ?_)
  refine gw_get0 F (so_37 hst) (by decide) rfl sg_lay_RX10 (j := 1) (by decide) rfl (.inr kw_288) dX11_run_4 (fun h2 => ?_)
  refine gw_if_ne F (tgt := 12) dX11_run_7 (by decide) h2 (fun c3 => ?_) (fun c3 => ?_)
  · have hf := hf.1 c3
    refine gw_iload_n F 1 rfl rfl dX11_run_12 ?_
    refine gw_switch F dX11_run_13 r1 (td := 104) (by decide) (fun c4 => ?_) (fun i hi1 hi2 => ?_)
    · have hf := hf.1 c4
      refine gw_iconst F dX11_run_104 ?_
      exact gr_PI F (by decide) hf (by decide) (by decide) dX11_run_105
    · rcases (show i = 0 ∨ i = 1 ∨ i = 2 ∨ i = 3 ∨ i = 4 by omega) with rfl | rfl | rfl | rfl | rfl
      · have hf := hf.2.1 (by omega)
        refine ⟨35, 48, rfl, by decide, ?_⟩
        refine gw_aload_n F 0 rfl rfl (by decide) dX11_run_48 ?_
        refine gw_get7 F (so_0 hst) (by decide) rfl sg_lay_RX11 (j := 6) (by decide) (o1 := 37) (by first | rfl | omega) rfl (host := "") (.inl kw_332) dX11_run_49 (fun h5 => ?_)
        refine gw_get0 F (so_37 hst) (by decide) rfl sg_lay_RX10 (j := 2) (by decide) rfl (.inr kw_291) dX11_run_52 (fun h6 => ?_)
        exact gr_PI F h6 hf (by decide) (by decide) dX11_run_55
      · have hf := hf.2.2.1 (by omega)
        refine ⟨43, 56, rfl, by decide, ?_⟩
        refine gw_aload_n F 0 rfl rfl (by decide) dX11_run_56 ?_
        refine gw_get7 F (so_0 hst) (by decide) rfl sg_lay_RX11 (j := 6) (by decide) (o1 := 37) (by first | rfl | omega) rfl (host := "") (.inl kw_332) dX11_run_57 (fun h7 => ?_)
        refine gw_get0 F (so_37 hst) (by decide) rfl sg_lay_RX10 (j := 3) (by decide) rfl (.inr kw_294) dX11_run_60 (fun h8 => ?_)
        exact gr_PI F h8 hf (by decide) (by decide) dX11_run_63
      · have hf := hf.2.2.2.1 (by omega)
        refine ⟨51, 64, rfl, by decide, ?_⟩
        refine gw_aload_n F 0 rfl rfl (by decide) dX11_run_64 ?_
        refine gw_get7 F (so_0 hst) (by decide) rfl sg_lay_RX11 (j := 6) (by decide) (o1 := 37) (by first | rfl | omega) rfl (host := "") (.inl kw_332) dX11_run_65 (fun h9 => ?_)
        refine gw_get1 F (so_37 hst) (by decide) rfl sg_lay_RX10 (j := 5) (by decide) rfl (.inr kw_300) dX11_run_68 (fun h10 => ?_)
        refine gw_if_eq F (tgt := 78) dX11_run_71 (by decide) (sg_B_R h10) (fun c11 => ?_) (fun c11 => ?_)
        · have hf := hf.1 c11
          refine gw_iconst F dX11_run_78 ?_
          exact gr_PI F (by decide) hf (by decide) (by decide) dX11_run_79
        · have hf := hf.2 c11
          refine gw_iconst F dX11_run_74 ?_
          refine gw_goto F (tgt := 79) dX11_run_75 (by decide) ?_
          exact gr_PI F (by decide) hf (by decide) (by decide) dX11_run_79
      · have hf := hf.2.2.2.2.1 (by omega)
        refine ⟨67, 80, rfl, by decide, ?_⟩
        refine gw_aload_n F 0 rfl rfl (by decide) dX11_run_80 ?_
        refine gw_get7 F (so_0 hst) (by decide) rfl sg_lay_RX11 (j := 6) (by decide) (o1 := 37) (by first | rfl | omega) rfl (host := "") (.inl kw_332) dX11_run_81 (fun h12 => ?_)
        refine gw_get1 F (so_37 hst) (by decide) rfl sg_lay_RX10 (j := 6) (by decide) rfl (.inr kw_303) dX11_run_84 (fun h13 => ?_)
        refine gw_if_eq F (tgt := 94) dX11_run_87 (by decide) (sg_B_R h13) (fun c14 => ?_) (fun c14 => ?_)
        · have hf := hf.1 c14
          refine gw_iconst F dX11_run_94 ?_
          exact gr_PI F (by decide) hf (by decide) (by decide) dX11_run_95
        · have hf := hf.2 c14
          refine gw_iconst F dX11_run_90 ?_
          refine gw_goto F (tgt := 95) dX11_run_91 (by decide) ?_
          exact gr_PI F (by decide) hf (by decide) (by decide) dX11_run_95
      · have hf := hf.2.2.2.2.2 (by omega)
        refine ⟨83, 96, rfl, by decide, ?_⟩
        refine gw_aload_n F 0 rfl rfl (by decide) dX11_run_96 ?_
        refine gw_get7 F (so_0 hst) (by decide) rfl sg_lay_RX11 (j := 6) (by decide) (o1 := 37) (by first | rfl | omega) rfl (host := "") (.inl kw_332) dX11_run_97 (fun h15 => ?_)
        refine gw_get0 F (so_37 hst) (by decide) rfl sg_lay_RX10 (j := 4) (by decide) rfl (.inr kw_297) dX11_run_100 (fun h16 => ?_)
        exact gr_PI F h16 hf (by decide) (by decide) dX11_run_103
  · have hf := hf.2 c3
    refine gw_iconst F dX11_run_10 ?_
    exact gr_PI F (by decide) hf (by decide) (by decide) dX11_run_11

theorem dX11_worth_0 : decode cX11_worth 0 = .ok (.aload_n 0, 1) := by decide +kernel
theorem dX11_worth_1 : decode cX11_worth 1 = .ok (.getfield 106, 3) := by decide +kernel
theorem dX11_worth_4 : decode cX11_worth 4 = .ok (.ireturn, 1) := by decide +kernel
theorem hcX11_worth : yX11_worth.cls ≠ "java/lang/invoke/MethodHandle" ∧ yX11_worth.cls ≠ "java/lang/invoke/VarHandle" ∧ (parseMethodDescriptor yX11_worth.desc).map (fun d => d.parameters.length) = some 0 := ⟨by decide +kernel, by decide +kernel, by decide +kernel⟩
def fX11_worth (s0 : sg_M) (Q : Int → Prop) : Prop := Q (s0 0 17)
set_option maxHeartbeats 4000000 in
set_option maxRecDepth 100000 in
theorem CX11_worth {l : Launch} {G : sg_G} {La : sg_L} {s0 : sg_M} (hst : sg_St La) {Q : Int → Prop} (hf : fX11_worth s0 Q) : sg_C l G yX11_worth cX11_worth 1 (some .int) 1 0 0 La s0 [sg_r 0] (sg_PI La s0 Q) := by
  refine sg_body (by decide +kernel) (Nat.le_of_ble_eq_true rfl) ?_
  intro p e s m args below meth c F hnm
  unfold fX11_worth at hf
  show sg_W p l e (sg_rm 1 0 0) s m args below meth c (MQ below (sg_Q (some .int) G La s.heap.size (sg_PI La s0 Q)) args s 0 0 (sg_A La s.heap.size)) 1 G (sg_A La s.heap.size) La s0 0 0 0 [(0, sg_r 0)] []
  refine gw_aload_n F 0 rfl rfl (by decide) dX11_worth_0 ?_
  refine gw_get0 F (so_0 hst) (by decide) rfl sg_lay_RX11 (j := 17) (by decide) rfl (host := "") (.inl kw_343) dX11_worth_1 (fun h1 => ?_)
  exact gr_PI F h1 hf (by decide) (by decide) dX11_worth_4

theorem dX2_init_0 : decode cX2_init 0 = .ok (.aload_n 0, 1) := by decide +kernel
theorem dX2_init_1 : decode cX2_init 1 = .ok (.invokespecial 3, 3) := by decide +kernel
theorem dX2_init_4 : decode cX2_init 4 = .ok (.aload_n 0, 1) := by decide +kernel
theorem dX2_init_5 : decode cX2_init 5 = .ok (.new 9, 3) := by decide +kernel
theorem dX2_init_8 : decode cX2_init 8 = .ok (.dup, 1) := by decide +kernel
theorem dX2_init_9 : decode cX2_init 9 = .ok (.bipush 40, 2) := by decide +kernel
theorem dX2_init_11 : decode cX2_init 11 = .ok (.invokespecial 11, 3) := by decide +kernel
theorem dX2_init_14 : decode cX2_init 14 = .ok (.putfield 14, 3) := by decide +kernel
theorem dX2_init_17 : decode cX2_init 17 = .ok (.aload_n 0, 1) := by decide +kernel
theorem dX2_init_18 : decode cX2_init 18 = .ok (.new 9, 3) := by decide +kernel
theorem dX2_init_21 : decode cX2_init 21 = .ok (.dup, 1) := by decide +kernel
theorem dX2_init_22 : decode cX2_init 22 = .ok (.bipush 40, 2) := by decide +kernel
theorem dX2_init_24 : decode cX2_init 24 = .ok (.invokespecial 11, 3) := by decide +kernel
theorem dX2_init_27 : decode cX2_init 27 = .ok (.putfield 20, 3) := by decide +kernel
theorem dX2_init_30 : decode cX2_init 30 = .ok (.aload_n 0, 1) := by decide +kernel
theorem dX2_init_31 : decode cX2_init 31 = .ok (.iconst 0, 1) := by decide +kernel
theorem dX2_init_32 : decode cX2_init 32 = .ok (.putfield 23, 3) := by decide +kernel
theorem dX2_init_35 : decode cX2_init 35 = .ok (.return_, 1) := by decide +kernel
theorem hcX2_init : yX2_init.cls ≠ "java/lang/invoke/MethodHandle" ∧ yX2_init.cls ≠ "java/lang/invoke/VarHandle" ∧ (parseMethodDescriptor yX2_init.desc).map (fun d => d.parameters.length) = some 0 := ⟨by decide +kernel, by decide +kernel, by decide +kernel⟩
def fX2_init (La : sg_L) (s0 : sg_M) (o : Int) (Q : sg_L → sg_M → Prop) : Prop := ∀ (q1 : Nat) (La2 : sg_L), La2 = sg_pu La 24 q1 → ∀ s3 : sg_M, s3 = sg_nw s0 La.1 24 → ∀ o4 : Int, o4 = (La.1 : Int) → fX4_init La2 s3 o4 40 (fun La13 s14 => ∀ s19 : sg_M, s19 = sg_up s14 o 0 o4 → ∀ (q21 : Nat) (La22 : sg_L), La22 = sg_pu La13 24 q21 → ∀ s23 : sg_M, s23 = sg_nw s19 La13.1 24 → ∀ o24 : Int, o24 = (La13.1 : Int) → fX4_init La22 s23 o24 40 (fun La33 s34 => ∀ s39 : sg_M, s39 = sg_up s34 o 1 o24 → ∀ s41 : sg_M, s41 = sg_up s39 o 2 0 → sg_sealed La33 s41 o 22 2 ∧ ∀ La43 : sg_L, La43 = sg_se La33 o.toNat 2 → Q La43 s41))
set_option maxHeartbeats 4000000 in
set_option maxRecDepth 100000 in
theorem CX2_init {l : Launch} {G : sg_G} {La : sg_L} {s0 : sg_M} {o : Int} (to : sg_O La o 22) {Q : sg_L → sg_M → Prop} (hf : fX2_init La s0 o Q) : sg_C l G yX2_init cX2_init 1 (none) 2 4 406 La s0 [sg_r o] (sg_BV (sg_se La o.toNat 2) Q) := by
  refine sg_body (by decide +kernel) (Nat.le_of_ble_eq_true rfl) ?_
  intro p e s m args below meth c F hnm
  unfold fX2_init at hf
  show sg_W p l e (sg_rm 2 4 406) s m args below meth c (MQ below (sg_Q (none) G La s.heap.size (sg_BV (sg_se La o.toNat 2) Q)) args s 4 406 (sg_A La s.heap.size)) 1 G (sg_A La s.heap.size) La s0 0 0 0 [(0, sg_r o)] []
  have hin : meth.name = "<init>" := hnm
  refine gw_aload_n F 0 rfl rfl to.1 dX2_init_0 ?_
  refine gw_objInit F to.1 kw_221 kw_OI kw_OC (Nat.le_of_ble_eq_true rfl) (by decide) (by decide) dX2_init_1 ?_
  refine gw_aload_n F 0 rfl rfl to.1 dX2_init_4 ?_
  refine gy_new F (kd := 24) (T := TX4) (by decide) rfl sg_lay_RX4 tyX4_ok kw_222 kw_191 kw_97 ns_X4 nf_X4 nr_X4 (by decide) (by decide) (List.forall_mem_cons.mpr ⟨(Or.inl to.2.1), (fun _ h => absurd h List.not_mem_nil)⟩) (List.forall_mem_cons.mpr ⟨(Or.inl to.2.1), (fun _ h => absurd h List.not_mem_nil)⟩) dX2_init_5 (fun q1 La2 s3 o4 e5 e6 e7 t8 hX9 => ?_)
  have hf := hf q1 La2 e5 s3 e6 o4 e7
  have hn10 : La.1 ≤ o4.toNat := by rw [e7, Int.toNat_natCast]; exact (sg_X.rf : sg_X La La).1
  have t11 := to.X hX9
  have hX12 := sg_X.tr (sg_X.rf) hX9
  refine gw_dup F rfl dX2_init_8 ?_
  refine gw_bipush F rfl dX2_init_9 ?_
  refine gk_BV F (gc_I F (S := [sg_r o4, sg_r o]) (As := [sg_i 40]) (CX4_init t8 (by decide) hf) t8.1 kw_194 kw_97 kw_223 kw_193 rfl hcX4_init ⟨by decide, by decide⟩ rfl rfl (Nat.le_of_ble_eq_true rfl) ⟨by decide, by decide⟩ dX2_init_11) (List.forall_mem_cons.mpr ⟨(Or.inl t11.2.1), (fun _ h => absurd h List.not_mem_nil)⟩) (List.forall_mem_cons.mpr ⟨(Or.inl t8.2.1), (List.forall_mem_cons.mpr ⟨(Or.inl t11.2.1), (fun _ h => absurd h List.not_mem_nil)⟩)⟩) (fun La13 s14 hX15 hf => ?_)
  have t16 := (sg_O_sx t11 t8 (by decide)).X hX15
  have t17 := (sg_O_sealed t8).X hX15
  have hX18 := (sg_X_sx (hX12) hn10).tr hX15
  obtain ⟨s19, e20⟩ : ∃ z : sg_M, z = sg_up s14 o 0 o4 := ⟨_, rfl⟩
  have hf := hf s19 e20
  refine gw_put5F F t16 (by decide) rfl sg_lay_RX2 (j := 0) (by decide) (D0 := tyX2 0) (fun _ => ⟨rfl, rfl⟩) t17.1 t17.2.1 e20 tyX2_ok nmX2 rfl hin rfl (tyX2_ok 0 (by decide)) rfl (host := "") kw_224 dX2_init_14 ?_
  refine gw_aload_n F 0 rfl rfl t16.1 dX2_init_17 ?_
  refine gy_new F (kd := 24) (T := TX4) (by decide) rfl sg_lay_RX4 tyX4_ok kw_222 kw_191 kw_97 ns_X4 nf_X4 nr_X4 (by decide) (by decide) (List.forall_mem_cons.mpr ⟨(Or.inl t16.2.1), (fun _ h => absurd h List.not_mem_nil)⟩) (List.forall_mem_cons.mpr ⟨(Or.inl t16.2.1), (fun _ h => absurd h List.not_mem_nil)⟩) dX2_init_18 (fun q21 La22 s23 o24 e25 e26 e27 t28 hX29 => ?_)
  have hf := hf q21 La22 e25 s23 e26 o24 e27
  have hn30 : La.1 ≤ o24.toNat := by rw [e27, Int.toNat_natCast]; exact (hX18 : sg_X La La13).1
  have t31 := t16.X hX29
  have hX32 := sg_X.tr (hX18) hX29
  refine gw_dup F rfl dX2_init_21 ?_
  refine gw_bipush F rfl dX2_init_22 ?_
  refine gk_BV F (gc_I F (S := [sg_r o24, sg_r o]) (As := [sg_i 40]) (CX4_init t28 (by decide) hf) t28.1 kw_194 kw_97 kw_223 kw_193 rfl hcX4_init ⟨by decide, by decide⟩ rfl rfl (Nat.le_of_ble_eq_true rfl) ⟨by decide, by decide⟩ dX2_init_24) (List.forall_mem_cons.mpr ⟨(Or.inl t31.2.1), (fun _ h => absurd h List.not_mem_nil)⟩) (List.forall_mem_cons.mpr ⟨(Or.inl t28.2.1), (List.forall_mem_cons.mpr ⟨(Or.inl t31.2.1), (fun _ h => absurd h List.not_mem_nil)⟩)⟩) (fun La33 s34 hX35 hf => ?_)
  have t36 := (sg_O_sx t31 t28 (by decide)).X hX35
  have t37 := (sg_O_sealed t28).X hX35
  have hX38 := (sg_X_sx (hX32) hn30).tr hX35
  obtain ⟨s39, e40⟩ : ∃ z : sg_M, z = sg_up s34 o 1 o24 := ⟨_, rfl⟩
  have hf := hf s39 e40
  refine gw_put5F F t36 (by decide) rfl sg_lay_RX2 (j := 1) (by decide) (D0 := tyX2 1) (fun _ => ⟨rfl, rfl⟩) t37.1 t37.2.1 e40 tyX2_ok nmX2 rfl hin rfl (tyX2_ok 1 (by decide)) rfl (host := "") kw_226 dX2_init_27 ?_
  refine gw_aload_n F 0 rfl rfl t36.1 dX2_init_30 ?_
  refine gw_iconst F dX2_init_31 ?_
  obtain ⟨s41, e42⟩ : ∃ z : sg_M, z = sg_up s39 o 2 0 := ⟨_, rfl⟩
  have hf := hf s41 e42
  refine gw_put0 F t36 (by decide) rfl sg_lay_RX2 (j := 2) (by decide) (by decide) e42 tyX2_ok nmX2 rfl (tyX2_ok 2 (by decide)) rfl (host := "") (.inl kw_228) dX2_init_32 ?_
  obtain ⟨g44, hf⟩ := hf
  obtain ⟨La43, e45⟩ : ∃ z : sg_L, z = sg_se La33 o.toNat 2 := ⟨_, rfl⟩
  have hf := hf La43 e45
  refine gw_seal t36 ⟨by decide, by decide, by decide⟩ (by decide) (by decide) g44.1 g44.2 ?_
  rw [← e45]
  exact gr_BC F hf (e45 ▸ (sg_X.both hX38)) (by decide) (by decide) dX2_init_35

theorem dX11_evenAt_0 : decode cX11_evenAt 0 = .ok (.aload_n 0, 1) := by decide +kernel
theorem dX11_evenAt_1 : decode cX11_evenAt 1 = .ok (.getfield 87, 3) := by decide +kernel
theorem dX11_evenAt_4 : decode cX11_evenAt 4 = .ok (.iload_n 1, 1) := by decide +kernel
theorem dX11_evenAt_5 : decode cX11_evenAt 5 = .ok (.invokevirtual 182, 3) := by decide +kernel
theorem dX11_evenAt_8 : decode cX11_evenAt 8 = .ok (.ireturn, 1) := by decide +kernel
theorem hcX11_evenAt : yX11_evenAt.cls ≠ "java/lang/invoke/MethodHandle" ∧ yX11_evenAt.cls ≠ "java/lang/invoke/VarHandle" ∧ (parseMethodDescriptor yX11_evenAt.desc).map (fun d => d.parameters.length) = some 1 := ⟨by decide +kernel, by decide +kernel, by decide +kernel⟩
def fX11_evenAt (La : sg_L) (s0 : sg_M) (x1 : Int) (Q : Int → Prop) : Prop := fX4_at La s0 54 x1 (fun u2 => Q u2)
set_option maxHeartbeats 4000000 in
set_option maxRecDepth 100000 in
theorem CX11_evenAt {l : Launch} {G : sg_G} {La : sg_L} {s0 : sg_M} (hst : sg_St La) {x1 : Int} (r1 : sg_R x1) {Q : Int → Prop} (hf : fX11_evenAt La s0 x1 Q) : sg_C l G yX11_evenAt cX11_evenAt 2 (some .int) 2 0 0 La s0 [sg_r 0, sg_i x1] (sg_PI La s0 Q) := by
  refine sg_body (by decide +kernel) (Nat.le_of_ble_eq_true rfl) ?_
  intro p e s m args below meth c F hnm
  unfold fX11_evenAt at hf
  show sg_W p l e (sg_rm 2 0 0) s m args below meth c (MQ below (sg_Q (some .int) G La s.heap.size (sg_PI La s0 Q)) args s 0 0 (sg_A La s.heap.size)) 2 G (sg_A La s.heap.size) La s0 0 0 0 [(0, sg_r 0), (1, sg_i x1)] []
  refine gw_aload_n F 0 rfl rfl (by decide) dX11_evenAt_0 ?_
  refine gw_get7 F (so_0 hst) (by decide) rfl sg_lay_RX11 (j := 11) (by decide) (o1 := 54) (by first | rfl | omega) rfl (host := "") (.inl kw_337) dX11_evenAt_1 (fun h1 => ?_)
  refine gw_iload_n F 1 rfl rfl dX11_evenAt_4 ?_
  refine gk_PI F (gc_V F (S := []) (As := [sg_i x1]) (T := TX4) (N := 3) (CX4_at (so_54 hst) r1 hf) (so_54 hst) (by decide) rfl kw_546 kw_97 kw_543 kw_544 kw_545 hcX4_at ⟨by decide, by decide⟩ rfl rfl (Nat.le_of_ble_eq_true rfl) ⟨by decide, by decide⟩ dX11_evenAt_5) (fun u2 h3 hf => ?_)
  exact gr_PI F h3 hf (by decide) (by decide) dX11_evenAt_8

theorem dX11_count_0 : decode cX11_count 0 = .ok (.iload_n 1, 1) := by decide +kernel
theorem dX11_count_1 : decode cX11_count 1 = .ok (.tableswitch 102 0 5 #[39, 50, 61, 72, 83, 94], 39) := by decide +kernel
theorem dX11_count_40 : decode cX11_count 40 = .ok (.aload_n 0, 1) := by decide +kernel
theorem dX11_count_41 : decode cX11_count 41 = .ok (.getfield 39, 3) := by decide +kernel
theorem dX11_count_44 : decode cX11_count 44 = .ok (.getfield 112, 3) := by decide +kernel
theorem dX11_count_47 : decode cX11_count 47 = .ok (.getfield 138, 3) := by decide +kernel
theorem dX11_count_50 : decode cX11_count 50 = .ok (.ireturn, 1) := by decide +kernel
theorem dX11_count_51 : decode cX11_count 51 = .ok (.aload_n 0, 1) := by decide +kernel
theorem dX11_count_52 : decode cX11_count 52 = .ok (.getfield 39, 3) := by decide +kernel
theorem dX11_count_55 : decode cX11_count 55 = .ok (.getfield 112, 3) := by decide +kernel
theorem dX11_count_58 : decode cX11_count 58 = .ok (.getfield 337, 3) := by decide +kernel
theorem dX11_count_61 : decode cX11_count 61 = .ok (.ireturn, 1) := by decide +kernel
theorem dX11_count_62 : decode cX11_count 62 = .ok (.aload_n 0, 1) := by decide +kernel
theorem dX11_count_63 : decode cX11_count 63 = .ok (.getfield 39, 3) := by decide +kernel
theorem dX11_count_66 : decode cX11_count 66 = .ok (.getfield 112, 3) := by decide +kernel
theorem dX11_count_69 : decode cX11_count 69 = .ok (.getfield 340, 3) := by decide +kernel
theorem dX11_count_72 : decode cX11_count 72 = .ok (.ireturn, 1) := by decide +kernel
theorem dX11_count_73 : decode cX11_count 73 = .ok (.aload_n 0, 1) := by decide +kernel
theorem dX11_count_74 : decode cX11_count 74 = .ok (.getfield 39, 3) := by decide +kernel
theorem dX11_count_77 : decode cX11_count 77 = .ok (.getfield 212, 3) := by decide +kernel
theorem dX11_count_80 : decode cX11_count 80 = .ok (.getfield 216, 3) := by decide +kernel
theorem dX11_count_83 : decode cX11_count 83 = .ok (.ireturn, 1) := by decide +kernel
theorem dX11_count_84 : decode cX11_count 84 = .ok (.aload_n 0, 1) := by decide +kernel
theorem dX11_count_85 : decode cX11_count 85 = .ok (.getfield 39, 3) := by decide +kernel
theorem dX11_count_88 : decode cX11_count 88 = .ok (.getfield 237, 3) := by decide +kernel
theorem dX11_count_91 : decode cX11_count 91 = .ok (.getfield 241, 3) := by decide +kernel
theorem dX11_count_94 : decode cX11_count 94 = .ok (.ireturn, 1) := by decide +kernel
theorem dX11_count_95 : decode cX11_count 95 = .ok (.aload_n 0, 1) := by decide +kernel
theorem dX11_count_96 : decode cX11_count 96 = .ok (.getfield 10, 3) := by decide +kernel
theorem dX11_count_99 : decode cX11_count 99 = .ok (.getfield 122, 3) := by decide +kernel
theorem dX11_count_102 : decode cX11_count 102 = .ok (.ireturn, 1) := by decide +kernel
theorem dX11_count_103 : decode cX11_count 103 = .ok (.iconst (-1), 1) := by decide +kernel
theorem dX11_count_104 : decode cX11_count 104 = .ok (.ireturn, 1) := by decide +kernel
theorem hcX11_count : yX11_count.cls ≠ "java/lang/invoke/MethodHandle" ∧ yX11_count.cls ≠ "java/lang/invoke/VarHandle" ∧ (parseMethodDescriptor yX11_count.desc).map (fun d => d.parameters.length) = some 1 := ⟨by decide +kernel, by decide +kernel, by decide +kernel⟩
def fX11_count (s0 : sg_M) (x1 : Int) (Q : Int → Prop) : Prop := ((x1 < 0 ∨ 5 < x1 → Q (-1)) ∧ (x1 = 0 → (0 ≤ (s0 4 0)) ∧ Q (s0 (s0 4 0) 4)) ∧ (x1 = 1 → (0 ≤ (s0 4 0)) ∧ Q (s0 (s0 4 0) 5)) ∧ (x1 = 2 → (0 ≤ (s0 4 0)) ∧ Q (s0 (s0 4 0) 6)) ∧ (x1 = 3 → (0 ≤ (s0 4 1)) ∧ Q (s0 (s0 4 1) 2)) ∧ (x1 = 4 → Q (s0 20 2)) ∧ (x1 = 5 → Q (s0 1 1)))
set_option maxHeartbeats 4000000 in
set_option maxRecDepth 100000 in
theorem CX11_count {l : Launch} {G : sg_G} {La : sg_L} {s0 : sg_M} (hst : sg_St La) {x1 : Int} (r1 : sg_R x1) {Q : Int → Prop} (hf : fX11_count s0 x1 Q) : sg_C l G yX11_count cX11_count 2 (some .int) 1 0 0 La s0 [sg_r 0, sg_i x1] (sg_PI La s0 Q) := by
  refine sg_body (by decide +kernel) (Nat.le_of_ble_eq_true rfl) ?_
  intro p e s m args below meth c F hnm
  unfold fX11_count at hf
  show sg_W p l e (sg_rm 1 0 0) s m args below meth c (MQ below (sg_Q (some .int) G La s.heap.size (sg_PI La s0 Q)) args s 0 0 (sg_A La s.heap.size)) 2 G (sg_A La s.heap.size) La s0 0 0 0 [(0, sg_r 0), (1, sg_i x1)] []
  refine gw_iload_n F 1 rfl rfl dX11_count_0 ?_
  refine gw_switch F dX11_count_1 r1 (td := 103) (by decide) (fun c1 => ?_) (fun i hi1 hi2 => ?_)
  · have hf := hf.1 c1
    refine gw_iconst F dX11_count_103 ?_
    exact gr_PI F (by decide) hf (by decide) (by decide) dX11_count_104
  · rcases (show i = 0 ∨ i = 1 ∨ i = 2 ∨ i = 3 ∨ i = 4 ∨ i = 5 by omega) with rfl | rfl | rfl | rfl | rfl | rfl
    · have hf := hf.2.1 (by omega)
      refine ⟨39, 40, rfl, by decide, ?_⟩
      refine gw_aload_n F 0 rfl rfl (by decide) dX11_count_40 ?_
      refine gw_get7 F (so_0 hst) (by decide) rfl sg_lay_RX11 (j := 2) (by decide) (o1 := 4) (by first | rfl | omega) rfl (host := "") (.inl kw_328) dX11_count_41 (fun h2 => ?_)
      refine gw_get4 F (so_4 hst) (by decide) rfl sg_lay_RX7 (j := 0) (by decide) rfl (.inr kw_234) dX11_count_44 (fun h3 => ?_)
      obtain ⟨g4, hf⟩ := hf
      have t5 := sg_nn h3 g4
      refine gw_get0 F t5 (by decide) rfl sg_lay_RX1 (j := 4) (by decide) rfl (.inr kw_165) dX11_count_47 (fun h6 => ?_)
      exact gr_PI F h6 hf (by decide) (by decide) dX11_count_50
    · have hf := hf.2.2.1 (by omega)
      refine ⟨50, 51, rfl, by decide, ?_⟩
      refine gw_aload_n F 0 rfl rfl (by decide) dX11_count_51 ?_
      refine gw_get7 F (so_0 hst) (by decide) rfl sg_lay_RX11 (j := 2) (by decide) (o1 := 4) (by first | rfl | omega) rfl (host := "") (.inl kw_328) dX11_count_52 (fun h7 => ?_)
      refine gw_get4 F (so_4 hst) (by decide) rfl sg_lay_RX7 (j := 0) (by decide) rfl (.inr kw_234) dX11_count_55 (fun h8 => ?_)
      obtain ⟨g9, hf⟩ := hf
      have t10 := sg_nn h8 g9
      refine gw_get0 F t10 (by decide) rfl sg_lay_RX1 (j := 5) (by decide) rfl (.inr kw_168) dX11_count_58 (fun h11 => ?_)
      exact gr_PI F h11 hf (by decide) (by decide) dX11_count_61
    · have hf := hf.2.2.2.1 (by omega)
      refine ⟨61, 62, rfl, by decide, ?_⟩
      refine gw_aload_n F 0 rfl rfl (by decide) dX11_count_62 ?_
      refine gw_get7 F (so_0 hst) (by decide) rfl sg_lay_RX11 (j := 2) (by decide) (o1 := 4) (by first | rfl | omega) rfl (host := "") (.inl kw_328) dX11_count_63 (fun h12 => ?_)
      refine gw_get4 F (so_4 hst) (by decide) rfl sg_lay_RX7 (j := 0) (by decide) rfl (.inr kw_234) dX11_count_66 (fun h13 => ?_)
      obtain ⟨g14, hf⟩ := hf
      have t15 := sg_nn h13 g14
      refine gw_get0 F t15 (by decide) rfl sg_lay_RX1 (j := 6) (by decide) rfl (.inr kw_171) dX11_count_69 (fun h16 => ?_)
      exact gr_PI F h16 hf (by decide) (by decide) dX11_count_72
    · have hf := hf.2.2.2.2.1 (by omega)
      refine ⟨72, 73, rfl, by decide, ?_⟩
      refine gw_aload_n F 0 rfl rfl (by decide) dX11_count_73 ?_
      refine gw_get7 F (so_0 hst) (by decide) rfl sg_lay_RX11 (j := 2) (by decide) (o1 := 4) (by first | rfl | omega) rfl (host := "") (.inl kw_328) dX11_count_74 (fun h17 => ?_)
      refine gw_get4 F (so_4 hst) (by decide) rfl sg_lay_RX7 (j := 1) (by decide) rfl (.inr kw_236) dX11_count_77 (fun h18 => ?_)
      obtain ⟨g19, hf⟩ := hf
      have t20 := sg_nn h18 g19
      refine gw_get0 F t20 (by decide) rfl sg_lay_RX3 (j := 2) (by decide) rfl (.inr kw_181) dX11_count_80 (fun h21 => ?_)
      exact gr_PI F h21 hf (by decide) (by decide) dX11_count_83
    · have hf := hf.2.2.2.2.2.1 (by omega)
      refine ⟨83, 84, rfl, by decide, ?_⟩
      refine gw_aload_n F 0 rfl rfl (by decide) dX11_count_84 ?_
      refine gw_get7 F (so_0 hst) (by decide) rfl sg_lay_RX11 (j := 2) (by decide) (o1 := 4) (by first | rfl | omega) rfl (host := "") (.inl kw_328) dX11_count_85 (fun h22 => ?_)
      refine gw_get7 F (so_4 hst) (by decide) rfl sg_lay_RX7 (j := 3) (by decide) (o1 := 20) (by first | rfl | omega) rfl (.inr kw_240) dX11_count_88 (fun h23 => ?_)
      refine gw_get0 F (so_20 hst) (by decide) rfl sg_lay_RX2 (j := 2) (by decide) rfl (.inr kw_230) dX11_count_91 (fun h24 => ?_)
      exact gr_PI F h24 hf (by decide) (by decide) dX11_count_94
    · have hf := hf.2.2.2.2.2.2 (by omega)
      refine ⟨94, 95, rfl, by decide, ?_⟩
      refine gw_aload_n F 0 rfl rfl (by decide) dX11_count_95 ?_
      refine gw_get7 F (so_0 hst) (by decide) rfl sg_lay_RX11 (j := 0) (by decide) (o1 := 1) (by first | rfl | omega) rfl (host := "") (.inl kw_326) dX11_count_96 (fun h25 => ?_)
      refine gw_get0 F (so_1 hst) (by decide) rfl sg_lay_RX8 (j := 1) (by decide) rfl (.inr kw_128) dX11_count_99 (fun h26 => ?_)
      exact gr_PI F h26 hf (by decide) (by decide) dX11_count_102

theorem dX9_skipWord_0 : decode cX9_skipWord 0 = .ok (.aload_n 0, 1) := by decide +kernel
theorem dX9_skipWord_1 : decode cX9_skipWord 1 = .ok (.aload_n 1, 1) := by decide +kernel
theorem dX9_skipWord_2 : decode cX9_skipWord 2 = .ok (.invokevirtual 71, 3) := by decide +kernel
theorem dX9_skipWord_5 : decode cX9_skipWord 5 = .ok (.istore_n 2, 1) := by decide +kernel
theorem dX9_skipWord_6 : decode cX9_skipWord 6 = .ok (.iload_n 2, 1) := by decide +kernel
theorem dX9_skipWord_7 : decode cX9_skipWord 7 = .ok (.ifCond .eq 7, 3) := by decide +kernel
theorem dX9_skipWord_10 : decode cX9_skipWord 10 = .ok (.aload_n 0, 1) := by decide +kernel
theorem dX9_skipWord_11 : decode cX9_skipWord 11 = .ok (.invokevirtual 35, 3) := by decide +kernel
theorem dX9_skipWord_14 : decode cX9_skipWord 14 = .ok (.iload_n 2, 1) := by decide +kernel
theorem dX9_skipWord_15 : decode cX9_skipWord 15 = .ok (.ireturn, 1) := by decide +kernel
theorem hcX9_skipWord : yX9_skipWord.cls ≠ "java/lang/invoke/MethodHandle" ∧ yX9_skipWord.cls ≠ "java/lang/invoke/VarHandle" ∧ (parseMethodDescriptor yX9_skipWord.desc).map (fun d => d.parameters.length) = some 1 := ⟨by decide +kernel, by decide +kernel, by decide +kernel⟩
def fX9_skipWord (s0 : sg_M) (w1 : Nat) (Q : Int → sg_M → Prop) : Prop := fX9_isWord s0 w1 (fun u1 => ((u1 = 0 → Q u1 s0) ∧ (¬ (u1 = 0) → fX9_advance s0 (fun s4 => Q u1 s4))))
set_option maxHeartbeats 4000000 in
set_option maxRecDepth 100000 in
theorem CX9_skipWord {l : Launch} {G : sg_G} {La : sg_L} {s0 : sg_M} (hst : sg_St La) {w1 : Nat} (hw1 : w1 < 25) {Q : Int → sg_M → Prop} (hf : fX9_skipWord s0 w1 Q) : sg_C l G yX9_skipWord cX9_skipWord 3 (some .boolean) 6 0 0 La s0 [sg_r 3, sg_a (G.2.2.1 w1)] (sg_HZ La Q) := by
  refine sg_body (by decide +kernel) (Nat.le_of_ble_eq_true rfl) ?_
  intro p e s m args below meth c F hnm
  unfold fX9_skipWord at hf
  show sg_W p l e (sg_rm 6 0 0) s m args below meth c (MQ below (sg_Q (some .boolean) G La s.heap.size (sg_HZ La Q)) args s 0 0 (sg_A La s.heap.size)) 3 G (sg_A La s.heap.size) La s0 0 0 0 [(0, sg_r 3), (1, sg_a (G.2.2.1 w1))] []
  refine gw_aload_n F 0 rfl rfl (by decide) dX9_skipWord_0 ?_
  refine gw_aload_na F 1 rfl rfl dX9_skipWord_1 ?_
  refine gk_PZ F (gc_V F (S := []) (As := [sg_a (G.2.2.1 w1)]) (T := TX9) (N := 8) (CX9_isWord hst hw1 hf) (so_3 hst) (by decide) rfl kw_403 kw_92 kw_400 kw_401 kw_402 hcX9_isWord ⟨by decide, by decide⟩ rfl rfl (Nat.le_of_ble_eq_true rfl) ⟨by decide, by decide⟩ dX9_skipWord_2) (fun u1 h2 hf => ?_)
  refine gw_istore_n F rfl (by decide) rfl dX9_skipWord_5 ?_
  refine gw_iload_n F 0 rfl rfl dX9_skipWord_6 ?_
  refine gw_if_eq F (tgt := 14) dX9_skipWord_7 (by decide) (sg_B_R h2) (fun c3 => ?_) (fun c3 => ?_)
  · have hf := hf.1 c3
    refine gw_iload_n F 0 rfl rfl dX9_skipWord_14 ?_
    exact gr_HZ F h2 hf (by decide) (by decide) dX9_skipWord_15
  · have hf := hf.2 c3
    refine gw_aload_n F 1 rfl rfl (by decide) dX9_skipWord_10 ?_
    refine gk_HV F (gc_V F (S := []) (As := []) (T := TX9) (N := 8) (CX9_advance hst hf) (so_3 hst) (by decide) rfl kw_368 kw_92 kw_365 kw_366 kw_367 hcX9_advance ⟨by decide, by decide⟩ rfl rfl (Nat.le_of_ble_eq_true rfl) ⟨by decide, by decide⟩ dX9_skipWord_11) (fun s4 hf => ?_)
    refine gw_iload_n F 0 rfl rfl dX9_skipWord_14 ?_
    exact gr_HZ F h2 hf (by decide) (by decide) dX9_skipWord_15

theorem dX9_mustBeWord_0 : decode cX9_mustBeWord 0 = .ok (.aload_n 0, 1) := by decide +kernel
theorem dX9_mustBeWord_1 : decode cX9_mustBeWord 1 = .ok (.aload_n 1, 1) := by decide +kernel
theorem dX9_mustBeWord_2 : decode cX9_mustBeWord 2 = .ok (.invokevirtual 85, 3) := by decide +kernel
theorem dX9_mustBeWord_5 : decode cX9_mustBeWord 5 = .ok (.ifCond .ne 8, 3) := by decide +kernel
theorem dX9_mustBeWord_8 : decode cX9_mustBeWord 8 = .ok (.aload_n 0, 1) := by decide +kernel
theorem dX9_mustBeWord_9 : decode cX9_mustBeWord 9 = .ok (.iconst 1, 1) := by decide +kernel
theorem dX9_mustBeWord_10 : decode cX9_mustBeWord 10 = .ok (.invokevirtual 81, 3) := by decide +kernel
theorem dX9_mustBeWord_13 : decode cX9_mustBeWord 13 = .ok (.return_, 1) := by decide +kernel
theorem hcX9_mustBeWord : yX9_mustBeWord.cls ≠ "java/lang/invoke/MethodHandle" ∧ yX9_mustBeWord.cls ≠ "java/lang/invoke/VarHandle" ∧ (parseMethodDescriptor yX9_mustBeWord.desc).map (fun d => d.parameters.length) = some 1 := ⟨by decide +kernel, by decide +kernel, by decide +kernel⟩
def fX9_mustBeWord (s0 : sg_M) (w1 : Nat) (Q : sg_M → Prop) : Prop := fX9_skipWord s0 w1 (fun u1 s3 => ((u1 ≠ 0 → Q s3) ∧ (u1 = 0 → fX9_fail s3 1 (fun s5 => Q s5))))
set_option maxHeartbeats 4000000 in
set_option maxRecDepth 100000 in
theorem CX9_mustBeWord {l : Launch} {G : sg_G} {La : sg_L} {s0 : sg_M} (hst : sg_St La) {w1 : Nat} (hw1 : w1 < 25) {Q : sg_M → Prop} (hf : fX9_mustBeWord s0 w1 Q) : sg_C l G yX9_mustBeWord cX9_mustBeWord 2 (none) 7 0 0 La s0 [sg_r 3, sg_a (G.2.2.1 w1)] (sg_HV La Q) := by
  refine sg_body (by decide +kernel) (Nat.le_of_ble_eq_true rfl) ?_
  intro p e s m args below meth c F hnm
  unfold fX9_mustBeWord at hf
  show sg_W p l e (sg_rm 7 0 0) s m args below meth c (MQ below (sg_Q (none) G La s.heap.size (sg_HV La Q)) args s 0 0 (sg_A La s.heap.size)) 2 G (sg_A La s.heap.size) La s0 0 0 0 [(0, sg_r 3), (1, sg_a (G.2.2.1 w1))] []
  refine gw_aload_n F 0 rfl rfl (by decide) dX9_mustBeWord_0 ?_
  refine gw_aload_na F 1 rfl rfl dX9_mustBeWord_1 ?_
  refine gk_HZ F (gc_V F (S := []) (As := [sg_a (G.2.2.1 w1)]) (T := TX9) (N := 8) (CX9_skipWord hst hw1 hf) (so_3 hst) (by decide) rfl kw_399 kw_92 kw_620 kw_397 kw_398 hcX9_skipWord ⟨by decide, by decide⟩ rfl rfl (Nat.le_of_ble_eq_true rfl) ⟨by decide, by decide⟩ dX9_mustBeWord_2) (fun u1 s3 h2 hf => ?_)
  refine gw_if_ne F (tgt := 13) dX9_mustBeWord_5 (by decide) (sg_B_R h2) (fun c4 => ?_) (fun c4 => ?_)
  · have hf := hf.1 c4
    exact gr_HV F hf (by decide) (by decide) dX9_mustBeWord_13
  · have hf := hf.2 c4
    refine gw_aload_n F 0 rfl rfl (by decide) dX9_mustBeWord_8 ?_
    refine gw_iconst F dX9_mustBeWord_9 ?_
    refine gk_HV F (gc_V F (S := []) (As := [sg_i 1]) (T := TX9) (N := 8) (CX9_fail hst (by decide) hf) (so_3 hst) (by decide) rfl kw_457 kw_92 kw_454 kw_455 kw_456 hcX9_fail ⟨by decide, by decide⟩ rfl rfl (Nat.le_of_ble_eq_true rfl) ⟨by decide, by decide⟩ dX9_mustBeWord_10) (fun s5 hf => ?_)
    exact gr_HV F hf (by decide) (by decide) dX9_mustBeWord_13

theorem dX11_isBend_0 : decode cX11_isBend 0 = .ok (.iload_n 0, 1) := by decide +kernel
theorem dX11_isBend_1 : decode cX11_isBend 1 = .ok (.sipush (-9999), 3) := by decide +kernel
theorem dX11_isBend_4 : decode cX11_isBend 4 = .ok (.if_icmp .lt 28, 3) := by decide +kernel
theorem dX11_isBend_7 : decode cX11_isBend 7 = .ok (.iload_n 0, 1) := by decide +kernel
theorem dX11_isBend_8 : decode cX11_isBend 8 = .ok (.sipush 9999, 3) := by decide +kernel
theorem dX11_isBend_11 : decode cX11_isBend 11 = .ok (.if_icmp .gt 21, 3) := by decide +kernel
theorem dX11_isBend_14 : decode cX11_isBend 14 = .ok (.iload_n 1, 1) := by decide +kernel
theorem dX11_isBend_15 : decode cX11_isBend 15 = .ok (.sipush (-9999), 3) := by decide +kernel
theorem dX11_isBend_18 : decode cX11_isBend 18 = .ok (.if_icmp .lt 14, 3) := by decide +kernel
theorem dX11_isBend_21 : decode cX11_isBend 21 = .ok (.iload_n 1, 1) := by decide +kernel
theorem dX11_isBend_22 : decode cX11_isBend 22 = .ok (.sipush 9999, 3) := by decide +kernel
theorem dX11_isBend_25 : decode cX11_isBend 25 = .ok (.if_icmp .gt 7, 3) := by decide +kernel
theorem dX11_isBend_28 : decode cX11_isBend 28 = .ok (.iconst 1, 1) := by decide +kernel
theorem dX11_isBend_29 : decode cX11_isBend 29 = .ok (.goto 4, 3) := by decide +kernel
theorem dX11_isBend_32 : decode cX11_isBend 32 = .ok (.iconst 0, 1) := by decide +kernel
theorem dX11_isBend_33 : decode cX11_isBend 33 = .ok (.ireturn, 1) := by decide +kernel
theorem hcX11_isBend : yX11_isBend.cls ≠ "java/lang/invoke/MethodHandle" ∧ yX11_isBend.cls ≠ "java/lang/invoke/VarHandle" ∧ (parseMethodDescriptor yX11_isBend.desc).map (fun d => d.parameters.length) = some 2 := ⟨by decide +kernel, by decide +kernel, by decide +kernel⟩
def fX11_isBend (x0 : Int) (x1 : Int) (Q : Int → Prop) : Prop := ((x0 < (-9999) → Q 0) ∧ (¬ (x0 < (-9999)) → ((9999 < x0 → Q 0) ∧ (¬ (9999 < x0) → ((x1 < (-9999) → Q 0) ∧ (¬ (x1 < (-9999)) → ((9999 < x1 → Q 0) ∧ (¬ (9999 < x1) → Q 1))))))))
set_option maxHeartbeats 4000000 in
set_option maxRecDepth 100000 in
theorem CX11_isBend {l : Launch} {G : sg_G} {La : sg_L} {s0 : sg_M} {x0 : Int} (r0 : sg_R x0) {x1 : Int} (r1 : sg_R x1) {Q : Int → Prop} (hf : fX11_isBend x0 x1 Q) : sg_C l G yX11_isBend cX11_isBend 2 (some .boolean) 1 0 0 La s0 [sg_i x0, sg_i x1] (sg_PZ La s0 Q) := by
  refine sg_body (by decide +kernel) (Nat.le_of_ble_eq_true rfl) ?_
  intro p e s m args below meth c F hnm
  unfold fX11_isBend at hf
  show sg_W p l e (sg_rm 1 0 0) s m args below meth c (MQ below (sg_Q (some .boolean) G La s.heap.size (sg_PZ La s0 Q)) args s 0 0 (sg_A La s.heap.size)) 2 G (sg_A La s.heap.size) La s0 0 0 0 [(0, sg_i x0), (1, sg_i x1)] []
  refine gw_iload_n F 0 rfl rfl dX11_isBend_0 ?_
  refine gw_sipush F rfl dX11_isBend_1 ?_
  refine gw_icmp_lt F (tgt := 32) dX11_isBend_4 (by decide) r0 (by decide) (fun c1 => ?_) (fun c1 => ?_)
  · have hf := hf.1 c1
    refine gw_iconst F dX11_isBend_32 ?_
    exact gr_PZ F (by decide) hf (by decide) (by decide) dX11_isBend_33
  · have hf := hf.2 c1
    refine gw_iload_n F 0 rfl rfl dX11_isBend_7 ?_
    refine gw_sipush F rfl dX11_isBend_8 ?_
    refine gw_icmp_gt F (tgt := 32) dX11_isBend_11 (by decide) r0 (by decide) (fun c2 => ?_) (fun c2 => ?_)
    · have hf := hf.1 c2
      refine gw_iconst F dX11_isBend_32 ?_
      exact gr_PZ F (by decide) hf (by decide) (by decide) dX11_isBend_33
    · have hf := hf.2 c2
      refine gw_iload_n F 1 rfl rfl dX11_isBend_14 ?_
      refine gw_sipush F rfl dX11_isBend_15 ?_
      refine gw_icmp_lt F (tgt := 32) dX11_isBend_18 (by decide) r1 (by decide) (fun c3 => ?_) (fun c3 => ?_)
      · have hf := hf.1 c3
        refine gw_iconst F dX11_isBend_32 ?_
        exact gr_PZ F (by decide) hf (by decide) (by decide) dX11_isBend_33
      · have hf := hf.2 c3
        refine gw_iload_n F 1 rfl rfl dX11_isBend_21 ?_
        refine gw_sipush F rfl dX11_isBend_22 ?_
        refine gw_icmp_gt F (tgt := 32) dX11_isBend_25 (by decide) r1 (by decide) (fun c4 => ?_) (fun c4 => ?_)
        · have hf := hf.1 c4
          refine gw_iconst F dX11_isBend_32 ?_
          exact gr_PZ F (by decide) hf (by decide) (by decide) dX11_isBend_33
        · have hf := hf.2 c4
          refine gw_iconst F dX11_isBend_28 ?_
          refine gw_goto F (tgt := 33) dX11_isBend_29 (by decide) ?_
          exact gr_PZ F (by decide) hf (by decide) (by decide) dX11_isBend_33

theorem dX0_sound_0 : decode cX0_sound 0 = .ok (.iload_n 1, 1) := by decide +kernel
theorem dX0_sound_1 : decode cX0_sound 1 = .ok (.ifCond .lt 31, 3) := by decide +kernel
theorem dX0_sound_4 : decode cX0_sound 4 = .ok (.iload_n 1, 1) := by decide +kernel
theorem dX0_sound_5 : decode cX0_sound 5 = .ok (.aload_n 0, 1) := by decide +kernel
theorem dX0_sound_6 : decode cX0_sound 6 = .ok (.getfield 23, 3) := by decide +kernel
theorem dX0_sound_9 : decode cX0_sound 9 = .ok (.getfield 90, 3) := by decide +kernel
theorem dX0_sound_12 : decode cX0_sound 12 = .ok (.if_icmp .ge 20, 3) := by decide +kernel
theorem dX0_sound_15 : decode cX0_sound 15 = .ok (.iload_n 2, 1) := by decide +kernel
theorem dX0_sound_16 : decode cX0_sound 16 = .ok (.ifCond .lt 16, 3) := by decide +kernel
theorem dX0_sound_19 : decode cX0_sound 19 = .ok (.iload_n 2, 1) := by decide +kernel
theorem dX0_sound_20 : decode cX0_sound 20 = .ok (.iconst 5, 1) := by decide +kernel
theorem dX0_sound_21 : decode cX0_sound 21 = .ok (.if_icmp .gt 11, 3) := by decide +kernel
theorem dX0_sound_24 : decode cX0_sound 24 = .ok (.aload_n 0, 1) := by decide +kernel
theorem dX0_sound_25 : decode cX0_sound 25 = .ok (.getfield 34, 3) := by decide +kernel
theorem dX0_sound_28 : decode cX0_sound 28 = .ok (.iconst (-1), 1) := by decide +kernel
theorem dX0_sound_29 : decode cX0_sound 29 = .ok (.if_icmp .eq 5, 3) := by decide +kernel
theorem dX0_sound_32 : decode cX0_sound 32 = .ok (.iconst 0, 1) := by decide +kernel
theorem dX0_sound_33 : decode cX0_sound 33 = .ok (.ireturn, 1) := by decide +kernel
theorem dX0_sound_34 : decode cX0_sound 34 = .ok (.aload_n 0, 1) := by decide +kernel
theorem dX0_sound_35 : decode cX0_sound 35 = .ok (.getfield 23, 3) := by decide +kernel
theorem dX0_sound_38 : decode cX0_sound 38 = .ok (.iload_n 1, 1) := by decide +kernel
theorem dX0_sound_39 : decode cX0_sound 39 = .ok (.invokevirtual 91, 3) := by decide +kernel
theorem dX0_sound_42 : decode cX0_sound 42 = .ok (.istore 4, 2) := by decide +kernel
theorem dX0_sound_44 : decode cX0_sound 44 = .ok (.aload_n 0, 1) := by decide +kernel
theorem dX0_sound_45 : decode cX0_sound 45 = .ok (.iload 4, 2) := by decide +kernel
theorem dX0_sound_47 : decode cX0_sound 47 = .ok (.iconst 2, 1) := by decide +kernel
theorem dX0_sound_48 : decode cX0_sound 48 = .ok (.iload_n 2, 1) := by decide +kernel
theorem dX0_sound_49 : decode cX0_sound 49 = .ok (.imul, 1) := by decide +kernel
theorem dX0_sound_50 : decode cX0_sound 50 = .ok (.iconst 1, 1) := by decide +kernel
theorem dX0_sound_51 : decode cX0_sound 51 = .ok (.iadd, 1) := by decide +kernel
theorem dX0_sound_52 : decode cX0_sound 52 = .ok (.aload_n 0, 1) := by decide +kernel
theorem dX0_sound_53 : decode cX0_sound 53 = .ok (.getfield 31, 3) := by decide +kernel
theorem dX0_sound_56 : decode cX0_sound 56 = .ok (.imul, 1) := by decide +kernel
theorem dX0_sound_57 : decode cX0_sound 57 = .ok (.sipush 2000, 3) := by decide +kernel
theorem dX0_sound_60 : decode cX0_sound 60 = .ok (.invokevirtual 94, 3) := by decide +kernel
theorem dX0_sound_63 : decode cX0_sound 63 = .ok (.istore 5, 2) := by decide +kernel
theorem dX0_sound_65 : decode cX0_sound 65 = .ok (.iload 5, 2) := by decide +kernel
theorem dX0_sound_67 : decode cX0_sound 67 = .ok (.ifCond .ne 5, 3) := by decide +kernel
theorem dX0_sound_70 : decode cX0_sound 70 = .ok (.iconst 0, 1) := by decide +kernel
theorem dX0_sound_71 : decode cX0_sound 71 = .ok (.ireturn, 1) := by decide +kernel
theorem dX0_sound_72 : decode cX0_sound 72 = .ok (.aload_n 3, 1) := by decide +kernel
theorem dX0_sound_73 : decode cX0_sound 73 = .ok (.iload 5, 2) := by decide +kernel
theorem dX0_sound_75 : decode cX0_sound 75 = .ok (.putfield 97, 3) := by decide +kernel
theorem dX0_sound_78 : decode cX0_sound 78 = .ok (.aload_n 3, 1) := by decide +kernel
theorem dX0_sound_79 : decode cX0_sound 79 = .ok (.aload_n 0, 1) := by decide +kernel
theorem dX0_sound_80 : decode cX0_sound 80 = .ok (.iload 4, 2) := by decide +kernel
theorem dX0_sound_82 : decode cX0_sound 82 = .ok (.iload 5, 2) := by decide +kernel
theorem dX0_sound_84 : decode cX0_sound 84 = .ok (.invokevirtual 102, 3) := by decide +kernel
theorem dX0_sound_87 : decode cX0_sound 87 = .ok (.putfield 105, 3) := by decide +kernel
theorem dX0_sound_90 : decode cX0_sound 90 = .ok (.aload_n 3, 1) := by decide +kernel
theorem dX0_sound_91 : decode cX0_sound 91 = .ok (.aload_n 0, 1) := by decide +kernel
theorem dX0_sound_92 : decode cX0_sound 92 = .ok (.iload 4, 2) := by decide +kernel
theorem dX0_sound_94 : decode cX0_sound 94 = .ok (.iload 5, 2) := by decide +kernel
theorem dX0_sound_96 : decode cX0_sound 96 = .ok (.invokevirtual 108, 3) := by decide +kernel
theorem dX0_sound_99 : decode cX0_sound 99 = .ok (.putfield 111, 3) := by decide +kernel
theorem dX0_sound_102 : decode cX0_sound 102 = .ok (.aload_n 3, 1) := by decide +kernel
theorem dX0_sound_103 : decode cX0_sound 103 = .ok (.aload_n 3, 1) := by decide +kernel
theorem dX0_sound_104 : decode cX0_sound 104 = .ok (.getfield 105, 3) := by decide +kernel
theorem dX0_sound_107 : decode cX0_sound 107 = .ok (.ifCond .le 20, 3) := by decide +kernel
theorem dX0_sound_110 : decode cX0_sound 110 = .ok (.aload_n 3, 1) := by decide +kernel
theorem dX0_sound_111 : decode cX0_sound 111 = .ok (.getfield 111, 3) := by decide +kernel
theorem dX0_sound_114 : decode cX0_sound 114 = .ok (.aload_n 0, 1) := by decide +kernel
theorem dX0_sound_115 : decode cX0_sound 115 = .ok (.getfield 27, 3) := by decide +kernel
theorem dX0_sound_118 : decode cX0_sound 118 = .ok (.iconst 1, 1) := by decide +kernel
theorem dX0_sound_119 : decode cX0_sound 119 = .ok (.isub, 1) := by decide +kernel
theorem dX0_sound_120 : decode cX0_sound 120 = .ok (.if_icmp .ge 7, 3) := by decide +kernel
theorem dX0_sound_123 : decode cX0_sound 123 = .ok (.iconst 1, 1) := by decide +kernel
theorem dX0_sound_124 : decode cX0_sound 124 = .ok (.goto 4, 3) := by decide +kernel
theorem dX0_sound_127 : decode cX0_sound 127 = .ok (.iconst 0, 1) := by decide +kernel
theorem dX0_sound_128 : decode cX0_sound 128 = .ok (.putfield 114, 3) := by decide +kernel
theorem dX0_sound_131 : decode cX0_sound 131 = .ok (.aload_n 3, 1) := by decide +kernel
theorem dX0_sound_132 : decode cX0_sound 132 = .ok (.aload_n 0, 1) := by decide +kernel
theorem dX0_sound_133 : decode cX0_sound 133 = .ok (.aload_n 3, 1) := by decide +kernel
theorem dX0_sound_134 : decode cX0_sound 134 = .ok (.getfield 105, 3) := by decide +kernel
theorem dX0_sound_137 : decode cX0_sound 137 = .ok (.aload_n 3, 1) := by decide +kernel
theorem dX0_sound_138 : decode cX0_sound 138 = .ok (.getfield 111, 3) := by decide +kernel
theorem dX0_sound_141 : decode cX0_sound 141 = .ok (.invokevirtual 117, 3) := by decide +kernel
theorem dX0_sound_144 : decode cX0_sound 144 = .ok (.putfield 121, 3) := by decide +kernel
theorem dX0_sound_147 : decode cX0_sound 147 = .ok (.aload_n 3, 1) := by decide +kernel
theorem dX0_sound_148 : decode cX0_sound 148 = .ok (.aload_n 3, 1) := by decide +kernel
theorem dX0_sound_149 : decode cX0_sound 149 = .ok (.getfield 114, 3) := by decide +kernel
theorem dX0_sound_152 : decode cX0_sound 152 = .ok (.ifCond .eq 20, 3) := by decide +kernel
theorem dX0_sound_155 : decode cX0_sound 155 = .ok (.aload_n 0, 1) := by decide +kernel
theorem dX0_sound_156 : decode cX0_sound 156 = .ok (.aload_n 3, 1) := by decide +kernel
theorem dX0_sound_157 : decode cX0_sound 157 = .ok (.getfield 105, 3) := by decide +kernel
theorem dX0_sound_160 : decode cX0_sound 160 = .ok (.aload_n 3, 1) := by decide +kernel
theorem dX0_sound_161 : decode cX0_sound 161 = .ok (.getfield 111, 3) := by decide +kernel
theorem dX0_sound_164 : decode cX0_sound 164 = .ok (.iload 5, 2) := by decide +kernel
theorem dX0_sound_166 : decode cX0_sound 166 = .ok (.invokevirtual 124, 3) := by decide +kernel
theorem dX0_sound_169 : decode cX0_sound 169 = .ok (.goto 4, 3) := by decide +kernel
theorem dX0_sound_172 : decode cX0_sound 172 = .ok (.iconst 0, 1) := by decide +kernel
theorem dX0_sound_173 : decode cX0_sound 173 = .ok (.putfield 127, 3) := by decide +kernel
theorem dX0_sound_176 : decode cX0_sound 176 = .ok (.aload_n 0, 1) := by decide +kernel
theorem dX0_sound_177 : decode cX0_sound 177 = .ok (.aload_n 3, 1) := by decide +kernel
theorem dX0_sound_178 : decode cX0_sound 178 = .ok (.invokevirtual 129, 3) := by decide +kernel
theorem dX0_sound_181 : decode cX0_sound 181 = .ok (.iconst 1, 1) := by decide +kernel
theorem dX0_sound_182 : decode cX0_sound 182 = .ok (.ireturn, 1) := by decide +kernel
theorem hcX0_sound : yX0_sound.cls ≠ "java/lang/invoke/MethodHandle" ∧ yX0_sound.cls ≠ "java/lang/invoke/VarHandle" ∧ (parseMethodDescriptor yX0_sound.desc).map (fun d => d.parameters.length) = some 3 := ⟨by decide +kernel, by decide +kernel, by decide +kernel⟩
def fX0_sound_j128 (La : sg_L) (o3 : Int) (u14 : Int) (s25 : sg_M) (Q : Int → sg_M → Prop) (y0_128 : Int) : Prop := sg_B y0_128 ∧ ∀ s29 : sg_M, s29 = sg_up s25 o3 5 y0_128 → fX0_isTwice La s29 (s29 o3 2) (s29 o3 3) (fun u33 => ∀ s35 : sg_M, s35 = sg_up s29 o3 6 u33 → (((s35 o3 5) = 0 → ∀ s39 : sg_M, s39 = sg_up s35 o3 4 0 → fX0_tellStrengths La s39 o3 (fun s41 => Q 1 s41)) ∧ (¬ ((s35 o3 5) = 0) → fX0_rings s35 (s35 o3 2) (s35 o3 3) u14 (fun u44 => ∀ s46 : sg_M, s46 = sg_up s35 o3 4 u44 → fX0_tellStrengths La s46 o3 (fun s48 => Q 1 s48)))))
def fX0_sound_j127  (k128 : Int → Prop)  : Prop := k128 0
def fX0_sound (La : sg_L) (s0 : sg_M) (x1 : Int) (x2 : Int) (o3 : Int) (Q : Int → sg_M → Prop) : Prop := ((x1 < 0 → Q 0 s0) ∧ (¬ (x1 < 0) → (((s0 35 1) ≤ x1 → Q 0 s0) ∧ (¬ ((s0 35 1) ≤ x1) → ((x2 < 0 → Q 0 s0) ∧ (¬ (x2 < 0) → ((5 < x2 → Q 0 s0) ∧ (¬ (5 < x2) → (((s0 32 5) = (-1) → fX4_at La s0 35 x1 (fun u10 => sg_R (((2 * x2) + 1) * (s0 32 4)) ∧ fX0_leastTone s0 u10 (((2 * x2) + 1) * (s0 32 4)) 2000 (fun u14 => ((u14 ≠ 0 → ∀ s17 : sg_M, s17 = sg_up s0 o3 1 u14 → fX0_firstOfRun s17 u10 u14 (fun u19 => ∀ s21 : sg_M, s21 = sg_up s17 o3 2 u19 → fX0_lastOfRun s21 u10 u14 (fun u23 => ∀ s25 : sg_M, s25 = sg_up s21 o3 3 u23 → (((s25 o3 2) ≤ 0 → (fX0_sound_j127  (fX0_sound_j128 La o3 u14 s25 Q))) ∧ (¬ ((s25 o3 2) ≤ 0) → sg_R ((s25 32 3) - 1) ∧ ((((s25 32 3) - 1) ≤ (s25 o3 3) → (fX0_sound_j127  (fX0_sound_j128 La o3 u14 s25 Q))) ∧ (¬ (((s25 32 3) - 1) ≤ (s25 o3 3)) → (fX0_sound_j128 La o3 u14 s25 Q) 1))))))) ∧ (u14 = 0 → Q 0 s0))))) ∧ (¬ ((s0 32 5) = (-1)) → Q 0 s0))))))))))
set_option maxHeartbeats 4000000 in
set_option maxRecDepth 100000 in
theorem CX0_sound {l : Launch} {G : sg_G} {La : sg_L} {s0 : sg_M} (hst : sg_St La) {x1 : Int} (r1 : sg_R x1) {x2 : Int} (r2 : sg_R x2) {o3 : Int} (t3 : sg_O La o3 10) {Q : Int → sg_M → Prop} (hf : fX0_sound La s0 x1 x2 o3 Q) : sg_C l G yX0_sound cX0_sound 6 (some .boolean) 4 0 0 La s0 [sg_r 32, sg_i x1, sg_i x2, sg_r o3] (sg_HZ La Q) := by
  refine sg_body (by decide +kernel) (Nat.le_of_ble_eq_true rfl) ?_
  intro p e s m args below meth c F hnm
  unfold fX0_sound at hf
  show sg_W p l e (sg_rm 4 0 0) s m args below meth c (MQ below (sg_Q (some .boolean) G La s.heap.size (sg_HZ La Q)) args s 0 0 (sg_A La s.heap.size)) 6 G (sg_A La s.heap.size) La s0 0 0 0 [(0, sg_r 32), (1, sg_i x1), (2, sg_i x2), (3, sg_r o3)] []
  refine gw_iload_n F 1 rfl rfl dX0_sound_0 ?_
  refine gw_if_lt F (tgt := 32) dX0_sound_1 (by decide) r1 (fun c1 => ?_) (fun c1 => ?_)
  · have hf := hf.1 c1
    refine gw_iconst F dX0_sound_32 ?_
    exact gr_HZ F (by decide) hf (by decide) (by decide) dX0_sound_33
  · have hf := hf.2 c1
    refine gw_iload_n F 1 rfl rfl dX0_sound_4 ?_
    refine gw_aload_n F 0 rfl rfl (by decide) dX0_sound_5 ?_
    refine gw_get3 F (so_32 hst) (by decide) rfl sg_lay_RX0 (j := 2) (by decide) (o1 := 35) (by first | rfl | omega) rfl (host := "") (.inl kw_254) dX0_sound_6 (fun h2 => ?_)
    refine gw_get0 F (so_35 hst) (by decide) rfl sg_lay_RX4 (j := 1) (by decide) rfl (.inr kw_202) dX0_sound_9 (fun h3 => ?_)
    refine gw_icmp_ge F (tgt := 32) dX0_sound_12 (by decide) r1 h3 (fun c4 => ?_) (fun c4 => ?_)
    · have hf := hf.1 c4
      refine gw_iconst F dX0_sound_32 ?_
      exact gr_HZ F (by decide) hf (by decide) (by decide) dX0_sound_33
    · have hf := hf.2 c4
      refine gw_iload_n F 2 rfl rfl dX0_sound_15 ?_
      refine gw_if_lt F (tgt := 32) dX0_sound_16 (by decide) r2 (fun c5 => ?_) (fun c5 => ?_)
      · have hf := hf.1 c5
        refine gw_iconst F dX0_sound_32 ?_
        exact gr_HZ F (by decide) hf (by decide) (by decide) dX0_sound_33
      · have hf := hf.2 c5
        refine gw_iload_n F 2 rfl rfl dX0_sound_19 ?_
        refine gw_iconst F dX0_sound_20 ?_
        refine gw_icmp_gt F (tgt := 32) dX0_sound_21 (by decide) r2 (by decide) (fun c6 => ?_) (fun c6 => ?_)
        · have hf := hf.1 c6
          refine gw_iconst F dX0_sound_32 ?_
          exact gr_HZ F (by decide) hf (by decide) (by decide) dX0_sound_33
        · have hf := hf.2 c6
          refine gw_aload_n F 0 rfl rfl (by decide) dX0_sound_24 ?_
          refine gw_get0 F (so_32 hst) (by decide) rfl sg_lay_RX0 (j := 5) (by decide) rfl (host := "") (.inl kw_259) dX0_sound_25 (fun h7 => ?_)
          refine gw_iconst F dX0_sound_28 ?_
          refine gw_icmp_eq F (tgt := 34) dX0_sound_29 (by decide) h7 (by decide) (fun c8 => ?_) (fun c8 => ?_)
          · have hf := hf.1 c8
            refine gw_aload_n F 0 rfl rfl (by decide) dX0_sound_34 ?_
            refine gw_get3 F (so_32 hst) (by decide) rfl sg_lay_RX0 (j := 2) (by decide) (o1 := 35) (by first | rfl | omega) rfl (host := "") (.inl kw_254) dX0_sound_35 (fun h9 => ?_)
            refine gw_iload_n F 1 rfl rfl dX0_sound_38 ?_
            refine gk_PI F (gc_V F (S := []) (As := [sg_i x1]) (T := TX4) (N := 3) (CX4_at (so_35 hst) r1 hf) (so_35 hst) (by decide) rfl kw_546 kw_97 kw_555 kw_544 kw_545 hcX4_at ⟨by decide, by decide⟩ rfl rfl (Nat.le_of_ble_eq_true rfl) ⟨by decide, by decide⟩ dX0_sound_39) (fun u10 h11 hf => ?_)
            refine gw_istore F (by decide) rfl dX0_sound_42 ?_
            refine gw_aload_n F 1 rfl rfl (by decide) dX0_sound_44 ?_
            refine gw_iload F 0 rfl dX0_sound_45 ?_
            refine gw_iconst F dX0_sound_47 ?_
            refine gw_iload_n F 3 rfl rfl dX0_sound_48 ?_
            refine gw_imul F rfl dX0_sound_49 ?_
            refine gw_iconst F dX0_sound_50 ?_
            refine gw_iadd F rfl dX0_sound_51 ?_
            refine gw_aload_n F 1 rfl rfl (by decide) dX0_sound_52 ?_
            refine gw_get0 F (so_32 hst) (by decide) rfl sg_lay_RX0 (j := 4) (by decide) rfl (host := "") (.inl kw_258) dX0_sound_53 (fun h12 => ?_)
            refine gw_imul F rfl dX0_sound_56 ?_
            refine gw_sipush F rfl dX0_sound_57 ?_
            obtain ⟨g13, hf⟩ := hf
            refine gk_PI F (gc_V F (S := []) (As := [sg_i u10, sg_i (((2 * x2) + 1) * (s0 32 4)), sg_i 2000]) (T := TX0) (N := 11) (CX0_leastTone hst h11 g13 (by decide) hf) (so_32 hst) (by decide) rfl kw_558 kw_100 kw_556 kw_557 kw_6 hcX0_leastTone ⟨by decide, by decide⟩ rfl rfl (Nat.le_of_ble_eq_true rfl) ⟨by decide, by decide⟩ dX0_sound_60) (fun u14 h15 hf => ?_)
            refine gw_istore F (by decide) rfl dX0_sound_63 ?_
            refine gw_iload F 0 rfl dX0_sound_65 ?_
            refine gw_if_ne F (tgt := 72) dX0_sound_67 (by decide) h15 (fun c16 => ?_) (fun c16 => ?_)
            · have hf := hf.1 c16
              refine gw_aload_n F 5 rfl rfl t3.1 dX0_sound_72 ?_
              refine gw_iload F 0 rfl dX0_sound_73 ?_
              obtain ⟨s17, e18⟩ : ∃ z : sg_M, z = sg_up s0 o3 1 u14 := ⟨_, rfl⟩
              have hf := hf s17 e18
              refine gw_put0 F t3 (by decide) rfl sg_lay_RX10 (j := 1) (by decide) h15 e18 tyX10_ok nmX10 rfl (tyX10_ok 1 (by decide)) rfl (.inr kw_287) dX0_sound_75 ?_
              refine gw_aload_n F 5 rfl rfl t3.1 dX0_sound_78 ?_
              refine gw_aload_n F 2 rfl rfl (by decide) dX0_sound_79 ?_
              refine gw_iload F 1 rfl dX0_sound_80 ?_
              refine gw_iload F 0 rfl dX0_sound_82 ?_
              refine gk_PI F (gc_V F (S := [sg_r o3]) (As := [sg_i u10, sg_i u14]) (T := TX0) (N := 11) (CX0_firstOfRun hst h11 h15 hf) (so_32 hst) (by decide) rfl kw_571 kw_100 kw_569 kw_570 kw_9 hcX0_firstOfRun ⟨by decide, by decide⟩ rfl rfl (Nat.le_of_ble_eq_true rfl) ⟨by decide, by decide⟩ dX0_sound_84) (fun u19 h20 hf => ?_)
              obtain ⟨s21, e22⟩ : ∃ z : sg_M, z = sg_up s17 o3 2 u19 := ⟨_, rfl⟩
              have hf := hf s21 e22
              refine gw_put0 F t3 (by decide) rfl sg_lay_RX10 (j := 2) (by decide) h20 e22 tyX10_ok nmX10 rfl (tyX10_ok 2 (by decide)) rfl (.inr kw_290) dX0_sound_87 ?_
              refine gw_aload_n F 5 rfl rfl t3.1 dX0_sound_90 ?_
              refine gw_aload_n F 2 rfl rfl (by decide) dX0_sound_91 ?_
              refine gw_iload F 1 rfl dX0_sound_92 ?_
              refine gw_iload F 0 rfl dX0_sound_94 ?_
              refine gk_PI F (gc_V F (S := [sg_r o3]) (As := [sg_i u10, sg_i u14]) (T := TX0) (N := 11) (CX0_lastOfRun hst h11 h15 hf) (so_32 hst) (by decide) rfl kw_574 kw_100 kw_572 kw_573 kw_10 hcX0_lastOfRun ⟨by decide, by decide⟩ rfl rfl (Nat.le_of_ble_eq_true rfl) ⟨by decide, by decide⟩ dX0_sound_96) (fun u23 h24 hf => ?_)
              obtain ⟨s25, e26⟩ : ∃ z : sg_M, z = sg_up s21 o3 3 u23 := ⟨_, rfl⟩
              have hf := hf s25 e26
              refine gw_put0 F t3 (by decide) rfl sg_lay_RX10 (j := 3) (by decide) h24 e26 tyX10_ok nmX10 rfl (tyX10_ok 3 (by decide)) rfl (.inr kw_293) dX0_sound_99 ?_
              refine gw_aload_n F 5 rfl rfl t3.1 dX0_sound_102 ?_
              refine gw_aload_n F 5 rfl rfl t3.1 dX0_sound_103 ?_
              refine gw_get0 F t3 (by decide) rfl sg_lay_RX10 (j := 2) (by decide) rfl (.inr kw_290) dX0_sound_104 (fun h27 => ?_)
              have J128 : ∀ (y0_128 : Int), sg_R y0_128 → (fX0_sound_j128 La o3 u14 s25 Q) y0_128 → sg_W p l e (sg_rm 4 0 0) s m args below meth c (MQ below (sg_Q (some .boolean) G La s.heap.size (sg_HZ La Q)) args s 0 0 (sg_A La s.heap.size)) 6 G (sg_A La s.heap.size) La s25 0 0 128 [(0, sg_r 32), (3, sg_r o3), (5, sg_i u14)] [sg_i y0_128, sg_r o3] := by
                intro y0_128 ry0_128 hf
                unfold fX0_sound_j128 at hf
                obtain ⟨g28, hf⟩ := hf
                obtain ⟨s29, e30⟩ : ∃ z : sg_M, z = sg_up s25 o3 5 y0_128 := ⟨_, rfl⟩
                have hf := hf s29 e30
                refine gw_put1 F t3 (by decide) rfl sg_lay_RX10 (j := 5) (by decide) g28 e30 tyX10_ok nmX10 rfl (tyX10_ok 5 (by decide)) rfl (.inr kw_299) dX0_sound_128 ?_
                refine gw_aload_n F 1 rfl rfl t3.1 dX0_sound_131 ?_
                refine gw_aload_n F 0 rfl rfl (by decide) dX0_sound_132 ?_
                refine gw_aload_n F 1 rfl rfl t3.1 dX0_sound_133 ?_
                refine gw_get0 F t3 (by decide) rfl sg_lay_RX10 (j := 2) (by decide) rfl (.inr kw_290) dX0_sound_134 (fun h31 => ?_)
                refine gw_aload_n F 1 rfl rfl t3.1 dX0_sound_137 ?_
                refine gw_get0 F t3 (by decide) rfl sg_lay_RX10 (j := 3) (by decide) rfl (.inr kw_293) dX0_sound_138 (fun h32 => ?_)
                refine gk_PZ F (gc_V F (S := [sg_r o3]) (As := [sg_i (s29 o3 2), sg_i (s29 o3 3)]) (T := TX0) (N := 11) (CX0_isTwice hst h31 h32 hf) (so_32 hst) (by decide) rfl kw_577 kw_100 kw_575 kw_576 kw_11 hcX0_isTwice ⟨by decide, by decide⟩ rfl rfl (Nat.le_of_ble_eq_true rfl) ⟨by decide, by decide⟩ dX0_sound_141) (fun u33 h34 hf => ?_)
                obtain ⟨s35, e36⟩ : ∃ z : sg_M, z = sg_up s29 o3 6 u33 := ⟨_, rfl⟩
                have hf := hf s35 e36
                refine gw_put1 F t3 (by decide) rfl sg_lay_RX10 (j := 6) (by decide) h34 e36 tyX10_ok nmX10 rfl (tyX10_ok 6 (by decide)) rfl (.inr kw_302) dX0_sound_144 ?_
                refine gw_aload_n F 1 rfl rfl t3.1 dX0_sound_147 ?_
                refine gw_aload_n F 1 rfl rfl t3.1 dX0_sound_148 ?_
                refine gw_get1 F t3 (by decide) rfl sg_lay_RX10 (j := 5) (by decide) rfl (.inr kw_299) dX0_sound_149 (fun h37 => ?_)
                refine gw_if_eq F (tgt := 172) dX0_sound_152 (by decide) (sg_B_R h37) (fun c38 => ?_) (fun c38 => ?_)
                · have hf := hf.1 c38
                  refine gw_iconst F dX0_sound_172 ?_
                  obtain ⟨s39, e40⟩ : ∃ z : sg_M, z = sg_up s35 o3 4 0 := ⟨_, rfl⟩
                  have hf := hf s39 e40
                  refine gw_put0 F t3 (by decide) rfl sg_lay_RX10 (j := 4) (by decide) (by decide) e40 tyX10_ok nmX10 rfl (tyX10_ok 4 (by decide)) rfl (.inr kw_296) dX0_sound_173 ?_
                  refine gw_aload_n F 0 rfl rfl (by decide) dX0_sound_176 ?_
                  refine gw_aload_n F 1 rfl rfl t3.1 dX0_sound_177 ?_
                  refine gk_HV F (gc_V F (S := []) (As := [sg_r o3]) (T := TX0) (N := 11) (CX0_tellStrengths hst t3 hf) (so_32 hst) (by decide) rfl kw_583 kw_100 kw_581 kw_582 kw_13 hcX0_tellStrengths ⟨by decide, by decide⟩ rfl rfl (Nat.le_of_ble_eq_true rfl) ⟨by decide, by decide⟩ dX0_sound_178) (fun s41 hf => ?_)
                  refine gw_iconst F dX0_sound_181 ?_
                  exact gr_HZ F (by decide) hf (by decide) (by decide) dX0_sound_182
                · have hf := hf.2 c38
                  refine gw_aload_n F 0 rfl rfl (by decide) dX0_sound_155 ?_
                  refine gw_aload_n F 1 rfl rfl t3.1 dX0_sound_156 ?_
                  refine gw_get0 F t3 (by decide) rfl sg_lay_RX10 (j := 2) (by decide) rfl (.inr kw_290) dX0_sound_157 (fun h42 => ?_)
                  refine gw_aload_n F 1 rfl rfl t3.1 dX0_sound_160 ?_
                  refine gw_get0 F t3 (by decide) rfl sg_lay_RX10 (j := 3) (by decide) rfl (.inr kw_293) dX0_sound_161 (fun h43 => ?_)
                  refine gw_iload F 2 rfl dX0_sound_164 ?_
                  refine gk_PI F (gc_V F (S := [sg_r o3]) (As := [sg_i (s35 o3 2), sg_i (s35 o3 3), sg_i u14]) (T := TX0) (N := 11) (CX0_rings hst h42 h43 h15 hf) (so_32 hst) (by decide) rfl kw_580 kw_100 kw_578 kw_579 kw_12 hcX0_rings ⟨by decide, by decide⟩ rfl rfl (Nat.le_of_ble_eq_true rfl) ⟨by decide, by decide⟩ dX0_sound_166) (fun u44 h45 hf => ?_)
                  refine gw_goto F (tgt := 173) dX0_sound_169 (by decide) ?_
                  obtain ⟨s46, e47⟩ : ∃ z : sg_M, z = sg_up s35 o3 4 u44 := ⟨_, rfl⟩
                  have hf := hf s46 e47
                  refine gw_put0 F t3 (by decide) rfl sg_lay_RX10 (j := 4) (by decide) h45 e47 tyX10_ok nmX10 rfl (tyX10_ok 4 (by decide)) rfl (.inr kw_296) dX0_sound_173 ?_
                  refine gw_aload_n F 0 rfl rfl (by decide) dX0_sound_176 ?_
                  refine gw_aload_n F 1 rfl rfl t3.1 dX0_sound_177 ?_
                  refine gk_HV F (gc_V F (S := []) (As := [sg_r o3]) (T := TX0) (N := 11) (CX0_tellStrengths hst t3 hf) (so_32 hst) (by decide) rfl kw_583 kw_100 kw_581 kw_582 kw_13 hcX0_tellStrengths ⟨by decide, by decide⟩ rfl rfl (Nat.le_of_ble_eq_true rfl) ⟨by decide, by decide⟩ dX0_sound_178) (fun s48 hf => ?_)
                  refine gw_iconst F dX0_sound_181 ?_
                  exact gr_HZ F (by decide) hf (by decide) (by decide) dX0_sound_182
              have J127 : (fX0_sound_j127  (fX0_sound_j128 La o3 u14 s25 Q)) → sg_W p l e (sg_rm 4 0 0) s m args below meth c (MQ below (sg_Q (some .boolean) G La s.heap.size (sg_HZ La Q)) args s 0 0 (sg_A La s.heap.size)) 6 G (sg_A La s.heap.size) La s25 0 0 127 [(0, sg_r 32), (3, sg_r o3), (5, sg_i u14)] [sg_r o3] := by
                intro hf
                unfold fX0_sound_j127 at hf
                refine gw_iconst F dX0_sound_127 ?_
                refine gw_sub [0, 1, 2] rfl ?_
                exact J128 0 (by decide) hf
              refine gw_if_le F (tgt := 127) dX0_sound_107 (by decide) h27 (fun c49 => ?_) (fun c49 => ?_)
              · have hf := hf.1 c49
                refine gw_sub [2, 5, 0] rfl ?_
                exact J127  hf
              · have hf := hf.2 c49
                refine gw_aload_n F 5 rfl rfl t3.1 dX0_sound_110 ?_
                refine gw_get0 F t3 (by decide) rfl sg_lay_RX10 (j := 3) (by decide) rfl (.inr kw_293) dX0_sound_111 (fun h50 => ?_)
                refine gw_aload_n F 2 rfl rfl (by decide) dX0_sound_114 ?_
                refine gw_get0 F (so_32 hst) (by decide) rfl sg_lay_RX0 (j := 3) (by decide) rfl (host := "") (.inl kw_257) dX0_sound_115 (fun h51 => ?_)
                refine gw_iconst F dX0_sound_118 ?_
                refine gw_isub F rfl dX0_sound_119 ?_
                obtain ⟨g52, hf⟩ := hf
                refine gw_icmp_ge F (tgt := 127) dX0_sound_120 (by decide) h50 g52 (fun c53 => ?_) (fun c53 => ?_)
                · have hf := hf.1 c53
                  refine gw_sub [2, 5, 0] rfl ?_
                  exact J127  hf
                · have hf := hf.2 c53
                  refine gw_iconst F dX0_sound_123 ?_
                  refine gw_goto F (tgt := 128) dX0_sound_124 (by decide) ?_
                  refine gw_sub [2, 5, 0] rfl ?_
                  exact J128 1 (by decide) hf
            · have hf := hf.2 c16
              refine gw_iconst F dX0_sound_70 ?_
              exact gr_HZ F (by decide) hf (by decide) (by decide) dX0_sound_71
          · have hf := hf.2 c8
            refine gw_iconst F dX0_sound_32 ?_
            exact gr_HZ F (by decide) hf (by decide) (by decide) dX0_sound_33

theorem dX11_where_0 : decode cX11_where 0 = .ok (.iload_n 1, 1) := by decide +kernel
theorem dX11_where_1 : decode cX11_where 1 = .ok (.iload_n 2, 1) := by decide +kernel
theorem dX11_where_2 : decode cX11_where 2 = .ok (.invokestatic 158, 3) := by decide +kernel
theorem dX11_where_5 : decode cX11_where 5 = .ok (.ifCond .ne 5, 3) := by decide +kernel
theorem dX11_where_8 : decode cX11_where 8 = .ok (.iconst (-1), 1) := by decide +kernel
theorem dX11_where_9 : decode cX11_where 9 = .ok (.ireturn, 1) := by decide +kernel
theorem dX11_where_10 : decode cX11_where 10 = .ok (.aload_n 0, 1) := by decide +kernel
theorem dX11_where_11 : decode cX11_where 11 = .ok (.getfield 54, 3) := by decide +kernel
theorem dX11_where_14 : decode cX11_where 14 = .ok (.aload_n 0, 1) := by decide +kernel
theorem dX11_where_15 : decode cX11_where 15 = .ok (.getfield 39, 3) := by decide +kernel
theorem dX11_where_18 : decode cX11_where 18 = .ok (.getfield 112, 3) := by decide +kernel
theorem dX11_where_21 : decode cX11_where 21 = .ok (.iload_n 1, 1) := by decide +kernel
theorem dX11_where_22 : decode cX11_where 22 = .ok (.iload_n 2, 1) := by decide +kernel
theorem dX11_where_23 : decode cX11_where 23 = .ok (.invokevirtual 171, 3) := by decide +kernel
theorem dX11_where_26 : decode cX11_where 26 = .ok (.aload_n 0, 1) := by decide +kernel
theorem dX11_where_27 : decode cX11_where 27 = .ok (.getfield 54, 3) := by decide +kernel
theorem dX11_where_30 : decode cX11_where 30 = .ok (.iload_n 3, 1) := by decide +kernel
theorem dX11_where_31 : decode cX11_where 31 = .ok (.iload 4, 2) := by decide +kernel
theorem dX11_where_33 : decode cX11_where 33 = .ok (.aload_n 0, 1) := by decide +kernel
theorem dX11_where_34 : decode cX11_where 34 = .ok (.getfield 65, 3) := by decide +kernel
theorem dX11_where_37 : decode cX11_where 37 = .ok (.invokevirtual 185, 3) := by decide +kernel
theorem dX11_where_40 : decode cX11_where 40 = .ok (.ifCond .eq 20, 3) := by decide +kernel
theorem dX11_where_43 : decode cX11_where 43 = .ok (.aload_n 0, 1) := by decide +kernel
theorem dX11_where_44 : decode cX11_where 44 = .ok (.getfield 54, 3) := by decide +kernel
theorem dX11_where_47 : decode cX11_where 47 = .ok (.iload_n 3, 1) := by decide +kernel
theorem dX11_where_48 : decode cX11_where 48 = .ok (.iload 5, 2) := by decide +kernel
theorem dX11_where_50 : decode cX11_where 50 = .ok (.aload_n 0, 1) := by decide +kernel
theorem dX11_where_51 : decode cX11_where 51 = .ok (.getfield 68, 3) := by decide +kernel
theorem dX11_where_54 : decode cX11_where 54 = .ok (.invokevirtual 185, 3) := by decide +kernel
theorem dX11_where_57 : decode cX11_where 57 = .ok (.ifCond .ne 5, 3) := by decide +kernel
theorem dX11_where_60 : decode cX11_where 60 = .ok (.iconst (-1), 1) := by decide +kernel
theorem dX11_where_61 : decode cX11_where 61 = .ok (.ireturn, 1) := by decide +kernel
theorem dX11_where_62 : decode cX11_where 62 = .ok (.iconst 0, 1) := by decide +kernel
theorem dX11_where_63 : decode cX11_where 63 = .ok (.istore 6, 2) := by decide +kernel
theorem dX11_where_65 : decode cX11_where 65 = .ok (.aload_n 0, 1) := by decide +kernel
theorem dX11_where_66 : decode cX11_where 66 = .ok (.getfield 65, 3) := by decide +kernel
theorem dX11_where_69 : decode cX11_where 69 = .ok (.getfield 208, 3) := by decide +kernel
theorem dX11_where_72 : decode cX11_where 72 = .ok (.iconst 0, 1) := by decide +kernel
theorem dX11_where_73 : decode cX11_where 73 = .ok (.invokevirtual 182, 3) := by decide +kernel
theorem dX11_where_76 : decode cX11_where 76 = .ok (.aload_n 0, 1) := by decide +kernel
theorem dX11_where_77 : decode cX11_where 77 = .ok (.getfield 68, 3) := by decide +kernel
theorem dX11_where_80 : decode cX11_where 80 = .ok (.getfield 208, 3) := by decide +kernel
theorem dX11_where_83 : decode cX11_where 83 = .ok (.iconst 0, 1) := by decide +kernel
theorem dX11_where_84 : decode cX11_where 84 = .ok (.invokevirtual 182, 3) := by decide +kernel
theorem dX11_where_87 : decode cX11_where 87 = .ok (.isub, 1) := by decide +kernel
theorem dX11_where_88 : decode cX11_where 88 = .ok (.istore 7, 2) := by decide +kernel
theorem dX11_where_90 : decode cX11_where 90 = .ok (.iconst 1, 1) := by decide +kernel
theorem dX11_where_91 : decode cX11_where 91 = .ok (.istore 8, 2) := by decide +kernel
theorem dX11_where_93 : decode cX11_where 93 = .ok (.iload 8, 2) := by decide +kernel
theorem dX11_where_95 : decode cX11_where 95 = .ok (.aload_n 0, 1) := by decide +kernel
theorem dX11_where_96 : decode cX11_where 96 = .ok (.getfield 65, 3) := by decide +kernel
theorem dX11_where_99 : decode cX11_where 99 = .ok (.getfield 208, 3) := by decide +kernel
theorem dX11_where_102 : decode cX11_where 102 = .ok (.getfield 181, 3) := by decide +kernel
theorem dX11_where_105 : decode cX11_where 105 = .ok (.if_icmp .ge 51, 3) := by decide +kernel
theorem dX11_where_108 : decode cX11_where 108 = .ok (.aload_n 0, 1) := by decide +kernel
theorem dX11_where_109 : decode cX11_where 109 = .ok (.getfield 65, 3) := by decide +kernel
theorem dX11_where_112 : decode cX11_where 112 = .ok (.getfield 208, 3) := by decide +kernel
theorem dX11_where_115 : decode cX11_where 115 = .ok (.iload 8, 2) := by decide +kernel
theorem dX11_where_117 : decode cX11_where 117 = .ok (.invokevirtual 182, 3) := by decide +kernel
theorem dX11_where_120 : decode cX11_where 120 = .ok (.aload_n 0, 1) := by decide +kernel
theorem dX11_where_121 : decode cX11_where 121 = .ok (.getfield 68, 3) := by decide +kernel
theorem dX11_where_124 : decode cX11_where 124 = .ok (.getfield 208, 3) := by decide +kernel
theorem dX11_where_127 : decode cX11_where 127 = .ok (.iload 8, 2) := by decide +kernel
theorem dX11_where_129 : decode cX11_where 129 = .ok (.invokevirtual 182, 3) := by decide +kernel
theorem dX11_where_132 : decode cX11_where 132 = .ok (.isub, 1) := by decide +kernel
theorem dX11_where_133 : decode cX11_where 133 = .ok (.istore 9, 2) := by decide +kernel
theorem dX11_where_135 : decode cX11_where 135 = .ok (.iload 9, 2) := by decide +kernel
theorem dX11_where_137 : decode cX11_where 137 = .ok (.iload 7, 2) := by decide +kernel
theorem dX11_where_139 : decode cX11_where 139 = .ok (.if_icmp .le 11, 3) := by decide +kernel
theorem dX11_where_142 : decode cX11_where 142 = .ok (.iload 8, 2) := by decide +kernel
theorem dX11_where_144 : decode cX11_where 144 = .ok (.istore 6, 2) := by decide +kernel
theorem dX11_where_146 : decode cX11_where 146 = .ok (.iload 9, 2) := by decide +kernel
theorem dX11_where_148 : decode cX11_where 148 = .ok (.istore 7, 2) := by decide +kernel
theorem dX11_where_150 : decode cX11_where 150 = .ok (.iinc 8 1, 3) := by decide +kernel
theorem dX11_where_153 : decode cX11_where 153 = .ok (.goto (-60), 3) := by decide +kernel
theorem dX11_where_156 : decode cX11_where 156 = .ok (.aload_n 0, 1) := by decide +kernel
theorem dX11_where_157 : decode cX11_where 157 = .ok (.iload 7, 2) := by decide +kernel
theorem dX11_where_159 : decode cX11_where 159 = .ok (.putfield 106, 3) := by decide +kernel
theorem dX11_where_162 : decode cX11_where 162 = .ok (.iload 6, 2) := by decide +kernel
theorem dX11_where_164 : decode cX11_where 164 = .ok (.ireturn, 1) := by decide +kernel
theorem hcX11_where : yX11_where.cls ≠ "java/lang/invoke/MethodHandle" ∧ yX11_where.cls ≠ "java/lang/invoke/VarHandle" ∧ (parseMethodDescriptor yX11_where.desc).map (fun d => d.parameters.length) = some 5 := ⟨by decide +kernel, by decide +kernel, by decide +kernel⟩
def fX11_where_j150 (x8_93 : Int) (k93 : Int → Int → Int → Prop) (x6_150 : Int) (x7_150 : Int) : Prop := sg_R (x8_93 + 1) ∧ k93 x6_150 x7_150 (x8_93 + 1)
def fX11_where_L93 (La : sg_L) (s20 : sg_M) (Q : Int → sg_M → Prop) : Nat → Int → Int → Int → Prop
  | 0, _, _, _ => False
  | n_93 + 1, x6_93, x7_93, x8_93 => (((s20 41 1) ≤ x8_93 → ∀ s34 : sg_M, s34 = sg_up s20 0 17 x7_93 → Q x6_93 s34) ∧ (¬ ((s20 41 1) ≤ x8_93) → fX4_at La s20 41 x8_93 (fun u38 => fX4_at La s20 44 x8_93 (fun u42 => sg_R (u38 - u42) ∧ (((u38 - u42) ≤ x7_93 → (fX11_where_j150 x8_93 (fX11_where_L93 La s20 Q n_93)) x6_93 x7_93) ∧ (¬ ((u38 - u42) ≤ x7_93) → (fX11_where_j150 x8_93 (fX11_where_L93 La s20 Q n_93)) x8_93 (u38 - u42)))))))
def fX11_where (La : sg_L) (s0 : sg_M) (x1 : Int) (x2 : Int) (x3 : Int) (x4 : Int) (x5 : Int) (Q : Int → sg_M → Prop) : Prop := fX11_isBend x1 x2 (fun u1 => ((u1 ≠ 0 → (0 ≤ (s0 4 0)) ∧ fX0_bendTo La s0 (s0 4 0) x1 x2 (fun s9 => fX0_sound La s9 x3 x4 40 (fun u12 s14 => ((u12 = 0 → Q (-1) s14) ∧ (¬ (u12 = 0) → fX0_sound La s14 x3 x5 43 (fun u18 s20 => ((u18 ≠ 0 → fX4_at La s20 41 0 (fun u24 => fX4_at La s20 44 0 (fun u28 => sg_R (u24 - u28) ∧ (∃ n48 : Nat, fX11_where_L93 La s20 Q n48 0 (u24 - u28) 1)))) ∧ (u18 = 0 → Q (-1) s20)))))))) ∧ (u1 = 0 → Q (-1) s0)))
set_option maxHeartbeats 4000000 in
set_option maxRecDepth 100000 in
theorem CX11_where {l : Launch} {G : sg_G} {La : sg_L} {s0 : sg_M} (hst : sg_St La) {x1 : Int} (r1 : sg_R x1) {x2 : Int} (r2 : sg_R x2) {x3 : Int} (r3 : sg_R x3) {x4 : Int} (r4 : sg_R x4) {x5 : Int} (r5 : sg_R x5) {Q : Int → sg_M → Prop} (hf : fX11_where La s0 x1 x2 x3 x4 x5 Q) : sg_C l G yX11_where cX11_where 10 (some .int) 5 0 0 La s0 [sg_r 0, sg_i x1, sg_i x2, sg_i x3, sg_i x4, sg_i x5] (sg_HI La Q) := by
  refine sg_body (by decide +kernel) (Nat.le_of_ble_eq_true rfl) ?_
  intro p e s m args below meth c F hnm
  unfold fX11_where at hf
  show sg_W p l e (sg_rm 5 0 0) s m args below meth c (MQ below (sg_Q (some .int) G La s.heap.size (sg_HI La Q)) args s 0 0 (sg_A La s.heap.size)) 10 G (sg_A La s.heap.size) La s0 0 0 0 [(0, sg_r 0), (1, sg_i x1), (2, sg_i x2), (3, sg_i x3), (4, sg_i x4), (5, sg_i x5)] []
  refine gw_iload_n F 1 rfl rfl dX11_where_0 ?_
  refine gw_iload_n F 2 rfl rfl dX11_where_1 ?_
  refine gk_PZ F (gc_S F (S := []) (As := [sg_i x1, sg_i x2]) (CX11_isBend r1 r2 hf) kw_502 kw_90 kw_500 kw_501 hcX11_isBend ⟨by decide, by decide⟩ rfl rfl (Nat.le_of_ble_eq_true rfl) ⟨by decide, by decide⟩ dX11_where_2) (fun u1 h2 hf => ?_)
  refine gw_if_ne F (tgt := 10) dX11_where_5 (by decide) (sg_B_R h2) (fun c3 => ?_) (fun c3 => ?_)
  · have hf := hf.1 c3
    refine gw_aload_n F 0 rfl rfl (by decide) dX11_where_10 ?_
    refine gw_get7 F (so_0 hst) (by decide) rfl sg_lay_RX11 (j := 5) (by decide) (o1 := 32) (by first | rfl | omega) rfl (host := "") (.inl kw_331) dX11_where_11 (fun h4 => ?_)
    refine gw_aload_n F 0 rfl rfl (by decide) dX11_where_14 ?_
    refine gw_get7 F (so_0 hst) (by decide) rfl sg_lay_RX11 (j := 2) (by decide) (o1 := 4) (by first | rfl | omega) rfl (host := "") (.inl kw_328) dX11_where_15 (fun h5 => ?_)
    refine gw_get4 F (so_4 hst) (by decide) rfl sg_lay_RX7 (j := 0) (by decide) rfl (.inr kw_234) dX11_where_18 (fun h6 => ?_)
    refine gw_iload_n F 1 rfl rfl dX11_where_21 ?_
    refine gw_iload_n F 2 rfl rfl dX11_where_22 ?_
    obtain ⟨g7, hf⟩ := hf
    have t8 := sg_nn h6 g7
    refine gk_HV F (gc_V F (S := []) (As := [sg_r (s0 4 0), sg_i x1, sg_i x2]) (T := TX0) (N := 11) (CX0_bendTo hst t8 r1 r2 hf) (so_32 hst) (by decide) rfl kw_506 kw_100 kw_503 kw_504 kw_505 hcX0_bendTo ⟨by decide, by decide⟩ rfl rfl (Nat.le_of_ble_eq_true rfl) ⟨by decide, by decide⟩ dX11_where_23) (fun s9 hf => ?_)
    refine gw_aload_n F 0 rfl rfl (by decide) dX11_where_26 ?_
    refine gw_get7 F (so_0 hst) (by decide) rfl sg_lay_RX11 (j := 5) (by decide) (o1 := 32) (by first | rfl | omega) rfl (host := "") (.inl kw_331) dX11_where_27 (fun h10 => ?_)
    refine gw_iload_n F 3 rfl rfl dX11_where_30 ?_
    refine gw_iload F 4 rfl dX11_where_31 ?_
    refine gw_aload_n F 0 rfl rfl (by decide) dX11_where_33 ?_
    refine gw_get7 F (so_0 hst) (by decide) rfl sg_lay_RX11 (j := 7) (by decide) (o1 := 40) (by first | rfl | omega) rfl (host := "") (.inl kw_333) dX11_where_34 (fun h11 => ?_)
    refine gk_HZ F (gc_V F (S := []) (As := [sg_i x3, sg_i x4, sg_r 40]) (T := TX0) (N := 11) (CX0_sound hst r3 r4 (so_40 hst) hf) (so_32 hst) (by decide) rfl kw_554 kw_100 kw_551 kw_552 kw_553 hcX0_sound ⟨by decide, by decide⟩ rfl rfl (Nat.le_of_ble_eq_true rfl) ⟨by decide, by decide⟩ dX11_where_37) (fun u12 s14 h13 hf => ?_)
    refine gw_if_eq F (tgt := 60) dX11_where_40 (by decide) (sg_B_R h13) (fun c15 => ?_) (fun c15 => ?_)
    · have hf := hf.1 c15
      refine gw_iconst F dX11_where_60 ?_
      exact gr_HI F (by decide) hf (by decide) (by decide) dX11_where_61
    · have hf := hf.2 c15
      refine gw_aload_n F 0 rfl rfl (by decide) dX11_where_43 ?_
      refine gw_get7 F (so_0 hst) (by decide) rfl sg_lay_RX11 (j := 5) (by decide) (o1 := 32) (by first | rfl | omega) rfl (host := "") (.inl kw_331) dX11_where_44 (fun h16 => ?_)
      refine gw_iload_n F 3 rfl rfl dX11_where_47 ?_
      refine gw_iload F 5 rfl dX11_where_48 ?_
      refine gw_aload_n F 0 rfl rfl (by decide) dX11_where_50 ?_
      refine gw_get7 F (so_0 hst) (by decide) rfl sg_lay_RX11 (j := 8) (by decide) (o1 := 43) (by first | rfl | omega) rfl (host := "") (.inl kw_334) dX11_where_51 (fun h17 => ?_)
      refine gk_HZ F (gc_V F (S := []) (As := [sg_i x3, sg_i x5, sg_r 43]) (T := TX0) (N := 11) (CX0_sound hst r3 r5 (so_43 hst) hf) (so_32 hst) (by decide) rfl kw_554 kw_100 kw_551 kw_552 kw_553 hcX0_sound ⟨by decide, by decide⟩ rfl rfl (Nat.le_of_ble_eq_true rfl) ⟨by decide, by decide⟩ dX11_where_54) (fun u18 s20 h19 hf => ?_)
      refine gw_if_ne F (tgt := 62) dX11_where_57 (by decide) (sg_B_R h19) (fun c21 => ?_) (fun c21 => ?_)
      · have hf := hf.1 c21
        refine gw_iconst F dX11_where_62 ?_
        refine gw_istore F (by decide) rfl dX11_where_63 ?_
        refine gw_aload_n F 1 rfl rfl (by decide) dX11_where_65 ?_
        refine gw_get7 F (so_0 hst) (by decide) rfl sg_lay_RX11 (j := 7) (by decide) (o1 := 40) (by first | rfl | omega) rfl (host := "") (.inl kw_333) dX11_where_66 (fun h22 => ?_)
        refine gw_get3 F (so_40 hst) (by decide) rfl sg_lay_RX10 (j := 0) (by decide) (o1 := 41) (by first | rfl | omega) rfl (.inr kw_284) dX11_where_69 (fun h23 => ?_)
        refine gw_iconst F dX11_where_72 ?_
        refine gk_PI F (gc_V F (S := []) (As := [sg_i 0]) (T := TX4) (N := 3) (CX4_at (so_41 hst) (by decide) hf) (so_41 hst) (by decide) rfl kw_546 kw_97 kw_543 kw_544 kw_545 hcX4_at ⟨by decide, by decide⟩ rfl rfl (Nat.le_of_ble_eq_true rfl) ⟨by decide, by decide⟩ dX11_where_73) (fun u24 h25 hf => ?_)
        refine gw_aload_n F 1 rfl rfl (by decide) dX11_where_76 ?_
        refine gw_get7 F (so_0 hst) (by decide) rfl sg_lay_RX11 (j := 8) (by decide) (o1 := 43) (by first | rfl | omega) rfl (host := "") (.inl kw_334) dX11_where_77 (fun h26 => ?_)
        refine gw_get3 F (so_43 hst) (by decide) rfl sg_lay_RX10 (j := 0) (by decide) (o1 := 44) (by first | rfl | omega) rfl (.inr kw_284) dX11_where_80 (fun h27 => ?_)
        refine gw_iconst F dX11_where_83 ?_
        refine gk_PI F (gc_V F (S := [sg_i u24]) (As := [sg_i 0]) (T := TX4) (N := 3) (CX4_at (so_44 hst) (by decide) hf) (so_44 hst) (by decide) rfl kw_546 kw_97 kw_543 kw_544 kw_545 hcX4_at ⟨by decide, by decide⟩ rfl rfl (Nat.le_of_ble_eq_true rfl) ⟨by decide, by decide⟩ dX11_where_84) (fun u28 h29 hf => ?_)
        refine gw_isub F rfl dX11_where_87 ?_
        refine gw_istore F (by decide) rfl dX11_where_88 ?_
        refine gw_iconst F dX11_where_90 ?_
        refine gw_istore F (by decide) rfl dX11_where_91 ?_
        have L93 : ∀ n_93 : Nat, ∀ (x6_93 : Int) (x7_93 : Int) (x8_93 : Int), sg_R x6_93 → sg_R x7_93 → sg_R x8_93 → fX11_where_L93 La s20 Q n_93 x6_93 x7_93 x8_93 → sg_W p l e (sg_rm 5 0 0) s m args below meth c (MQ below (sg_Q (some .int) G La s.heap.size (sg_HI La Q)) args s 0 0 (sg_A La s.heap.size)) 10 G (sg_A La s.heap.size) La s20 0 0 93 [(0, sg_r 0), (6, sg_i x6_93), (7, sg_i x7_93), (8, sg_i x8_93)] [] := by
          intro n_93
          induction n_93 with
          | zero => intro x6_93 x7_93 x8_93 r6_93 r7_93 r8_93 hf; exact hf.elim
          | succ n_93 ih =>
            intro x6_93 x7_93 x8_93 r6_93 r7_93 r8_93 hf
            unfold fX11_where_L93 at hf
            refine gw_iload F 3 rfl dX11_where_93 ?_
            refine gw_aload_n F 0 rfl rfl (by decide) dX11_where_95 ?_
            refine gw_get7 F (so_0 hst) (by decide) rfl sg_lay_RX11 (j := 7) (by decide) (o1 := 40) (by first | rfl | omega) rfl (host := "") (.inl kw_333) dX11_where_96 (fun h30 => ?_)
            refine gw_get3 F (so_40 hst) (by decide) rfl sg_lay_RX10 (j := 0) (by decide) (o1 := 41) (by first | rfl | omega) rfl (.inr kw_284) dX11_where_99 (fun h31 => ?_)
            refine gw_get0 F (so_41 hst) (by decide) rfl sg_lay_RX4 (j := 1) (by decide) rfl (.inr kw_204) dX11_where_102 (fun h32 => ?_)
            refine gw_icmp_ge F (tgt := 156) dX11_where_105 (by decide) r8_93 h32 (fun c33 => ?_) (fun c33 => ?_)
            · have hf := hf.1 c33
              refine gw_aload_n F 0 rfl rfl (by decide) dX11_where_156 ?_
              refine gw_iload F 2 rfl dX11_where_157 ?_
              obtain ⟨s34, e35⟩ : ∃ z : sg_M, z = sg_up s20 0 17 x7_93 := ⟨_, rfl⟩
              have hf := hf s34 e35
              refine gw_put0 F (so_0 hst) (by decide) rfl sg_lay_RX11 (j := 17) (by decide) r7_93 e35 tyX11_ok nmX11 rfl (tyX11_ok 17 (by decide)) rfl (host := "") (.inl kw_343) dX11_where_159 ?_
              refine gw_iload F 1 rfl dX11_where_162 ?_
              exact gr_HI F r6_93 hf (by decide) (by decide) dX11_where_164
            · have hf := hf.2 c33
              refine gw_aload_n F 0 rfl rfl (by decide) dX11_where_108 ?_
              refine gw_get7 F (so_0 hst) (by decide) rfl sg_lay_RX11 (j := 7) (by decide) (o1 := 40) (by first | rfl | omega) rfl (host := "") (.inl kw_333) dX11_where_109 (fun h36 => ?_)
              refine gw_get3 F (so_40 hst) (by decide) rfl sg_lay_RX10 (j := 0) (by decide) (o1 := 41) (by first | rfl | omega) rfl (.inr kw_284) dX11_where_112 (fun h37 => ?_)
              refine gw_iload F 3 rfl dX11_where_115 ?_
              refine gk_PI F (gc_V F (S := []) (As := [sg_i x8_93]) (T := TX4) (N := 3) (CX4_at (so_41 hst) r8_93 hf) (so_41 hst) (by decide) rfl kw_546 kw_97 kw_543 kw_544 kw_545 hcX4_at ⟨by decide, by decide⟩ rfl rfl (Nat.le_of_ble_eq_true rfl) ⟨by decide, by decide⟩ dX11_where_117) (fun u38 h39 hf => ?_)
              refine gw_aload_n F 0 rfl rfl (by decide) dX11_where_120 ?_
              refine gw_get7 F (so_0 hst) (by decide) rfl sg_lay_RX11 (j := 8) (by decide) (o1 := 43) (by first | rfl | omega) rfl (host := "") (.inl kw_334) dX11_where_121 (fun h40 => ?_)
              refine gw_get3 F (so_43 hst) (by decide) rfl sg_lay_RX10 (j := 0) (by decide) (o1 := 44) (by first | rfl | omega) rfl (.inr kw_284) dX11_where_124 (fun h41 => ?_)
              refine gw_iload F 3 rfl dX11_where_127 ?_
              refine gk_PI F (gc_V F (S := [sg_i u38]) (As := [sg_i x8_93]) (T := TX4) (N := 3) (CX4_at (so_44 hst) r8_93 hf) (so_44 hst) (by decide) rfl kw_546 kw_97 kw_543 kw_544 kw_545 hcX4_at ⟨by decide, by decide⟩ rfl rfl (Nat.le_of_ble_eq_true rfl) ⟨by decide, by decide⟩ dX11_where_129) (fun u42 h43 hf => ?_)
              refine gw_isub F rfl dX11_where_132 ?_
              refine gw_istore F (by decide) rfl dX11_where_133 ?_
              refine gw_iload F 0 rfl dX11_where_135 ?_
              refine gw_iload F 3 rfl dX11_where_137 ?_
              have J150 : ∀ (x6_150 : Int) (x7_150 : Int), sg_R x6_150 → sg_R x7_150 → (fX11_where_j150 x8_93 (fX11_where_L93 La s20 Q n_93)) x6_150 x7_150 → sg_W p l e (sg_rm 5 0 0) s m args below meth c (MQ below (sg_Q (some .int) G La s.heap.size (sg_HI La Q)) args s 0 0 (sg_A La s.heap.size)) 10 G (sg_A La s.heap.size) La s20 0 0 150 [(0, sg_r 0), (6, sg_i x6_150), (7, sg_i x7_150), (8, sg_i x8_93)] [] := by
                intro x6_150 x7_150 r6_150 r7_150 hf
                unfold fX11_where_j150 at hf
                refine gw_iinc F (z := (x8_93 + 1)) 3 rfl (by omega) (by decide) rfl dX11_where_150 ?_
                refine gw_goto F (tgt := 93) dX11_where_153 (by decide) ?_
                obtain ⟨g44, hf⟩ := hf
                refine gw_sub [1, 2, 3, 0] rfl ?_
                exact ih x6_150 x7_150 (x8_93 + 1) r6_150 r7_150 g44 hf
              obtain ⟨g45, hf⟩ := hf
              refine gw_icmp_le F (tgt := 150) dX11_where_139 (by decide) g45 r7_93 (fun c46 => ?_) (fun c46 => ?_)
              · have hf := hf.1 c46
                refine gw_sub [1, 2, 3, 4] rfl ?_
                exact J150 x6_93 x7_93 r6_93 r7_93 hf
              · have hf := hf.2 c46
                refine gw_iload F 4 rfl dX11_where_142 ?_
                refine gw_istore F (by decide) rfl dX11_where_144 ?_
                refine gw_iload F 1 rfl dX11_where_146 ?_
                refine gw_istore F (by decide) rfl dX11_where_148 ?_
                refine gw_sub [3, 1, 0, 4] rfl ?_
                exact J150 x8_93 (u38 - u42) r8_93 g45 hf
        obtain ⟨g47, hf⟩ := hf
        obtain ⟨n48, hf⟩ := hf
        refine gw_sub [3, 2, 1, 0] rfl ?_
        refine L93   n48 0 (u24 - u28) 1 (by decide) g47 (by decide) hf
      · have hf := hf.2 c21
        refine gw_iconst F dX11_where_60 ?_
        exact gr_HI F (by decide) hf (by decide) (by decide) dX11_where_61
  · have hf := hf.2 c3
    refine gw_iconst F dX11_where_8 ?_
    exact gr_HI F (by decide) hf (by decide) (by decide) dX11_where_9

theorem dX3_knee_0 : decode cX3_knee 0 = .ok (.iload_n 1, 1) := by decide +kernel
theorem dX3_knee_1 : decode cX3_knee 1 = .ok (.iconst 1, 1) := by decide +kernel
theorem dX3_knee_2 : decode cX3_knee 2 = .ok (.if_icmp .lt 18, 3) := by decide +kernel
theorem dX3_knee_5 : decode cX3_knee 5 = .ok (.iload_n 1, 1) := by decide +kernel
theorem dX3_knee_6 : decode cX3_knee 6 = .ok (.aload_n 0, 1) := by decide +kernel
theorem dX3_knee_7 : decode cX3_knee 7 = .ok (.getfield 18, 3) := by decide +kernel
theorem dX3_knee_10 : decode cX3_knee 10 = .ok (.if_icmp .gt 10, 3) := by decide +kernel
theorem dX3_knee_13 : decode cX3_knee 13 = .ok (.iload_n 1, 1) := by decide +kernel
theorem dX3_knee_14 : decode cX3_knee 14 = .ok (.sipush 200, 3) := by decide +kernel
theorem dX3_knee_17 : decode cX3_knee 17 = .ok (.if_icmp .le 7, 3) := by decide +kernel
theorem dX3_knee_20 : decode cX3_knee 20 = .ok (.iconst 0, 1) := by decide +kernel
theorem dX3_knee_21 : decode cX3_knee 21 = .ok (.goto 11, 3) := by decide +kernel
theorem dX3_knee_24 : decode cX3_knee 24 = .ok (.aload_n 0, 1) := by decide +kernel
theorem dX3_knee_25 : decode cX3_knee 25 = .ok (.getfield 9, 3) := by decide +kernel
theorem dX3_knee_28 : decode cX3_knee 28 = .ok (.iload_n 1, 1) := by decide +kernel
theorem dX3_knee_29 : decode cX3_knee 29 = .ok (.iconst 1, 1) := by decide +kernel
theorem dX3_knee_30 : decode cX3_knee 30 = .ok (.isub, 1) := by decide +kernel
theorem dX3_knee_31 : decode cX3_knee 31 = .ok (.iaload, 1) := by decide +kernel
theorem dX3_knee_32 : decode cX3_knee 32 = .ok (.ireturn, 1) := by decide +kernel
theorem hcX3_knee : yX3_knee.cls ≠ "java/lang/invoke/MethodHandle" ∧ yX3_knee.cls ≠ "java/lang/invoke/VarHandle" ∧ (parseMethodDescriptor yX3_knee.desc).map (fun d => d.parameters.length) = some 1 := ⟨by decide +kernel, by decide +kernel, by decide +kernel⟩
def fX3_knee (s0 : sg_M) (o : Int) (x1 : Int) (Q : Int → Prop) : Prop := ((x1 < 1 → Q 0) ∧ (¬ (x1 < 1) → (((s0 o 2) < x1 → Q 0) ∧ (¬ ((s0 o 2) < x1) → ((x1 ≤ 200 → (0 ≤ (x1 - 1) ∧ (x1 - 1) < 200) ∧ Q (s0 (o + 1) (x1 - 1))) ∧ (¬ (x1 ≤ 200) → Q 0))))))
set_option maxHeartbeats 4000000 in
set_option maxRecDepth 100000 in
theorem CX3_knee {l : Launch} {G : sg_G} {La : sg_L} {s0 : sg_M} {o : Int} (to : sg_O La o 3) {x1 : Int} (r1 : sg_R x1) {Q : Int → Prop} (hf : fX3_knee s0 o x1 Q) : sg_C l G yX3_knee cX3_knee 2 (some .int) 1 0 0 La s0 [sg_r o, sg_i x1] (sg_PI La s0 Q) := by
  refine sg_body (by decide +kernel) (Nat.le_of_ble_eq_true rfl) ?_
  intro p e s m args below meth c F hnm
  unfold fX3_knee at hf
  show sg_W p l e (sg_rm 1 0 0) s m args below meth c (MQ below (sg_Q (some .int) G La s.heap.size (sg_PI La s0 Q)) args s 0 0 (sg_A La s.heap.size)) 2 G (sg_A La s.heap.size) La s0 0 0 0 [(0, sg_r o), (1, sg_i x1)] []
  refine gw_iload_n F 1 rfl rfl dX3_knee_0 ?_
  refine gw_iconst F dX3_knee_1 ?_
  refine gw_icmp_lt F (tgt := 20) dX3_knee_2 (by decide) r1 (by decide) (fun c1 => ?_) (fun c1 => ?_)
  · have hf := hf.1 c1
    refine gw_iconst F dX3_knee_20 ?_
    refine gw_goto F (tgt := 32) dX3_knee_21 (by decide) ?_
    exact gr_PI F (by decide) hf (by decide) (by decide) dX3_knee_32
  · have hf := hf.2 c1
    refine gw_iload_n F 1 rfl rfl dX3_knee_5 ?_
    refine gw_aload_n F 0 rfl rfl to.1 dX3_knee_6 ?_
    refine gw_get0 F to (by decide) rfl sg_lay_RX3 (j := 2) (by decide) rfl (host := "") (.inl kw_180) dX3_knee_7 (fun h2 => ?_)
    refine gw_icmp_gt F (tgt := 20) dX3_knee_10 (by decide) r1 h2 (fun c3 => ?_) (fun c3 => ?_)
    · have hf := hf.1 c3
      refine gw_iconst F dX3_knee_20 ?_
      refine gw_goto F (tgt := 32) dX3_knee_21 (by decide) ?_
      exact gr_PI F (by decide) hf (by decide) (by decide) dX3_knee_32
    · have hf := hf.2 c3
      refine gw_iload_n F 1 rfl rfl dX3_knee_13 ?_
      refine gw_sipush F rfl dX3_knee_14 ?_
      refine gw_icmp_le F (tgt := 24) dX3_knee_17 (by decide) r1 (by decide) (fun c4 => ?_) (fun c4 => ?_)
      · have hf := hf.1 c4
        refine gw_aload_n F 0 rfl rfl to.1 dX3_knee_24 ?_
        refine gw_get3 F to (by decide) rfl sg_lay_RX3 (j := 0) (by decide) (o1 := (o + 1)) (by first | rfl | omega) rfl (host := "") (.inl kw_178) dX3_knee_25 (fun h5 => ?_)
        refine gw_iload_n F 1 rfl rfl dX3_knee_28 ?_
        refine gw_iconst F dX3_knee_29 ?_
        refine gw_isub F rfl dX3_knee_30 ?_
        obtain ⟨⟨b60, b61⟩, hf⟩ := hf
        refine gw_iald F (sg_AN_of (sg_O_of h5 (by decide)) (by decide) (by decide) (by decide)) b60 b61 dX3_knee_31 (fun h7 => ?_)
        exact gr_PI F h7 hf (by decide) (by decide) dX3_knee_32
      · have hf := hf.2 c4
        refine gw_iconst F dX3_knee_20 ?_
        refine gw_goto F (tgt := 32) dX3_knee_21 (by decide) ?_
        exact gr_PI F (by decide) hf (by decide) (by decide) dX3_knee_32

theorem dX2_add_0 : decode cX2_add 0 = .ok (.aload_n 0, 1) := by decide +kernel
theorem dX2_add_1 : decode cX2_add 1 = .ok (.getfield 23, 3) := by decide +kernel
theorem dX2_add_4 : decode cX2_add 4 = .ok (.bipush 40, 2) := by decide +kernel
theorem dX2_add_6 : decode cX2_add 6 = .ok (.if_icmp .ge 29, 3) := by decide +kernel
theorem dX2_add_9 : decode cX2_add 9 = .ok (.aload_n 0, 1) := by decide +kernel
theorem dX2_add_10 : decode cX2_add 10 = .ok (.getfield 14, 3) := by decide +kernel
theorem dX2_add_13 : decode cX2_add 13 = .ok (.iload_n 1, 1) := by decide +kernel
theorem dX2_add_14 : decode cX2_add 14 = .ok (.invokevirtual 27, 3) := by decide +kernel
theorem dX2_add_17 : decode cX2_add 17 = .ok (.aload_n 0, 1) := by decide +kernel
theorem dX2_add_18 : decode cX2_add 18 = .ok (.getfield 20, 3) := by decide +kernel
theorem dX2_add_21 : decode cX2_add 21 = .ok (.iload_n 2, 1) := by decide +kernel
theorem dX2_add_22 : decode cX2_add 22 = .ok (.invokevirtual 27, 3) := by decide +kernel
theorem dX2_add_25 : decode cX2_add 25 = .ok (.aload_n 0, 1) := by decide +kernel
theorem dX2_add_26 : decode cX2_add 26 = .ok (.dup, 1) := by decide +kernel
theorem dX2_add_27 : decode cX2_add 27 = .ok (.getfield 23, 3) := by decide +kernel
theorem dX2_add_30 : decode cX2_add 30 = .ok (.iconst 1, 1) := by decide +kernel
theorem dX2_add_31 : decode cX2_add 31 = .ok (.iadd, 1) := by decide +kernel
theorem dX2_add_32 : decode cX2_add 32 = .ok (.putfield 23, 3) := by decide +kernel
theorem dX2_add_35 : decode cX2_add 35 = .ok (.return_, 1) := by decide +kernel
theorem hcX2_add : yX2_add.cls ≠ "java/lang/invoke/MethodHandle" ∧ yX2_add.cls ≠ "java/lang/invoke/VarHandle" ∧ (parseMethodDescriptor yX2_add.desc).map (fun d => d.parameters.length) = some 2 := ⟨by decide +kernel, by decide +kernel, by decide +kernel⟩
def fX2_add (La : sg_L) (s0 : sg_M) (o : Int) (x1 : Int) (x2 : Int) (Q : sg_M → Prop) : Prop := ((40 ≤ (s0 o 2) → Q s0) ∧ (¬ (40 ≤ (s0 o 2)) → fX4_add La s0 (o + 1) x1 (fun s4 => fX4_add La s4 (o + 3) x2 (fun s6 => sg_R ((s6 o 2) + 1) ∧ ∀ s9 : sg_M, s9 = sg_up s6 o 2 ((s6 o 2) + 1) → Q s9))))
set_option maxHeartbeats 4000000 in
set_option maxRecDepth 100000 in
theorem CX2_add {l : Launch} {G : sg_G} {La : sg_L} {s0 : sg_M} {o : Int} (to : sg_O La o 2) {x1 : Int} (r1 : sg_R x1) {x2 : Int} (r2 : sg_R x2) {Q : sg_M → Prop} (hf : fX2_add La s0 o x1 x2 Q) : sg_C l G yX2_add cX2_add 3 (none) 2 0 0 La s0 [sg_r o, sg_i x1, sg_i x2] (sg_HV La Q) := by
  refine sg_body (by decide +kernel) (Nat.le_of_ble_eq_true rfl) ?_
  intro p e s m args below meth c F hnm
  unfold fX2_add at hf
  show sg_W p l e (sg_rm 2 0 0) s m args below meth c (MQ below (sg_Q (none) G La s.heap.size (sg_HV La Q)) args s 0 0 (sg_A La s.heap.size)) 3 G (sg_A La s.heap.size) La s0 0 0 0 [(0, sg_r o), (1, sg_i x1), (2, sg_i x2)] []
  refine gw_aload_n F 0 rfl rfl to.1 dX2_add_0 ?_
  refine gw_get0 F to (by decide) rfl sg_lay_RX2 (j := 2) (by decide) rfl (host := "") (.inl kw_228) dX2_add_1 (fun h1 => ?_)
  refine gw_bipush F rfl dX2_add_4 ?_
  refine gw_icmp_ge F (tgt := 35) dX2_add_6 (by decide) h1 (by decide) (fun c2 => ?_) (fun c2 => ?_)
  · have hf := hf.1 c2
    exact gr_HV F hf (by decide) (by decide) dX2_add_35
  · have hf := hf.2 c2
    refine gw_aload_n F 0 rfl rfl to.1 dX2_add_9 ?_
    refine gw_get3 F to (by decide) rfl sg_lay_RX2 (j := 0) (by decide) (o1 := (o + 1)) (by first | rfl | omega) rfl (host := "") (.inl kw_224) dX2_add_10 (fun h3 => ?_)
    refine gw_iload_n F 1 rfl rfl dX2_add_13 ?_
    refine gk_HV F (gc_V F (S := []) (As := [sg_i x1]) (T := TX4) (N := 3) (CX4_add (sg_O_of h3 (by decide)) r1 hf) (sg_O_of h3 (by decide)) (by decide) rfl kw_538 kw_97 kw_644 kw_536 kw_537 hcX4_add ⟨by decide, by decide⟩ rfl rfl (Nat.le_of_ble_eq_true rfl) ⟨by decide, by decide⟩ dX2_add_14) (fun s4 hf => ?_)
    refine gw_aload_n F 0 rfl rfl to.1 dX2_add_17 ?_
    refine gw_get3 F to (by decide) rfl sg_lay_RX2 (j := 1) (by decide) (o1 := (o + 3)) (by first | rfl | omega) rfl (host := "") (.inl kw_226) dX2_add_18 (fun h5 => ?_)
    refine gw_iload_n F 2 rfl rfl dX2_add_21 ?_
    refine gk_HV F (gc_V F (S := []) (As := [sg_i x2]) (T := TX4) (N := 3) (CX4_add (sg_O_of h5 (by decide)) r2 hf) (sg_O_of h5 (by decide)) (by decide) rfl kw_538 kw_97 kw_644 kw_536 kw_537 hcX4_add ⟨by decide, by decide⟩ rfl rfl (Nat.le_of_ble_eq_true rfl) ⟨by decide, by decide⟩ dX2_add_22) (fun s6 hf => ?_)
    refine gw_aload_n F 0 rfl rfl to.1 dX2_add_25 ?_
    refine gw_dup F rfl dX2_add_26 ?_
    refine gw_get0 F to (by decide) rfl sg_lay_RX2 (j := 2) (by decide) rfl (host := "") (.inl kw_228) dX2_add_27 (fun h7 => ?_)
    refine gw_iconst F dX2_add_30 ?_
    refine gw_iadd F rfl dX2_add_31 ?_
    obtain ⟨g8, hf⟩ := hf
    obtain ⟨s9, e10⟩ : ∃ z : sg_M, z = sg_up s6 o 2 ((s6 o 2) + 1) := ⟨_, rfl⟩
    have hf := hf s9 e10
    refine gw_put0 F to (by decide) rfl sg_lay_RX2 (j := 2) (by decide) g8 e10 tyX2_ok nmX2 rfl (tyX2_ok 2 (by decide)) rfl (host := "") (.inl kw_228) dX2_add_32 ?_
    exact gr_HV F hf (by decide) (by decide) dX2_add_35

theorem dX11_write_0 : decode cX11_write 0 = .ok (.iload_n 1, 1) := by decide +kernel
theorem dX11_write_1 : decode cX11_write 1 = .ok (.iload_n 2, 1) := by decide +kernel
theorem dX11_write_2 : decode cX11_write 2 = .ok (.invokestatic 158, 3) := by decide +kernel
theorem dX11_write_5 : decode cX11_write 5 = .ok (.ifCond .eq 18, 3) := by decide +kernel
theorem dX11_write_8 : decode cX11_write 8 = .ok (.aload_n 0, 1) := by decide +kernel
theorem dX11_write_9 : decode cX11_write 9 = .ok (.getfield 39, 3) := by decide +kernel
theorem dX11_write_12 : decode cX11_write 12 = .ok (.getfield 237, 3) := by decide +kernel
theorem dX11_write_15 : decode cX11_write 15 = .ok (.getfield 241, 3) := by decide +kernel
theorem dX11_write_18 : decode cX11_write 18 = .ok (.bipush 40, 2) := by decide +kernel
theorem dX11_write_20 : decode cX11_write 20 = .ok (.if_icmp .lt 5, 3) := by decide +kernel
theorem dX11_write_23 : decode cX11_write 23 = .ok (.iconst (-1), 1) := by decide +kernel
theorem dX11_write_24 : decode cX11_write 24 = .ok (.ireturn, 1) := by decide +kernel
theorem dX11_write_25 : decode cX11_write 25 = .ok (.aload_n 0, 1) := by decide +kernel
theorem dX11_write_26 : decode cX11_write 26 = .ok (.getfield 39, 3) := by decide +kernel
theorem dX11_write_29 : decode cX11_write 29 = .ok (.getfield 237, 3) := by decide +kernel
theorem dX11_write_32 : decode cX11_write 32 = .ok (.iload_n 1, 1) := by decide +kernel
theorem dX11_write_33 : decode cX11_write 33 = .ok (.iload_n 2, 1) := by decide +kernel
theorem dX11_write_34 : decode cX11_write 34 = .ok (.invokevirtual 244, 3) := by decide +kernel
theorem dX11_write_37 : decode cX11_write 37 = .ok (.aload_n 0, 1) := by decide +kernel
theorem dX11_write_38 : decode cX11_write 38 = .ok (.invokevirtual 248, 3) := by decide +kernel
theorem dX11_write_41 : decode cX11_write 41 = .ok (.aload_n 0, 1) := by decide +kernel
theorem dX11_write_42 : decode cX11_write 42 = .ok (.getfield 39, 3) := by decide +kernel
theorem dX11_write_45 : decode cX11_write 45 = .ok (.getfield 237, 3) := by decide +kernel
theorem dX11_write_48 : decode cX11_write 48 = .ok (.getfield 241, 3) := by decide +kernel
theorem dX11_write_51 : decode cX11_write 51 = .ok (.iconst 1, 1) := by decide +kernel
theorem dX11_write_52 : decode cX11_write 52 = .ok (.isub, 1) := by decide +kernel
theorem dX11_write_53 : decode cX11_write 53 = .ok (.ireturn, 1) := by decide +kernel
theorem hcX11_write : yX11_write.cls ≠ "java/lang/invoke/MethodHandle" ∧ yX11_write.cls ≠ "java/lang/invoke/VarHandle" ∧ (parseMethodDescriptor yX11_write.desc).map (fun d => d.parameters.length) = some 2 := ⟨by decide +kernel, by decide +kernel, by decide +kernel⟩
def fX11_write (La : sg_L) (s0 : sg_M) (x1 : Int) (x2 : Int) (Q : Int → sg_M → Prop) : Prop := fX11_isBend x1 x2 (fun u1 => ((u1 = 0 → Q (-1) s0) ∧ (¬ (u1 = 0) → (((s0 20 2) < 40 → fX2_add La s0 20 x1 x2 (fun s10 => fX11_forgetAnswers s10 (fun s11 => sg_R ((s11 20 2) - 1) ∧ Q ((s11 20 2) - 1) s11))) ∧ (¬ ((s0 20 2) < 40) → Q (-1) s0)))))
set_option maxHeartbeats 4000000 in
set_option maxRecDepth 100000 in
theorem CX11_write {l : Launch} {G : sg_G} {La : sg_L} {s0 : sg_M} (hst : sg_St La) {x1 : Int} (r1 : sg_R x1) {x2 : Int} (r2 : sg_R x2) {Q : Int → sg_M → Prop} (hf : fX11_write La s0 x1 x2 Q) : sg_C l G yX11_write cX11_write 3 (some .int) 3 0 0 La s0 [sg_r 0, sg_i x1, sg_i x2] (sg_HI La Q) := by
  refine sg_body (by decide +kernel) (Nat.le_of_ble_eq_true rfl) ?_
  intro p e s m args below meth c F hnm
  unfold fX11_write at hf
  show sg_W p l e (sg_rm 3 0 0) s m args below meth c (MQ below (sg_Q (some .int) G La s.heap.size (sg_HI La Q)) args s 0 0 (sg_A La s.heap.size)) 3 G (sg_A La s.heap.size) La s0 0 0 0 [(0, sg_r 0), (1, sg_i x1), (2, sg_i x2)] []
  refine gw_iload_n F 1 rfl rfl dX11_write_0 ?_
  refine gw_iload_n F 2 rfl rfl dX11_write_1 ?_
  refine gk_PZ F (gc_S F (S := []) (As := [sg_i x1, sg_i x2]) (CX11_isBend r1 r2 hf) kw_502 kw_90 kw_500 kw_501 hcX11_isBend ⟨by decide, by decide⟩ rfl rfl (Nat.le_of_ble_eq_true rfl) ⟨by decide, by decide⟩ dX11_write_2) (fun u1 h2 hf => ?_)
  refine gw_if_eq F (tgt := 23) dX11_write_5 (by decide) (sg_B_R h2) (fun c3 => ?_) (fun c3 => ?_)
  · have hf := hf.1 c3
    refine gw_iconst F dX11_write_23 ?_
    exact gr_HI F (by decide) hf (by decide) (by decide) dX11_write_24
  · have hf := hf.2 c3
    refine gw_aload_n F 0 rfl rfl (by decide) dX11_write_8 ?_
    refine gw_get7 F (so_0 hst) (by decide) rfl sg_lay_RX11 (j := 2) (by decide) (o1 := 4) (by first | rfl | omega) rfl (host := "") (.inl kw_328) dX11_write_9 (fun h4 => ?_)
    refine gw_get7 F (so_4 hst) (by decide) rfl sg_lay_RX7 (j := 3) (by decide) (o1 := 20) (by first | rfl | omega) rfl (.inr kw_240) dX11_write_12 (fun h5 => ?_)
    refine gw_get0 F (so_20 hst) (by decide) rfl sg_lay_RX2 (j := 2) (by decide) rfl (.inr kw_230) dX11_write_15 (fun h6 => ?_)
    refine gw_bipush F rfl dX11_write_18 ?_
    refine gw_icmp_lt F (tgt := 25) dX11_write_20 (by decide) h6 (by decide) (fun c7 => ?_) (fun c7 => ?_)
    · have hf := hf.1 c7
      refine gw_aload_n F 0 rfl rfl (by decide) dX11_write_25 ?_
      refine gw_get7 F (so_0 hst) (by decide) rfl sg_lay_RX11 (j := 2) (by decide) (o1 := 4) (by first | rfl | omega) rfl (host := "") (.inl kw_328) dX11_write_26 (fun h8 => ?_)
      refine gw_get7 F (so_4 hst) (by decide) rfl sg_lay_RX7 (j := 3) (by decide) (o1 := 20) (by first | rfl | omega) rfl (.inr kw_240) dX11_write_29 (fun h9 => ?_)
      refine gw_iload_n F 1 rfl rfl dX11_write_32 ?_
      refine gw_iload_n F 2 rfl rfl dX11_write_33 ?_
      refine gk_HV F (gc_V F (S := []) (As := [sg_i x1, sg_i x2]) (T := TX2) (N := 3) (CX2_add (so_20 hst) r1 r2 hf) (so_20 hst) (by decide) rfl kw_643 kw_99 kw_640 kw_641 kw_642 hcX2_add ⟨by decide, by decide⟩ rfl rfl (Nat.le_of_ble_eq_true rfl) ⟨by decide, by decide⟩ dX11_write_34) (fun s10 hf => ?_)
      refine gw_aload_n F 0 rfl rfl (by decide) dX11_write_37 ?_
      refine gk_HV F (gc_V F (S := []) (As := []) (T := TX11) (N := 19) (CX11_forgetAnswers hst hf) (so_0 hst) (by decide) rfl kw_490 kw_90 kw_488 kw_489 kw_3 hcX11_forgetAnswers ⟨by decide, by decide⟩ rfl rfl (Nat.le_of_ble_eq_true rfl) ⟨by decide, by decide⟩ dX11_write_38) (fun s11 hf => ?_)
      refine gw_aload_n F 0 rfl rfl (by decide) dX11_write_41 ?_
      refine gw_get7 F (so_0 hst) (by decide) rfl sg_lay_RX11 (j := 2) (by decide) (o1 := 4) (by first | rfl | omega) rfl (host := "") (.inl kw_328) dX11_write_42 (fun h12 => ?_)
      refine gw_get7 F (so_4 hst) (by decide) rfl sg_lay_RX7 (j := 3) (by decide) (o1 := 20) (by first | rfl | omega) rfl (.inr kw_240) dX11_write_45 (fun h13 => ?_)
      refine gw_get0 F (so_20 hst) (by decide) rfl sg_lay_RX2 (j := 2) (by decide) rfl (.inr kw_230) dX11_write_48 (fun h14 => ?_)
      refine gw_iconst F dX11_write_51 ?_
      refine gw_isub F rfl dX11_write_52 ?_
      obtain ⟨g15, hf⟩ := hf
      exact gr_HI F g15 hf (by decide) (by decide) dX11_write_53
    · have hf := hf.2 c7
      refine gw_iconst F dX11_write_23 ?_
      exact gr_HI F (by decide) hf (by decide) (by decide) dX11_write_24

theorem dX9_comparison_0 : decode cX9_comparison 0 = .ok (.aload_n 0, 1) := by decide +kernel
theorem dX9_comparison_1 : decode cX9_comparison 1 = .ok (.getfield 22, 3) := by decide +kernel
theorem dX9_comparison_4 : decode cX9_comparison 4 = .ok (.istore_n 1, 1) := by decide +kernel
theorem dX9_comparison_5 : decode cX9_comparison 5 = .ok (.aload_n 0, 1) := by decide +kernel
theorem dX9_comparison_6 : decode cX9_comparison 6 = .ok (.getfield 13, 3) := by decide +kernel
theorem dX9_comparison_9 : decode cX9_comparison 9 = .ok (.iconst 3, 1) := by decide +kernel
theorem dX9_comparison_10 : decode cX9_comparison 10 = .ok (.if_icmp .ne 15, 3) := by decide +kernel
theorem dX9_comparison_13 : decode cX9_comparison 13 = .ok (.iload_n 1, 1) := by decide +kernel
theorem dX9_comparison_14 : decode cX9_comparison 14 = .ok (.bipush 60, 2) := by decide +kernel
theorem dX9_comparison_16 : decode cX9_comparison 16 = .ok (.if_icmp .lt 9, 3) := by decide +kernel
theorem dX9_comparison_19 : decode cX9_comparison 19 = .ok (.iload_n 1, 1) := by decide +kernel
theorem dX9_comparison_20 : decode cX9_comparison 20 = .ok (.bipush 62, 2) := by decide +kernel
theorem dX9_comparison_22 : decode cX9_comparison 22 = .ok (.if_icmp .le 8, 3) := by decide +kernel
theorem dX9_comparison_25 : decode cX9_comparison 25 = .ok (.aload_n 0, 1) := by decide +kernel
theorem dX9_comparison_26 : decode cX9_comparison 26 = .ok (.iconst 1, 1) := by decide +kernel
theorem dX9_comparison_27 : decode cX9_comparison 27 = .ok (.invokevirtual 81, 3) := by decide +kernel
theorem dX9_comparison_30 : decode cX9_comparison 30 = .ok (.aload_n 0, 1) := by decide +kernel
theorem dX9_comparison_31 : decode cX9_comparison 31 = .ok (.getfield 25, 3) := by decide +kernel
theorem dX9_comparison_34 : decode cX9_comparison 34 = .ok (.ifCond .eq 5, 3) := by decide +kernel
theorem dX9_comparison_37 : decode cX9_comparison 37 = .ok (.iconst 0, 1) := by decide +kernel
theorem dX9_comparison_38 : decode cX9_comparison 38 = .ok (.ireturn, 1) := by decide +kernel
theorem dX9_comparison_39 : decode cX9_comparison 39 = .ok (.aload_n 0, 1) := by decide +kernel
theorem dX9_comparison_40 : decode cX9_comparison 40 = .ok (.invokevirtual 35, 3) := by decide +kernel
theorem dX9_comparison_43 : decode cX9_comparison 43 = .ok (.iload_n 1, 1) := by decide +kernel
theorem dX9_comparison_44 : decode cX9_comparison 44 = .ok (.ireturn, 1) := by decide +kernel
theorem hcX9_comparison : yX9_comparison.cls ≠ "java/lang/invoke/MethodHandle" ∧ yX9_comparison.cls ≠ "java/lang/invoke/VarHandle" ∧ (parseMethodDescriptor yX9_comparison.desc).map (fun d => d.parameters.length) = some 0 := ⟨by decide +kernel, by decide +kernel, by decide +kernel⟩
def fX9_comparison_j30 (s0 : sg_M) (Q : Int → sg_M → Prop) (s_30 : sg_M) : Prop := (((s_30 3 6) = 0 → fX9_advance s_30 (fun s5 => Q (s0 3 5) s5)) ∧ (¬ ((s_30 3 6) = 0) → Q 0 s_30))
def fX9_comparison_j25 (s0 : sg_M) (k30 : sg_M → Prop)  : Prop := fX9_fail s0 1 (fun s6 => k30 s6)
def fX9_comparison (s0 : sg_M) (Q : Int → sg_M → Prop) : Prop := (((s0 3 2) ≠ 3 → (fX9_comparison_j25 s0 (fX9_comparison_j30 s0 Q))) ∧ ((s0 3 2) = 3 → (((s0 3 5) < 60 → (fX9_comparison_j25 s0 (fX9_comparison_j30 s0 Q))) ∧ (¬ ((s0 3 5) < 60) → (((s0 3 5) ≤ 62 → (fX9_comparison_j30 s0 Q) s0) ∧ (¬ ((s0 3 5) ≤ 62) → (fX9_comparison_j25 s0 (fX9_comparison_j30 s0 Q))))))))
set_option maxHeartbeats 4000000 in
set_option maxRecDepth 100000 in
theorem CX9_comparison {l : Launch} {G : sg_G} {La : sg_L} {s0 : sg_M} (hst : sg_St La) {Q : Int → sg_M → Prop} (hf : fX9_comparison s0 Q) : sg_C l G yX9_comparison cX9_comparison 2 (some .int) 3 0 0 La s0 [sg_r 3] (sg_HI La Q) := by
  refine sg_body (by decide +kernel) (Nat.le_of_ble_eq_true rfl) ?_
  intro p e s m args below meth c F hnm
  unfold fX9_comparison at hf
  show sg_W p l e (sg_rm 3 0 0) s m args below meth c (MQ below (sg_Q (some .int) G La s.heap.size (sg_HI La Q)) args s 0 0 (sg_A La s.heap.size)) 2 G (sg_A La s.heap.size) La s0 0 0 0 [(0, sg_r 3)] []
  refine gw_aload_n F 0 rfl rfl (by decide) dX9_comparison_0 ?_
  refine gw_get0 F (so_3 hst) (by decide) rfl sg_lay_RX9 (j := 5) (by decide) rfl (host := "") (.inl kw_143) dX9_comparison_1 (fun h1 => ?_)
  refine gw_istore_n F rfl (by decide) rfl dX9_comparison_4 ?_
  refine gw_aload_n F 1 rfl rfl (by decide) dX9_comparison_5 ?_
  refine gw_get0 F (so_3 hst) (by decide) rfl sg_lay_RX9 (j := 2) (by decide) rfl (host := "") (.inl kw_140) dX9_comparison_6 (fun h2 => ?_)
  refine gw_iconst F dX9_comparison_9 ?_
  have J30 : ∀ (s_30 : sg_M), (fX9_comparison_j30 s0 Q) s_30 → sg_W p l e (sg_rm 3 0 0) s m args below meth c (MQ below (sg_Q (some .int) G La s.heap.size (sg_HI La Q)) args s 0 0 (sg_A La s.heap.size)) 2 G (sg_A La s.heap.size) La s_30 0 0 30 [(0, sg_r 3), (1, sg_i (s0 3 5))] [] := by
    intro s_30 hf
    unfold fX9_comparison_j30 at hf
    refine gw_aload_n F 0 rfl rfl (by decide) dX9_comparison_30 ?_
    refine gw_get0 F (so_3 hst) (by decide) rfl sg_lay_RX9 (j := 6) (by decide) rfl (host := "") (.inl kw_144) dX9_comparison_31 (fun h3 => ?_)
    refine gw_if_eq F (tgt := 39) dX9_comparison_34 (by decide) h3 (fun c4 => ?_) (fun c4 => ?_)
    · have hf := hf.1 c4
      refine gw_aload_n F 0 rfl rfl (by decide) dX9_comparison_39 ?_
      refine gk_HV F (gc_V F (S := []) (As := []) (T := TX9) (N := 8) (CX9_advance hst hf) (so_3 hst) (by decide) rfl kw_368 kw_92 kw_365 kw_366 kw_367 hcX9_advance ⟨by decide, by decide⟩ rfl rfl (Nat.le_of_ble_eq_true rfl) ⟨by decide, by decide⟩ dX9_comparison_40) (fun s5 hf => ?_)
      refine gw_iload_n F 1 rfl rfl dX9_comparison_43 ?_
      exact gr_HI F h1 hf (by decide) (by decide) dX9_comparison_44
    · have hf := hf.2 c4
      refine gw_iconst F dX9_comparison_37 ?_
      exact gr_HI F (by decide) hf (by decide) (by decide) dX9_comparison_38
  have J25 : (fX9_comparison_j25 s0 (fX9_comparison_j30 s0 Q)) → sg_W p l e (sg_rm 3 0 0) s m args below meth c (MQ below (sg_Q (some .int) G La s.heap.size (sg_HI La Q)) args s 0 0 (sg_A La s.heap.size)) 2 G (sg_A La s.heap.size) La s0 0 0 25 [(0, sg_r 3), (1, sg_i (s0 3 5))] [] := by
    intro hf
    unfold fX9_comparison_j25 at hf
    refine gw_aload_n F 0 rfl rfl (by decide) dX9_comparison_25 ?_
    refine gw_iconst F dX9_comparison_26 ?_
    refine gk_HV F (gc_V F (S := []) (As := [sg_i 1]) (T := TX9) (N := 8) (CX9_fail hst (by decide) hf) (so_3 hst) (by decide) rfl kw_457 kw_92 kw_454 kw_455 kw_456 hcX9_fail ⟨by decide, by decide⟩ rfl rfl (Nat.le_of_ble_eq_true rfl) ⟨by decide, by decide⟩ dX9_comparison_27) (fun s6 hf => ?_)
    refine gw_sub [0, 1] rfl ?_
    exact J30 s6 hf
  refine gw_icmp_ne F (tgt := 25) dX9_comparison_10 (by decide) h2 (by decide) (fun c7 => ?_) (fun c7 => ?_)
  · have hf := hf.1 c7
    refine gw_sub [1, 0] rfl ?_
    exact J25  hf
  · have hf := hf.2 c7
    refine gw_iload_n F 0 rfl rfl dX9_comparison_13 ?_
    refine gw_bipush F rfl dX9_comparison_14 ?_
    refine gw_icmp_lt F (tgt := 25) dX9_comparison_16 (by decide) h1 (by decide) (fun c8 => ?_) (fun c8 => ?_)
    · have hf := hf.1 c8
      refine gw_sub [1, 0] rfl ?_
      exact J25  hf
    · have hf := hf.2 c8
      refine gw_iload_n F 0 rfl rfl dX9_comparison_19 ?_
      refine gw_bipush F rfl dX9_comparison_20 ?_
      refine gw_icmp_le F (tgt := 30) dX9_comparison_22 (by decide) h1 (by decide) (fun c9 => ?_) (fun c9 => ?_)
      · have hf := hf.1 c9
        refine gw_sub [1, 0] rfl ?_
        exact J30 s0 hf
      · have hf := hf.2 c9
        refine gw_sub [1, 0] rfl ?_
        exact J25  hf

theorem dX6_costFrom_0 : decode cX6_costFrom 0 = .ok (.iload_n 2, 1) := by decide +kernel
theorem dX6_costFrom_1 : decode cX6_costFrom 1 = .ok (.aload_n 0, 1) := by decide +kernel
theorem dX6_costFrom_2 : decode cX6_costFrom 2 = .ok (.getfield 20, 3) := by decide +kernel
theorem dX6_costFrom_5 : decode cX6_costFrom 5 = .ok (.getfield 47, 3) := by decide +kernel
theorem dX6_costFrom_8 : decode cX6_costFrom 8 = .ok (.iconst 1, 1) := by decide +kernel
theorem dX6_costFrom_9 : decode cX6_costFrom 9 = .ok (.isub, 1) := by decide +kernel
theorem dX6_costFrom_10 : decode cX6_costFrom 10 = .ok (.if_icmp .lt 5, 3) := by decide +kernel
theorem dX6_costFrom_13 : decode cX6_costFrom 13 = .ok (.iconst 0, 1) := by decide +kernel
theorem dX6_costFrom_14 : decode cX6_costFrom 14 = .ok (.ireturn, 1) := by decide +kernel
theorem dX6_costFrom_15 : decode cX6_costFrom 15 = .ok (.aload_n 0, 1) := by decide +kernel
theorem dX6_costFrom_16 : decode cX6_costFrom 16 = .ok (.aload_n 1, 1) := by decide +kernel
theorem dX6_costFrom_17 : decode cX6_costFrom 17 = .ok (.iload_n 2, 1) := by decide +kernel
theorem dX6_costFrom_18 : decode cX6_costFrom 18 = .ok (.iload_n 3, 1) := by decide +kernel
theorem dX6_costFrom_19 : decode cX6_costFrom 19 = .ok (.invokevirtual 66, 3) := by decide +kernel
theorem dX6_costFrom_22 : decode cX6_costFrom 22 = .ok (.istore 4, 2) := by decide +kernel
theorem dX6_costFrom_24 : decode cX6_costFrom 24 = .ok (.iload 4, 2) := by decide +kernel
theorem dX6_costFrom_26 : decode cX6_costFrom 26 = .ok (.iconst (-1), 1) := by decide +kernel
theorem dX6_costFrom_27 : decode cX6_costFrom 27 = .ok (.if_icmp .ne 7, 3) := by decide +kernel
theorem dX6_costFrom_30 : decode cX6_costFrom 30 = .ok (.iconst (-1), 1) := by decide +kernel
theorem dX6_costFrom_31 : decode cX6_costFrom 31 = .ok (.goto 20, 3) := by decide +kernel
theorem dX6_costFrom_34 : decode cX6_costFrom 34 = .ok (.aload_n 1, 1) := by decide +kernel
theorem dX6_costFrom_35 : decode cX6_costFrom 35 = .ok (.iload_n 3, 1) := by decide +kernel
theorem dX6_costFrom_36 : decode cX6_costFrom 36 = .ok (.iload 4, 2) := by decide +kernel
theorem dX6_costFrom_38 : decode cX6_costFrom 38 = .ok (.invokevirtual 73, 3) := by decide +kernel
theorem dX6_costFrom_41 : decode cX6_costFrom 41 = .ok (.aload_n 0, 1) := by decide +kernel
theorem dX6_costFrom_42 : decode cX6_costFrom 42 = .ok (.iload_n 2, 1) := by decide +kernel
theorem dX6_costFrom_43 : decode cX6_costFrom 43 = .ok (.iconst 1, 1) := by decide +kernel
theorem dX6_costFrom_44 : decode cX6_costFrom 44 = .ok (.iadd, 1) := by decide +kernel
theorem dX6_costFrom_45 : decode cX6_costFrom 45 = .ok (.iload 4, 2) := by decide +kernel
theorem dX6_costFrom_47 : decode cX6_costFrom 47 = .ok (.invokevirtual 69, 3) := by decide +kernel
theorem dX6_costFrom_50 : decode cX6_costFrom 50 = .ok (.iadd, 1) := by decide +kernel
theorem dX6_costFrom_51 : decode cX6_costFrom 51 = .ok (.ireturn, 1) := by decide +kernel
theorem hcX6_costFrom : yX6_costFrom.cls ≠ "java/lang/invoke/MethodHandle" ∧ yX6_costFrom.cls ≠ "java/lang/invoke/VarHandle" ∧ (parseMethodDescriptor yX6_costFrom.desc).map (fun d => d.parameters.length) = some 3 := ⟨by decide +kernel, by decide +kernel, by decide +kernel⟩
def fX6_costFrom (La : sg_L) (s0 : sg_M) (o1 : Int) (x2 : Int) (x3 : Int) (Q : Int → Prop) : Prop := sg_R ((s0 48 1) - 1) ∧ ((x2 < ((s0 48 1) - 1) → fX6_cheapestNext La s0 o1 x2 x3 (fun u5 => ((u5 ≠ (-1) → fX2_way La s0 o1 x3 u5 (fun u8 => sg_R (x2 + 1) ∧ fX6_costAt s0 (x2 + 1) u5 (fun u11 => sg_R (u8 + u11) ∧ Q (u8 + u11)))) ∧ (u5 = (-1) → Q (-1))))) ∧ (¬ (x2 < ((s0 48 1) - 1)) → Q 0))
set_option maxHeartbeats 4000000 in
set_option maxRecDepth 100000 in
theorem CX6_costFrom {l : Launch} {G : sg_G} {La : sg_L} {s0 : sg_M} (hst : sg_St La) {o1 : Int} (t1 : sg_O La o1 2) {x2 : Int} (r2 : sg_R x2) {x3 : Int} (r3 : sg_R x3) {Q : Int → Prop} (hf : fX6_costFrom La s0 o1 x2 x3 Q) : sg_C l G yX6_costFrom cX6_costFrom 5 (some .int) 4 0 0 La s0 [sg_r 46, sg_r o1, sg_i x2, sg_i x3] (sg_PI La s0 Q) := by
  refine sg_body (by decide +kernel) (Nat.le_of_ble_eq_true rfl) ?_
  intro p e s m args below meth c F hnm
  unfold fX6_costFrom at hf
  show sg_W p l e (sg_rm 4 0 0) s m args below meth c (MQ below (sg_Q (some .int) G La s.heap.size (sg_PI La s0 Q)) args s 0 0 (sg_A La s.heap.size)) 5 G (sg_A La s.heap.size) La s0 0 0 0 [(0, sg_r 46), (1, sg_r o1), (2, sg_i x2), (3, sg_i x3)] []
  refine gw_iload_n F 2 rfl rfl dX6_costFrom_0 ?_
  refine gw_aload_n F 0 rfl rfl (by decide) dX6_costFrom_1 ?_
  refine gw_get3 F (so_46 hst) (by decide) rfl sg_lay_RX6 (j := 1) (by decide) (o1 := 48) (by first | rfl | omega) rfl (host := "") (.inl kw_313) dX6_costFrom_2 (fun h1 => ?_)
  refine gw_get0 F (so_48 hst) (by decide) rfl sg_lay_RX4 (j := 1) (by decide) rfl (.inr kw_201) dX6_costFrom_5 (fun h2 => ?_)
  refine gw_iconst F dX6_costFrom_8 ?_
  refine gw_isub F rfl dX6_costFrom_9 ?_
  obtain ⟨g3, hf⟩ := hf
  refine gw_icmp_lt F (tgt := 15) dX6_costFrom_10 (by decide) r2 g3 (fun c4 => ?_) (fun c4 => ?_)
  · have hf := hf.1 c4
    refine gw_aload_n F 0 rfl rfl (by decide) dX6_costFrom_15 ?_
    refine gw_aload_n F 1 rfl rfl t1.1 dX6_costFrom_16 ?_
    refine gw_iload_n F 2 rfl rfl dX6_costFrom_17 ?_
    refine gw_iload_n F 3 rfl rfl dX6_costFrom_18 ?_
    refine gk_PI F (gc_V F (S := []) (As := [sg_r o1, sg_i x2, sg_i x3]) (T := TX6) (N := 3) (CX6_cheapestNext hst t1 r2 r3 hf) (so_46 hst) (by decide) rfl kw_703 kw_102 kw_701 kw_702 kw_23 hcX6_cheapestNext ⟨by decide, by decide⟩ rfl rfl (Nat.le_of_ble_eq_true rfl) ⟨by decide, by decide⟩ dX6_costFrom_19) (fun u5 h6 hf => ?_)
    refine gw_istore F (by decide) rfl dX6_costFrom_22 ?_
    refine gw_iload F 0 rfl dX6_costFrom_24 ?_
    refine gw_iconst F dX6_costFrom_26 ?_
    refine gw_icmp_ne F (tgt := 34) dX6_costFrom_27 (by decide) h6 (by decide) (fun c7 => ?_) (fun c7 => ?_)
    · have hf := hf.1 c7
      refine gw_aload_n F 2 rfl rfl t1.1 dX6_costFrom_34 ?_
      refine gw_iload_n F 4 rfl rfl dX6_costFrom_35 ?_
      refine gw_iload F 0 rfl dX6_costFrom_36 ?_
      refine gk_PI F (gc_V F (S := []) (As := [sg_i x3, sg_i u5]) (T := TX2) (N := 3) (CX2_way t1 r3 h6 hf) t1 (by decide) rfl kw_710 kw_99 kw_707 kw_708 kw_709 hcX2_way ⟨by decide, by decide⟩ rfl rfl (Nat.le_of_ble_eq_true rfl) ⟨by decide, by decide⟩ dX6_costFrom_38) (fun u8 h9 hf => ?_)
      refine gw_aload_n F 1 rfl rfl (by decide) dX6_costFrom_41 ?_
      refine gw_iload_n F 3 rfl rfl dX6_costFrom_42 ?_
      refine gw_iconst F dX6_costFrom_43 ?_
      refine gw_iadd F rfl dX6_costFrom_44 ?_
      refine gw_iload F 0 rfl dX6_costFrom_45 ?_
      obtain ⟨g10, hf⟩ := hf
      refine gk_PI F (gc_V F (S := [sg_i u8]) (As := [sg_i (x2 + 1), sg_i u5]) (T := TX6) (N := 3) (CX6_costAt hst g10 h6 hf) (so_46 hst) (by decide) rfl kw_706 kw_102 kw_704 kw_705 kw_24 hcX6_costAt ⟨by decide, by decide⟩ rfl rfl (Nat.le_of_ble_eq_true rfl) ⟨by decide, by decide⟩ dX6_costFrom_47) (fun u11 h12 hf => ?_)
      refine gw_iadd F rfl dX6_costFrom_50 ?_
      obtain ⟨g13, hf⟩ := hf
      exact gr_PI F g13 hf (by decide) (by decide) dX6_costFrom_51
    · have hf := hf.2 c7
      refine gw_iconst F dX6_costFrom_30 ?_
      refine gw_goto F (tgt := 51) dX6_costFrom_31 (by decide) ?_
      exact gr_PI F (by decide) hf (by decide) (by decide) dX6_costFrom_51
  · have hf := hf.2 c4
    refine gw_iconst F dX6_costFrom_13 ?_
    exact gr_PI F (by decide) hf (by decide) (by decide) dX6_costFrom_14

theorem dX3_pass_0 : decode cX3_pass 0 = .ok (.aload_n 0, 1) := by decide +kernel
theorem dX3_pass_1 : decode cX3_pass 1 = .ok (.getfield 18, 3) := by decide +kernel
theorem dX3_pass_4 : decode cX3_pass 4 = .ok (.ifCond .lt 43, 3) := by decide +kernel
theorem dX3_pass_7 : decode cX3_pass 7 = .ok (.aload_n 0, 1) := by decide +kernel
theorem dX3_pass_8 : decode cX3_pass 8 = .ok (.getfield 18, 3) := by decide +kernel
theorem dX3_pass_11 : decode cX3_pass 11 = .ok (.sipush 200, 3) := by decide +kernel
theorem dX3_pass_14 : decode cX3_pass 14 = .ok (.if_icmp .ge 33, 3) := by decide +kernel
theorem dX3_pass_17 : decode cX3_pass 17 = .ok (.aload_n 0, 1) := by decide +kernel
theorem dX3_pass_18 : decode cX3_pass 18 = .ok (.getfield 9, 3) := by decide +kernel
theorem dX3_pass_21 : decode cX3_pass 21 = .ok (.aload_n 0, 1) := by decide +kernel
theorem dX3_pass_22 : decode cX3_pass 22 = .ok (.getfield 18, 3) := by decide +kernel
theorem dX3_pass_25 : decode cX3_pass 25 = .ok (.iload_n 1, 1) := by decide +kernel
theorem dX3_pass_26 : decode cX3_pass 26 = .ok (.iastore, 1) := by decide +kernel
theorem dX3_pass_27 : decode cX3_pass 27 = .ok (.aload_n 0, 1) := by decide +kernel
theorem dX3_pass_28 : decode cX3_pass 28 = .ok (.getfield 15, 3) := by decide +kernel
theorem dX3_pass_31 : decode cX3_pass 31 = .ok (.aload_n 0, 1) := by decide +kernel
theorem dX3_pass_32 : decode cX3_pass 32 = .ok (.getfield 18, 3) := by decide +kernel
theorem dX3_pass_35 : decode cX3_pass 35 = .ok (.iload_n 2, 1) := by decide +kernel
theorem dX3_pass_36 : decode cX3_pass 36 = .ok (.iastore, 1) := by decide +kernel
theorem dX3_pass_37 : decode cX3_pass 37 = .ok (.aload_n 0, 1) := by decide +kernel
theorem dX3_pass_38 : decode cX3_pass 38 = .ok (.dup, 1) := by decide +kernel
theorem dX3_pass_39 : decode cX3_pass 39 = .ok (.getfield 18, 3) := by decide +kernel
theorem dX3_pass_42 : decode cX3_pass 42 = .ok (.iconst 1, 1) := by decide +kernel
theorem dX3_pass_43 : decode cX3_pass 43 = .ok (.iadd, 1) := by decide +kernel
theorem dX3_pass_44 : decode cX3_pass 44 = .ok (.putfield 18, 3) := by decide +kernel
theorem dX3_pass_47 : decode cX3_pass 47 = .ok (.return_, 1) := by decide +kernel
theorem hcX3_pass : yX3_pass.cls ≠ "java/lang/invoke/MethodHandle" ∧ yX3_pass.cls ≠ "java/lang/invoke/VarHandle" ∧ (parseMethodDescriptor yX3_pass.desc).map (fun d => d.parameters.length) = some 2 := ⟨by decide +kernel, by decide +kernel, by decide +kernel⟩
def fX3_pass (s0 : sg_M) (o : Int) (x1 : Int) (x2 : Int) (Q : sg_M → Prop) : Prop := (((s0 o 2) < 0 → Q s0) ∧ (¬ ((s0 o 2) < 0) → ((200 ≤ (s0 o 2) → Q s0) ∧ (¬ (200 ≤ (s0 o 2)) → (0 ≤ (s0 o 2) ∧ (s0 o 2) < 200) ∧ ∀ s8 : sg_M, s8 = sg_up s0 (o + 1) (s0 o 2) x1 → (0 ≤ (s8 o 2) ∧ (s8 o 2) < 200) ∧ ∀ s13 : sg_M, s13 = sg_up s8 (o + 2) (s8 o 2) x2 → sg_R ((s13 o 2) + 1) ∧ ∀ s17 : sg_M, s17 = sg_up s13 o 2 ((s13 o 2) + 1) → Q s17))))
set_option maxHeartbeats 4000000 in
set_option maxRecDepth 100000 in
theorem CX3_pass {l : Launch} {G : sg_G} {La : sg_L} {s0 : sg_M} {o : Int} (to : sg_O La o 3) {x1 : Int} (r1 : sg_R x1) {x2 : Int} (r2 : sg_R x2) {Q : sg_M → Prop} (hf : fX3_pass s0 o x1 x2 Q) : sg_C l G yX3_pass cX3_pass 3 (none) 1 0 0 La s0 [sg_r o, sg_i x1, sg_i x2] (sg_HV La Q) := by
  refine sg_body (by decide +kernel) (Nat.le_of_ble_eq_true rfl) ?_
  intro p e s m args below meth c F hnm
  unfold fX3_pass at hf
  show sg_W p l e (sg_rm 1 0 0) s m args below meth c (MQ below (sg_Q (none) G La s.heap.size (sg_HV La Q)) args s 0 0 (sg_A La s.heap.size)) 3 G (sg_A La s.heap.size) La s0 0 0 0 [(0, sg_r o), (1, sg_i x1), (2, sg_i x2)] []
  refine gw_aload_n F 0 rfl rfl to.1 dX3_pass_0 ?_
  refine gw_get0 F to (by decide) rfl sg_lay_RX3 (j := 2) (by decide) rfl (host := "") (.inl kw_180) dX3_pass_1 (fun h1 => ?_)
  refine gw_if_lt F (tgt := 47) dX3_pass_4 (by decide) h1 (fun c2 => ?_) (fun c2 => ?_)
  · have hf := hf.1 c2
    exact gr_HV F hf (by decide) (by decide) dX3_pass_47
  · have hf := hf.2 c2
    refine gw_aload_n F 0 rfl rfl to.1 dX3_pass_7 ?_
    refine gw_get0 F to (by decide) rfl sg_lay_RX3 (j := 2) (by decide) rfl (host := "") (.inl kw_180) dX3_pass_8 (fun h3 => ?_)
    refine gw_sipush F rfl dX3_pass_11 ?_
    refine gw_icmp_ge F (tgt := 47) dX3_pass_14 (by decide) h3 (by decide) (fun c4 => ?_) (fun c4 => ?_)
    · have hf := hf.1 c4
      exact gr_HV F hf (by decide) (by decide) dX3_pass_47
    · have hf := hf.2 c4
      refine gw_aload_n F 0 rfl rfl to.1 dX3_pass_17 ?_
      refine gw_get3 F to (by decide) rfl sg_lay_RX3 (j := 0) (by decide) (o1 := (o + 1)) (by first | rfl | omega) rfl (host := "") (.inl kw_178) dX3_pass_18 (fun h5 => ?_)
      refine gw_aload_n F 0 rfl rfl to.1 dX3_pass_21 ?_
      refine gw_get0 F to (by decide) rfl sg_lay_RX3 (j := 2) (by decide) rfl (host := "") (.inl kw_180) dX3_pass_22 (fun h6 => ?_)
      refine gw_iload_n F 1 rfl rfl dX3_pass_25 ?_
      obtain ⟨⟨b70, b71⟩, hf⟩ := hf
      obtain ⟨s8, e9⟩ : ∃ z : sg_M, z = sg_up s0 (o + 1) (s0 o 2) x1 := ⟨_, rfl⟩
      have hf := hf s8 e9
      refine gw_iast F (sg_AN_of (sg_O_of h5 (by decide)) (by decide) (by decide) (by decide)) b70 b71 r1 e9 dX3_pass_26 ?_
      refine gw_aload_n F 0 rfl rfl to.1 dX3_pass_27 ?_
      refine gw_get3 F to (by decide) rfl sg_lay_RX3 (j := 1) (by decide) (o1 := (o + 2)) (by first | rfl | omega) rfl (host := "") (.inl kw_179) dX3_pass_28 (fun h10 => ?_)
      refine gw_aload_n F 0 rfl rfl to.1 dX3_pass_31 ?_
      refine gw_get0 F to (by decide) rfl sg_lay_RX3 (j := 2) (by decide) rfl (host := "") (.inl kw_180) dX3_pass_32 (fun h11 => ?_)
      refine gw_iload_n F 2 rfl rfl dX3_pass_35 ?_
      obtain ⟨⟨b120, b121⟩, hf⟩ := hf
      obtain ⟨s13, e14⟩ : ∃ z : sg_M, z = sg_up s8 (o + 2) (s8 o 2) x2 := ⟨_, rfl⟩
      have hf := hf s13 e14
      refine gw_iast F (sg_AN_of (sg_O_of h10 (by decide)) (by decide) (by decide) (by decide)) b120 b121 r2 e14 dX3_pass_36 ?_
      refine gw_aload_n F 0 rfl rfl to.1 dX3_pass_37 ?_
      refine gw_dup F rfl dX3_pass_38 ?_
      refine gw_get0 F to (by decide) rfl sg_lay_RX3 (j := 2) (by decide) rfl (host := "") (.inl kw_180) dX3_pass_39 (fun h15 => ?_)
      refine gw_iconst F dX3_pass_42 ?_
      refine gw_iadd F rfl dX3_pass_43 ?_
      obtain ⟨g16, hf⟩ := hf
      obtain ⟨s17, e18⟩ : ∃ z : sg_M, z = sg_up s13 o 2 ((s13 o 2) + 1) := ⟨_, rfl⟩
      have hf := hf s17 e18
      refine gw_put0 F to (by decide) rfl sg_lay_RX3 (j := 2) (by decide) g16 e18 tyX3_ok nmX3 rfl (tyX3_ok 2 (by decide)) rfl (host := "") (.inl kw_180) dX3_pass_44 ?_
      exact gr_HV F hf (by decide) (by decide) dX3_pass_47

theorem dX0_init_0 : decode cX0_init 0 = .ok (.aload_n 0, 1) := by decide +kernel
theorem dX0_init_1 : decode cX0_init 1 = .ok (.invokespecial 3, 3) := by decide +kernel
theorem dX0_init_4 : decode cX0_init 4 = .ok (.aload_n 0, 1) := by decide +kernel
theorem dX0_init_5 : decode cX0_init 5 = .ok (.bipush 60, 2) := by decide +kernel
theorem dX0_init_7 : decode cX0_init 7 = .ok (.newarray .int, 2) := by decide +kernel
theorem dX0_init_9 : decode cX0_init 9 = .ok (.putfield 9, 3) := by decide +kernel
theorem dX0_init_12 : decode cX0_init 12 = .ok (.aload_n 0, 1) := by decide +kernel
theorem dX0_init_13 : decode cX0_init 13 = .ok (.bipush 60, 2) := by decide +kernel
theorem dX0_init_15 : decode cX0_init 15 = .ok (.newarray .int, 2) := by decide +kernel
theorem dX0_init_17 : decode cX0_init 17 = .ok (.putfield 15, 3) := by decide +kernel
theorem dX0_init_20 : decode cX0_init 20 = .ok (.aload_n 0, 1) := by decide +kernel
theorem dX0_init_21 : decode cX0_init 21 = .ok (.new 18, 3) := by decide +kernel
theorem dX0_init_24 : decode cX0_init 24 = .ok (.dup, 1) := by decide +kernel
theorem dX0_init_25 : decode cX0_init 25 = .ok (.bipush 60, 2) := by decide +kernel
theorem dX0_init_27 : decode cX0_init 27 = .ok (.invokespecial 20, 3) := by decide +kernel
theorem dX0_init_30 : decode cX0_init 30 = .ok (.putfield 23, 3) := by decide +kernel
theorem dX0_init_33 : decode cX0_init 33 = .ok (.aload_n 0, 1) := by decide +kernel
theorem dX0_init_34 : decode cX0_init 34 = .ok (.iconst 0, 1) := by decide +kernel
theorem dX0_init_35 : decode cX0_init 35 = .ok (.putfield 27, 3) := by decide +kernel
theorem dX0_init_38 : decode cX0_init 38 = .ok (.aload_n 0, 1) := by decide +kernel
theorem dX0_init_39 : decode cX0_init 39 = .ok (.iconst 0, 1) := by decide +kernel
theorem dX0_init_40 : decode cX0_init 40 = .ok (.putfield 31, 3) := by decide +kernel
theorem dX0_init_43 : decode cX0_init 43 = .ok (.aload_n 0, 1) := by decide +kernel
theorem dX0_init_44 : decode cX0_init 44 = .ok (.iconst (-1), 1) := by decide +kernel
theorem dX0_init_45 : decode cX0_init 45 = .ok (.putfield 34, 3) := by decide +kernel
theorem dX0_init_48 : decode cX0_init 48 = .ok (.aload_n 0, 1) := by decide +kernel
theorem dX0_init_49 : decode cX0_init 49 = .ok (.iconst 0, 1) := by decide +kernel
theorem dX0_init_50 : decode cX0_init 50 = .ok (.putfield 37, 3) := by decide +kernel
theorem dX0_init_53 : decode cX0_init 53 = .ok (.aload_n 0, 1) := by decide +kernel
theorem dX0_init_54 : decode cX0_init 54 = .ok (.iconst 0, 1) := by decide +kernel
theorem dX0_init_55 : decode cX0_init 55 = .ok (.putfield 40, 3) := by decide +kernel
theorem dX0_init_58 : decode cX0_init 58 = .ok (.aload_n 0, 1) := by decide +kernel
theorem dX0_init_59 : decode cX0_init 59 = .ok (.bipush 99, 2) := by decide +kernel
theorem dX0_init_61 : decode cX0_init 61 = .ok (.putfield 43, 3) := by decide +kernel
theorem dX0_init_64 : decode cX0_init 64 = .ok (.aload_n 0, 1) := by decide +kernel
theorem dX0_init_65 : decode cX0_init 65 = .ok (.iconst 0, 1) := by decide +kernel
theorem dX0_init_66 : decode cX0_init 66 = .ok (.putfield 46, 3) := by decide +kernel
theorem dX0_init_69 : decode cX0_init 69 = .ok (.aload_n 0, 1) := by decide +kernel
theorem dX0_init_70 : decode cX0_init 70 = .ok (.iconst 0, 1) := by decide +kernel
theorem dX0_init_71 : decode cX0_init 71 = .ok (.putfield 49, 3) := by decide +kernel
theorem dX0_init_74 : decode cX0_init 74 = .ok (.return_, 1) := by decide +kernel
theorem hcX0_init : yX0_init.cls ≠ "java/lang/invoke/MethodHandle" ∧ yX0_init.cls ≠ "java/lang/invoke/VarHandle" ∧ (parseMethodDescriptor yX0_init.desc).map (fun d => d.parameters.length) = some 0 := ⟨by decide +kernel, by decide +kernel, by decide +kernel⟩
def fX0_init (La : sg_L) (s0 : sg_M) (o : Int) (Q : sg_L → sg_M → Prop) : Prop := ∀ (q1 : Nat) (La2 : sg_L), La2 = sg_pu La 10060 q1 → ∀ s3 : sg_M, s3 = sg_nw s0 La.1 10060 → ∀ o4 : Int, o4 = (La.1 : Int) → ∀ s14 : sg_M, s14 = sg_up s3 o 0 o4 → ∀ (q16 : Nat) (La17 : sg_L), La17 = sg_pu La2 10060 q16 → ∀ s18 : sg_M, s18 = sg_nw s14 La2.1 10060 → ∀ o19 : Int, o19 = (La2.1 : Int) → ∀ s29 : sg_M, s29 = sg_up s18 o 1 o19 → ∀ (q31 : Nat) (La32 : sg_L), La32 = sg_pu La17 24 q31 → ∀ s33 : sg_M, s33 = sg_nw s29 La17.1 24 → ∀ o34 : Int, o34 = (La17.1 : Int) → fX4_init La32 s33 o34 60 (fun La43 s44 => ∀ s49 : sg_M, s49 = sg_up s44 o 2 o34 → ∀ s51 : sg_M, s51 = sg_up s49 o 3 0 → ∀ s53 : sg_M, s53 = sg_up s51 o 4 0 → ∀ s55 : sg_M, s55 = sg_up s53 o 5 (-1) → ∀ s57 : sg_M, s57 = sg_up s55 o 6 0 → ∀ s59 : sg_M, s59 = sg_up s57 o 7 0 → ∀ s61 : sg_M, s61 = sg_up s59 o 8 99 → ∀ s63 : sg_M, s63 = sg_up s61 o 9 0 → ∀ s65 : sg_M, s65 = sg_up s63 o 10 0 → sg_sealed La43 s65 o 20 0 ∧ ∀ La67 : sg_L, La67 = sg_se La43 o.toNat 0 → Q La67 s65)
set_option maxHeartbeats 4000000 in
set_option maxRecDepth 100000 in
theorem CX0_init {l : Launch} {G : sg_G} {La : sg_L} {s0 : sg_M} {o : Int} (to : sg_O La o 20) {Q : sg_L → sg_M → Prop} (hf : fX0_init La s0 o Q) : sg_C l G yX0_init cX0_init 1 (none) 2 4 323 La s0 [sg_r o] (sg_BV (sg_se La o.toNat 0) Q) := by
  refine sg_body (by decide +kernel) (Nat.le_of_ble_eq_true rfl) ?_
  intro p e s m args below meth c F hnm
  unfold fX0_init at hf
  show sg_W p l e (sg_rm 2 4 323) s m args below meth c (MQ below (sg_Q (none) G La s.heap.size (sg_BV (sg_se La o.toNat 0) Q)) args s 4 323 (sg_A La s.heap.size)) 1 G (sg_A La s.heap.size) La s0 0 0 0 [(0, sg_r o)] []
  have hin : meth.name = "<init>" := hnm
  refine gw_aload_n F 0 rfl rfl to.1 dX0_init_0 ?_
  refine gw_objInit F to.1 kw_249 kw_OI kw_OC (Nat.le_of_ble_eq_true rfl) (by decide) (by decide) dX0_init_1 ?_
  refine gw_aload_n F 0 rfl rfl to.1 dX0_init_4 ?_
  refine gw_bipush F rfl dX0_init_5 ?_
  refine gy_newI F (N := 60) kw_131 rfl (by decide) (by decide) (by decide) (List.forall_mem_cons.mpr ⟨(Or.inl to.2.1), (fun _ h => absurd h List.not_mem_nil)⟩) (List.forall_mem_cons.mpr ⟨(Or.inl to.2.1), (fun _ h => absurd h List.not_mem_nil)⟩) dX0_init_7 (fun q1 La2 s3 o4 e5 e6 e7 t8 hX9 => ?_)
  have hf := hf q1 La2 e5 s3 e6 o4 e7
  have hn10 : La.1 ≤ o4.toNat := by rw [e7, Int.toNat_natCast]; exact (sg_X.rf : sg_X La La).1
  have t11 := to.X hX9
  have hX12 := sg_X.tr (sg_X.rf) hX9
  have t13 := sg_AN_of (n := 60) t8 (by decide) (by decide) (by decide)
  obtain ⟨s14, e15⟩ : ∃ z : sg_M, z = sg_up s3 o 0 o4 := ⟨_, rfl⟩
  have hf := hf s14 e15
  refine gw_put5F F t11 (by decide) rfl sg_lay_RX0 (j := 0) (by decide) (D0 := tyX0 0) (fun _ => ⟨rfl, rfl⟩) t13.1 t13.2.1 e15 tyX0_ok nmX0 rfl hin rfl (tyX0_ok 0 (by decide)) rfl (host := "") kw_252 dX0_init_9 ?_
  refine gw_aload_n F 0 rfl rfl t11.1 dX0_init_12 ?_
  refine gw_bipush F rfl dX0_init_13 ?_
  refine gy_newI F (N := 60) kw_131 rfl (by decide) (by decide) (by decide) (List.forall_mem_cons.mpr ⟨(Or.inl t11.2.1), (fun _ h => absurd h List.not_mem_nil)⟩) (List.forall_mem_cons.mpr ⟨(Or.inl t11.2.1), (fun _ h => absurd h List.not_mem_nil)⟩) dX0_init_15 (fun q16 La17 s18 o19 e20 e21 e22 t23 hX24 => ?_)
  have hf := hf q16 La17 e20 s18 e21 o19 e22
  have hn25 : La.1 ≤ o19.toNat := by rw [e22, Int.toNat_natCast]; exact (hX12 : sg_X La La2).1
  have t26 := t11.X hX24
  have hX27 := sg_X.tr (hX12) hX24
  have t28 := sg_AN_of (n := 60) t23 (by decide) (by decide) (by decide)
  obtain ⟨s29, e30⟩ : ∃ z : sg_M, z = sg_up s18 o 1 o19 := ⟨_, rfl⟩
  have hf := hf s29 e30
  refine gw_put5F F t26 (by decide) rfl sg_lay_RX0 (j := 1) (by decide) (D0 := tyX0 1) (fun _ => ⟨rfl, rfl⟩) t28.1 t28.2.1 e30 tyX0_ok nmX0 rfl hin rfl (tyX0_ok 1 (by decide)) rfl (host := "") kw_253 dX0_init_17 ?_
  refine gw_aload_n F 0 rfl rfl t26.1 dX0_init_20 ?_
  refine gy_new F (kd := 24) (T := TX4) (by decide) rfl sg_lay_RX4 tyX4_ok kw_250 kw_191 kw_97 ns_X4 nf_X4 nr_X4 (by decide) (by decide) (List.forall_mem_cons.mpr ⟨(Or.inl t26.2.1), (fun _ h => absurd h List.not_mem_nil)⟩) (List.forall_mem_cons.mpr ⟨(Or.inl t26.2.1), (fun _ h => absurd h List.not_mem_nil)⟩) dX0_init_21 (fun q31 La32 s33 o34 e35 e36 e37 t38 hX39 => ?_)
  have hf := hf q31 La32 e35 s33 e36 o34 e37
  have hn40 : La.1 ≤ o34.toNat := by rw [e37, Int.toNat_natCast]; exact (hX27 : sg_X La La17).1
  have t41 := t26.X hX39
  have hX42 := sg_X.tr (hX27) hX39
  refine gw_dup F rfl dX0_init_24 ?_
  refine gw_bipush F rfl dX0_init_25 ?_
  refine gk_BV F (gc_I F (S := [sg_r o34, sg_r o]) (As := [sg_i 60]) (CX4_init t38 (by decide) hf) t38.1 kw_194 kw_97 kw_251 kw_193 rfl hcX4_init ⟨by decide, by decide⟩ rfl rfl (Nat.le_of_ble_eq_true rfl) ⟨by decide, by decide⟩ dX0_init_27) (List.forall_mem_cons.mpr ⟨(Or.inl t41.2.1), (fun _ h => absurd h List.not_mem_nil)⟩) (List.forall_mem_cons.mpr ⟨(Or.inl t38.2.1), (List.forall_mem_cons.mpr ⟨(Or.inl t41.2.1), (fun _ h => absurd h List.not_mem_nil)⟩)⟩) (fun La43 s44 hX45 hf => ?_)
  have t46 := (sg_O_sx t41 t38 (by decide)).X hX45
  have t47 := (sg_O_sealed t38).X hX45
  have hX48 := (sg_X_sx (hX42) hn40).tr hX45
  obtain ⟨s49, e50⟩ : ∃ z : sg_M, z = sg_up s44 o 2 o34 := ⟨_, rfl⟩
  have hf := hf s49 e50
  refine gw_put5F F t46 (by decide) rfl sg_lay_RX0 (j := 2) (by decide) (D0 := tyX0 2) (fun _ => ⟨rfl, rfl⟩) t47.1 t47.2.1 e50 tyX0_ok nmX0 rfl hin rfl (tyX0_ok 2 (by decide)) rfl (host := "") kw_254 dX0_init_30 ?_
  refine gw_aload_n F 0 rfl rfl t46.1 dX0_init_33 ?_
  refine gw_iconst F dX0_init_34 ?_
  obtain ⟨s51, e52⟩ : ∃ z : sg_M, z = sg_up s49 o 3 0 := ⟨_, rfl⟩
  have hf := hf s51 e52
  refine gw_put0 F t46 (by decide) rfl sg_lay_RX0 (j := 3) (by decide) (by decide) e52 tyX0_ok nmX0 rfl (tyX0_ok 3 (by decide)) rfl (host := "") (.inl kw_257) dX0_init_35 ?_
  refine gw_aload_n F 0 rfl rfl t46.1 dX0_init_38 ?_
  refine gw_iconst F dX0_init_39 ?_
  obtain ⟨s53, e54⟩ : ∃ z : sg_M, z = sg_up s51 o 4 0 := ⟨_, rfl⟩
  have hf := hf s53 e54
  refine gw_put0 F t46 (by decide) rfl sg_lay_RX0 (j := 4) (by decide) (by decide) e54 tyX0_ok nmX0 rfl (tyX0_ok 4 (by decide)) rfl (host := "") (.inl kw_258) dX0_init_40 ?_
  refine gw_aload_n F 0 rfl rfl t46.1 dX0_init_43 ?_
  refine gw_iconst F dX0_init_44 ?_
  obtain ⟨s55, e56⟩ : ∃ z : sg_M, z = sg_up s53 o 5 (-1) := ⟨_, rfl⟩
  have hf := hf s55 e56
  refine gw_put0 F t46 (by decide) rfl sg_lay_RX0 (j := 5) (by decide) (by decide) e56 tyX0_ok nmX0 rfl (tyX0_ok 5 (by decide)) rfl (host := "") (.inl kw_259) dX0_init_45 ?_
  refine gw_aload_n F 0 rfl rfl t46.1 dX0_init_48 ?_
  refine gw_iconst F dX0_init_49 ?_
  obtain ⟨s57, e58⟩ : ∃ z : sg_M, z = sg_up s55 o 6 0 := ⟨_, rfl⟩
  have hf := hf s57 e58
  refine gw_put0 F t46 (by decide) rfl sg_lay_RX0 (j := 6) (by decide) (by decide) e58 tyX0_ok nmX0 rfl (tyX0_ok 6 (by decide)) rfl (host := "") (.inl kw_262) dX0_init_50 ?_
  refine gw_aload_n F 0 rfl rfl t46.1 dX0_init_53 ?_
  refine gw_iconst F dX0_init_54 ?_
  obtain ⟨s59, e60⟩ : ∃ z : sg_M, z = sg_up s57 o 7 0 := ⟨_, rfl⟩
  have hf := hf s59 e60
  refine gw_put0 F t46 (by decide) rfl sg_lay_RX0 (j := 7) (by decide) (by decide) e60 tyX0_ok nmX0 rfl (tyX0_ok 7 (by decide)) rfl (host := "") (.inl kw_264) dX0_init_55 ?_
  refine gw_aload_n F 0 rfl rfl t46.1 dX0_init_58 ?_
  refine gw_bipush F rfl dX0_init_59 ?_
  obtain ⟨s61, e62⟩ : ∃ z : sg_M, z = sg_up s59 o 8 99 := ⟨_, rfl⟩
  have hf := hf s61 e62
  refine gw_put0 F t46 (by decide) rfl sg_lay_RX0 (j := 8) (by decide) (by decide) e62 tyX0_ok nmX0 rfl (tyX0_ok 8 (by decide)) rfl (host := "") (.inl kw_267) dX0_init_61 ?_
  refine gw_aload_n F 0 rfl rfl t46.1 dX0_init_64 ?_
  refine gw_iconst F dX0_init_65 ?_
  obtain ⟨s63, e64⟩ : ∃ z : sg_M, z = sg_up s61 o 9 0 := ⟨_, rfl⟩
  have hf := hf s63 e64
  refine gw_put0 F t46 (by decide) rfl sg_lay_RX0 (j := 9) (by decide) (by decide) e64 tyX0_ok nmX0 rfl (tyX0_ok 9 (by decide)) rfl (host := "") (.inl kw_270) dX0_init_66 ?_
  refine gw_aload_n F 0 rfl rfl t46.1 dX0_init_69 ?_
  refine gw_iconst F dX0_init_70 ?_
  obtain ⟨s65, e66⟩ : ∃ z : sg_M, z = sg_up s63 o 10 0 := ⟨_, rfl⟩
  have hf := hf s65 e66
  refine gw_put1 F t46 (by decide) rfl sg_lay_RX0 (j := 10) (by decide) (by decide) e66 tyX0_ok nmX0 rfl (tyX0_ok 10 (by decide)) rfl (host := "") (.inl kw_273) dX0_init_71 ?_
  obtain ⟨g68, hf⟩ := hf
  obtain ⟨La67, e69⟩ : ∃ z : sg_L, z = sg_se La43 o.toNat 0 := ⟨_, rfl⟩
  have hf := hf La67 e69
  refine gw_seal t46 ⟨by decide, by decide, by decide⟩ (by decide) (by decide) g68.1 g68.2 ?_
  rw [← e69]
  exact gr_BC F hf (e69 ▸ (sg_X.both hX48)) (by decide) (by decide) dX0_init_74

theorem dX1_fillUntold_0 : decode cX1_fillUntold 0 = .ok (.aload_n 0, 1) := by decide +kernel
theorem dX1_fillUntold_1 : decode cX1_fillUntold 1 = .ok (.aload_n 0, 1) := by decide +kernel
theorem dX1_fillUntold_2 : decode cX1_fillUntold 2 = .ok (.getfield 28, 3) := by decide +kernel
theorem dX1_fillUntold_5 : decode cX1_fillUntold 5 = .ok (.ifCond .ne 9, 3) := by decide +kernel
theorem dX1_fillUntold_8 : decode cX1_fillUntold 8 = .ok (.sipush 300, 3) := by decide +kernel
theorem dX1_fillUntold_11 : decode cX1_fillUntold 11 = .ok (.goto 7, 3) := by decide +kernel
theorem dX1_fillUntold_14 : decode cX1_fillUntold 14 = .ok (.aload_n 0, 1) := by decide +kernel
theorem dX1_fillUntold_15 : decode cX1_fillUntold 15 = .ok (.getfield 28, 3) := by decide +kernel
theorem dX1_fillUntold_18 : decode cX1_fillUntold 18 = .ok (.putfield 28, 3) := by decide +kernel
theorem dX1_fillUntold_21 : decode cX1_fillUntold 21 = .ok (.aload_n 0, 1) := by decide +kernel
theorem dX1_fillUntold_22 : decode cX1_fillUntold 22 = .ok (.aload_n 0, 1) := by decide +kernel
theorem dX1_fillUntold_23 : decode cX1_fillUntold 23 = .ok (.getfield 31, 3) := by decide +kernel
theorem dX1_fillUntold_26 : decode cX1_fillUntold 26 = .ok (.ifCond .ne 9, 3) := by decide +kernel
theorem dX1_fillUntold_29 : decode cX1_fillUntold 29 = .ok (.sipush 2000, 3) := by decide +kernel
theorem dX1_fillUntold_32 : decode cX1_fillUntold 32 = .ok (.goto 7, 3) := by decide +kernel
theorem dX1_fillUntold_35 : decode cX1_fillUntold 35 = .ok (.aload_n 0, 1) := by decide +kernel
theorem dX1_fillUntold_36 : decode cX1_fillUntold 36 = .ok (.getfield 31, 3) := by decide +kernel
theorem dX1_fillUntold_39 : decode cX1_fillUntold 39 = .ok (.putfield 31, 3) := by decide +kernel
theorem dX1_fillUntold_42 : decode cX1_fillUntold 42 = .ok (.return_, 1) := by decide +kernel
theorem hcX1_fillUntold : yX1_fillUntold.cls ≠ "java/lang/invoke/MethodHandle" ∧ yX1_fillUntold.cls ≠ "java/lang/invoke/VarHandle" ∧ (parseMethodDescriptor yX1_fillUntold.desc).map (fun d => d.parameters.length) = some 0 := ⟨by decide +kernel, by decide +kernel, by decide +kernel⟩
def fX1_fillUntold_j18 (s0 : sg_M) (o : Int) (Q : sg_M → Prop) (y0_18 : Int) : Prop := ∀ s2 : sg_M, s2 = sg_up s0 o 5 y0_18 → (((s2 o 6) ≠ 0 → ∀ s7 : sg_M, s7 = sg_up s2 o 6 (s2 o 6) → Q s7) ∧ ((s2 o 6) = 0 → ∀ s9 : sg_M, s9 = sg_up s2 o 6 2000 → Q s9))
def fX1_fillUntold (s0 : sg_M) (o : Int) (Q : sg_M → Prop) : Prop := (((s0 o 5) ≠ 0 → (fX1_fillUntold_j18 s0 o Q) (s0 o 5)) ∧ ((s0 o 5) = 0 → (fX1_fillUntold_j18 s0 o Q) 300))
set_option maxHeartbeats 4000000 in
set_option maxRecDepth 100000 in
theorem CX1_fillUntold {l : Launch} {G : sg_G} {La : sg_L} {s0 : sg_M} {o : Int} (to : sg_O La o 1) {Q : sg_M → Prop} (hf : fX1_fillUntold s0 o Q) : sg_C l G yX1_fillUntold cX1_fillUntold 1 (none) 1 0 0 La s0 [sg_r o] (sg_HV La Q) := by
  refine sg_body (by decide +kernel) (Nat.le_of_ble_eq_true rfl) ?_
  intro p e s m args below meth c F hnm
  unfold fX1_fillUntold at hf
  show sg_W p l e (sg_rm 1 0 0) s m args below meth c (MQ below (sg_Q (none) G La s.heap.size (sg_HV La Q)) args s 0 0 (sg_A La s.heap.size)) 1 G (sg_A La s.heap.size) La s0 0 0 0 [(0, sg_r o)] []
  refine gw_aload_n F 0 rfl rfl to.1 dX1_fillUntold_0 ?_
  refine gw_aload_n F 0 rfl rfl to.1 dX1_fillUntold_1 ?_
  refine gw_get0 F to (by decide) rfl sg_lay_RX1 (j := 5) (by decide) rfl (host := "") (.inl kw_166) dX1_fillUntold_2 (fun h1 => ?_)
  have J18 : ∀ (y0_18 : Int), sg_R y0_18 → (fX1_fillUntold_j18 s0 o Q) y0_18 → sg_W p l e (sg_rm 1 0 0) s m args below meth c (MQ below (sg_Q (none) G La s.heap.size (sg_HV La Q)) args s 0 0 (sg_A La s.heap.size)) 1 G (sg_A La s.heap.size) La s0 0 0 18 [(0, sg_r o)] [sg_i y0_18, sg_r o] := by
    intro y0_18 ry0_18 hf
    unfold fX1_fillUntold_j18 at hf
    obtain ⟨s2, e3⟩ : ∃ z : sg_M, z = sg_up s0 o 5 y0_18 := ⟨_, rfl⟩
    have hf := hf s2 e3
    refine gw_put0 F to (by decide) rfl sg_lay_RX1 (j := 5) (by decide) ry0_18 e3 tyX1_ok nmX1 rfl (tyX1_ok 5 (by decide)) rfl (host := "") (.inl kw_166) dX1_fillUntold_18 ?_
    refine gw_aload_n F 0 rfl rfl to.1 dX1_fillUntold_21 ?_
    refine gw_aload_n F 0 rfl rfl to.1 dX1_fillUntold_22 ?_
    refine gw_get0 F to (by decide) rfl sg_lay_RX1 (j := 6) (by decide) rfl (host := "") (.inl kw_169) dX1_fillUntold_23 (fun h4 => ?_)
    refine gw_if_ne F (tgt := 35) dX1_fillUntold_26 (by decide) h4 (fun c5 => ?_) (fun c5 => ?_)
    · have hf := hf.1 c5
      refine gw_aload_n F 0 rfl rfl to.1 dX1_fillUntold_35 ?_
      refine gw_get0 F to (by decide) rfl sg_lay_RX1 (j := 6) (by decide) rfl (host := "") (.inl kw_169) dX1_fillUntold_36 (fun h6 => ?_)
      obtain ⟨s7, e8⟩ : ∃ z : sg_M, z = sg_up s2 o 6 (s2 o 6) := ⟨_, rfl⟩
      have hf := hf s7 e8
      refine gw_put0 F to (by decide) rfl sg_lay_RX1 (j := 6) (by decide) h6 e8 tyX1_ok nmX1 rfl (tyX1_ok 6 (by decide)) rfl (host := "") (.inl kw_169) dX1_fillUntold_39 ?_
      exact gr_HV F hf (by decide) (by decide) dX1_fillUntold_42
    · have hf := hf.2 c5
      refine gw_sipush F rfl dX1_fillUntold_29 ?_
      refine gw_goto F (tgt := 39) dX1_fillUntold_32 (by decide) ?_
      obtain ⟨s9, e10⟩ : ∃ z : sg_M, z = sg_up s2 o 6 2000 := ⟨_, rfl⟩
      have hf := hf s9 e10
      refine gw_put0 F to (by decide) rfl sg_lay_RX1 (j := 6) (by decide) (by decide) e10 tyX1_ok nmX1 rfl (tyX1_ok 6 (by decide)) rfl (host := "") (.inl kw_169) dX1_fillUntold_39 ?_
      exact gr_HV F hf (by decide) (by decide) dX1_fillUntold_42
  refine gw_if_ne F (tgt := 14) dX1_fillUntold_5 (by decide) h1 (fun c11 => ?_) (fun c11 => ?_)
  · have hf := hf.1 c11
    refine gw_aload_n F 0 rfl rfl to.1 dX1_fillUntold_14 ?_
    refine gw_get0 F to (by decide) rfl sg_lay_RX1 (j := 5) (by decide) rfl (host := "") (.inl kw_166) dX1_fillUntold_15 (fun h12 => ?_)
    refine gw_sub [0] rfl ?_
    exact J18 (s0 o 5) h12 hf
  · have hf := hf.2 c11
    refine gw_sipush F rfl dX1_fillUntold_8 ?_
    refine gw_goto F (tgt := 18) dX1_fillUntold_11 (by decide) ?_
    refine gw_sub [0] rfl ?_
    exact J18 300 (by decide) hf

theorem dX6_init_0 : decode cX6_init 0 = .ok (.aload_n 0, 1) := by decide +kernel
theorem dX6_init_1 : decode cX6_init 1 = .ok (.invokespecial 3, 3) := by decide +kernel
theorem dX6_init_4 : decode cX6_init 4 = .ok (.aload_n 0, 1) := by decide +kernel
theorem dX6_init_5 : decode cX6_init 5 = .ok (.sipush 2400, 3) := by decide +kernel
theorem dX6_init_8 : decode cX6_init 8 = .ok (.newarray .int, 2) := by decide +kernel
theorem dX6_init_10 : decode cX6_init 10 = .ok (.putfield 9, 3) := by decide +kernel
theorem dX6_init_13 : decode cX6_init 13 = .ok (.aload_n 0, 1) := by decide +kernel
theorem dX6_init_14 : decode cX6_init 14 = .ok (.new 15, 3) := by decide +kernel
theorem dX6_init_17 : decode cX6_init 17 = .ok (.dup, 1) := by decide +kernel
theorem dX6_init_18 : decode cX6_init 18 = .ok (.bipush 60, 2) := by decide +kernel
theorem dX6_init_20 : decode cX6_init 20 = .ok (.invokespecial 17, 3) := by decide +kernel
theorem dX6_init_23 : decode cX6_init 23 = .ok (.putfield 20, 3) := by decide +kernel
theorem dX6_init_26 : decode cX6_init 26 = .ok (.aload_n 0, 1) := by decide +kernel
theorem dX6_init_27 : decode cX6_init 27 = .ok (.new 15, 3) := by decide +kernel
theorem dX6_init_30 : decode cX6_init 30 = .ok (.dup, 1) := by decide +kernel
theorem dX6_init_31 : decode cX6_init 31 = .ok (.bipush 60, 2) := by decide +kernel
theorem dX6_init_33 : decode cX6_init 33 = .ok (.invokespecial 17, 3) := by decide +kernel
theorem dX6_init_36 : decode cX6_init 36 = .ok (.putfield 24, 3) := by decide +kernel
theorem dX6_init_39 : decode cX6_init 39 = .ok (.return_, 1) := by decide +kernel
theorem hcX6_init : yX6_init.cls ≠ "java/lang/invoke/MethodHandle" ∧ yX6_init.cls ≠ "java/lang/invoke/VarHandle" ∧ (parseMethodDescriptor yX6_init.desc).map (fun d => d.parameters.length) = some 0 := ⟨by decide +kernel, by decide +kernel, by decide +kernel⟩
def fX6_init (La : sg_L) (s0 : sg_M) (o : Int) (Q : sg_L → sg_M → Prop) : Prop := ∀ (q1 : Nat) (La2 : sg_L), La2 = sg_pu La 12400 q1 → ∀ s3 : sg_M, s3 = sg_nw s0 La.1 12400 → ∀ o4 : Int, o4 = (La.1 : Int) → ∀ s14 : sg_M, s14 = sg_up s3 o 0 o4 → ∀ (q16 : Nat) (La17 : sg_L), La17 = sg_pu La2 24 q16 → ∀ s18 : sg_M, s18 = sg_nw s14 La2.1 24 → ∀ o19 : Int, o19 = (La2.1 : Int) → fX4_init La17 s18 o19 60 (fun La28 s29 => ∀ s34 : sg_M, s34 = sg_up s29 o 1 o19 → ∀ (q36 : Nat) (La37 : sg_L), La37 = sg_pu La28 24 q36 → ∀ s38 : sg_M, s38 = sg_nw s34 La28.1 24 → ∀ o39 : Int, o39 = (La28.1 : Int) → fX4_init La37 s38 o39 60 (fun La48 s49 => ∀ s54 : sg_M, s54 = sg_up s49 o 2 o39 → sg_sealed La48 s54 o 26 6 ∧ ∀ La56 : sg_L, La56 = sg_se La48 o.toNat 6 → Q La56 s54))
set_option maxHeartbeats 4000000 in
set_option maxRecDepth 100000 in
theorem CX6_init {l : Launch} {G : sg_G} {La : sg_L} {s0 : sg_M} {o : Int} (to : sg_O La o 26) {Q : sg_L → sg_M → Prop} (hf : fX6_init La s0 o Q) : sg_C l G yX6_init cX6_init 1 (none) 2 5 2806 La s0 [sg_r o] (sg_BV (sg_se La o.toNat 6) Q) := by
  refine sg_body (by decide +kernel) (Nat.le_of_ble_eq_true rfl) ?_
  intro p e s m args below meth c F hnm
  unfold fX6_init at hf
  show sg_W p l e (sg_rm 2 5 2806) s m args below meth c (MQ below (sg_Q (none) G La s.heap.size (sg_BV (sg_se La o.toNat 6) Q)) args s 5 2806 (sg_A La s.heap.size)) 1 G (sg_A La s.heap.size) La s0 0 0 0 [(0, sg_r o)] []
  have hin : meth.name = "<init>" := hnm
  refine gw_aload_n F 0 rfl rfl to.1 dX6_init_0 ?_
  refine gw_objInit F to.1 kw_309 kw_OI kw_OC (Nat.le_of_ble_eq_true rfl) (by decide) (by decide) dX6_init_1 ?_
  refine gw_aload_n F 0 rfl rfl to.1 dX6_init_4 ?_
  refine gw_sipush F rfl dX6_init_5 ?_
  refine gy_newI F (N := 2400) kw_131 rfl (by decide) (by decide) (by decide) (List.forall_mem_cons.mpr ⟨(Or.inl to.2.1), (fun _ h => absurd h List.not_mem_nil)⟩) (List.forall_mem_cons.mpr ⟨(Or.inl to.2.1), (fun _ h => absurd h List.not_mem_nil)⟩) dX6_init_8 (fun q1 La2 s3 o4 e5 e6 e7 t8 hX9 => ?_)
  have hf := hf q1 La2 e5 s3 e6 o4 e7
  have hn10 : La.1 ≤ o4.toNat := by rw [e7, Int.toNat_natCast]; exact (sg_X.rf : sg_X La La).1
  have t11 := to.X hX9
  have hX12 := sg_X.tr (sg_X.rf) hX9
  have t13 := sg_AN_of (n := 2400) t8 (by decide) (by decide) (by decide)
  obtain ⟨s14, e15⟩ : ∃ z : sg_M, z = sg_up s3 o 0 o4 := ⟨_, rfl⟩
  have hf := hf s14 e15
  refine gw_put5F F t11 (by decide) rfl sg_lay_RX6 (j := 0) (by decide) (D0 := tyX6 0) (fun _ => ⟨rfl, rfl⟩) t13.1 t13.2.1 e15 tyX6_ok nmX6 rfl hin rfl (tyX6_ok 0 (by decide)) rfl (host := "") kw_312 dX6_init_10 ?_
  refine gw_aload_n F 0 rfl rfl t11.1 dX6_init_13 ?_
  refine gy_new F (kd := 24) (T := TX4) (by decide) rfl sg_lay_RX4 tyX4_ok kw_310 kw_191 kw_97 ns_X4 nf_X4 nr_X4 (by decide) (by decide) (List.forall_mem_cons.mpr ⟨(Or.inl t11.2.1), (fun _ h => absurd h List.not_mem_nil)⟩) (List.forall_mem_cons.mpr ⟨(Or.inl t11.2.1), (fun _ h => absurd h List.not_mem_nil)⟩) dX6_init_14 (fun q16 La17 s18 o19 e20 e21 e22 t23 hX24 => ?_)
  have hf := hf q16 La17 e20 s18 e21 o19 e22
  have hn25 : La.1 ≤ o19.toNat := by rw [e22, Int.toNat_natCast]; exact (hX12 : sg_X La La2).1
  have t26 := t11.X hX24
  have hX27 := sg_X.tr (hX12) hX24
  refine gw_dup F rfl dX6_init_17 ?_
  refine gw_bipush F rfl dX6_init_18 ?_
  refine gk_BV F (gc_I F (S := [sg_r o19, sg_r o]) (As := [sg_i 60]) (CX4_init t23 (by decide) hf) t23.1 kw_194 kw_97 kw_311 kw_193 rfl hcX4_init ⟨by decide, by decide⟩ rfl rfl (Nat.le_of_ble_eq_true rfl) ⟨by decide, by decide⟩ dX6_init_20) (List.forall_mem_cons.mpr ⟨(Or.inl t26.2.1), (fun _ h => absurd h List.not_mem_nil)⟩) (List.forall_mem_cons.mpr ⟨(Or.inl t23.2.1), (List.forall_mem_cons.mpr ⟨(Or.inl t26.2.1), (fun _ h => absurd h List.not_mem_nil)⟩)⟩) (fun La28 s29 hX30 hf => ?_)
  have t31 := (sg_O_sx t26 t23 (by decide)).X hX30
  have t32 := (sg_O_sealed t23).X hX30
  have hX33 := (sg_X_sx (hX27) hn25).tr hX30
  obtain ⟨s34, e35⟩ : ∃ z : sg_M, z = sg_up s29 o 1 o19 := ⟨_, rfl⟩
  have hf := hf s34 e35
  refine gw_put5F F t31 (by decide) rfl sg_lay_RX6 (j := 1) (by decide) (D0 := tyX6 1) (fun _ => ⟨rfl, rfl⟩) t32.1 t32.2.1 e35 tyX6_ok nmX6 rfl hin rfl (tyX6_ok 1 (by decide)) rfl (host := "") kw_313 dX6_init_23 ?_
  refine gw_aload_n F 0 rfl rfl t31.1 dX6_init_26 ?_
  refine gy_new F (kd := 24) (T := TX4) (by decide) rfl sg_lay_RX4 tyX4_ok kw_310 kw_191 kw_97 ns_X4 nf_X4 nr_X4 (by decide) (by decide) (List.forall_mem_cons.mpr ⟨(Or.inl t31.2.1), (fun _ h => absurd h List.not_mem_nil)⟩) (List.forall_mem_cons.mpr ⟨(Or.inl t31.2.1), (fun _ h => absurd h List.not_mem_nil)⟩) dX6_init_27 (fun q36 La37 s38 o39 e40 e41 e42 t43 hX44 => ?_)
  have hf := hf q36 La37 e40 s38 e41 o39 e42
  have hn45 : La.1 ≤ o39.toNat := by rw [e42, Int.toNat_natCast]; exact (hX33 : sg_X La La28).1
  have t46 := t31.X hX44
  have hX47 := sg_X.tr (hX33) hX44
  refine gw_dup F rfl dX6_init_30 ?_
  refine gw_bipush F rfl dX6_init_31 ?_
  refine gk_BV F (gc_I F (S := [sg_r o39, sg_r o]) (As := [sg_i 60]) (CX4_init t43 (by decide) hf) t43.1 kw_194 kw_97 kw_311 kw_193 rfl hcX4_init ⟨by decide, by decide⟩ rfl rfl (Nat.le_of_ble_eq_true rfl) ⟨by decide, by decide⟩ dX6_init_33) (List.forall_mem_cons.mpr ⟨(Or.inl t46.2.1), (fun _ h => absurd h List.not_mem_nil)⟩) (List.forall_mem_cons.mpr ⟨(Or.inl t43.2.1), (List.forall_mem_cons.mpr ⟨(Or.inl t46.2.1), (fun _ h => absurd h List.not_mem_nil)⟩)⟩) (fun La48 s49 hX50 hf => ?_)
  have t51 := (sg_O_sx t46 t43 (by decide)).X hX50
  have t52 := (sg_O_sealed t43).X hX50
  have hX53 := (sg_X_sx (hX47) hn45).tr hX50
  obtain ⟨s54, e55⟩ : ∃ z : sg_M, z = sg_up s49 o 2 o39 := ⟨_, rfl⟩
  have hf := hf s54 e55
  refine gw_put5F F t51 (by decide) rfl sg_lay_RX6 (j := 2) (by decide) (D0 := tyX6 2) (fun _ => ⟨rfl, rfl⟩) t52.1 t52.2.1 e55 tyX6_ok nmX6 rfl hin rfl (tyX6_ok 2 (by decide)) rfl (host := "") kw_314 dX6_init_36 ?_
  obtain ⟨g57, hf⟩ := hf
  obtain ⟨La56, e58⟩ : ∃ z : sg_L, z = sg_se La48 o.toNat 6 := ⟨_, rfl⟩
  have hf := hf La56 e58
  refine gw_seal t51 ⟨by decide, by decide, by decide⟩ (by decide) (by decide) g57.1 g57.2 ?_
  rw [← e58]
  exact gr_BC F hf (e58 ▸ (sg_X.both hX53)) (by decide) (by decide) dX6_init_39

theorem dX7_init_0 : decode cX7_init 0 = .ok (.aload_n 0, 1) := by decide +kernel
theorem dX7_init_1 : decode cX7_init 1 = .ok (.invokespecial 3, 3) := by decide +kernel
theorem dX7_init_4 : decode cX7_init 4 = .ok (.aload_n 0, 1) := by decide +kernel
theorem dX7_init_5 : decode cX7_init 5 = .ok (.new 9, 3) := by decide +kernel
theorem dX7_init_8 : decode cX7_init 8 = .ok (.dup, 1) := by decide +kernel
theorem dX7_init_9 : decode cX7_init 9 = .ok (.invokespecial 11, 3) := by decide +kernel
theorem dX7_init_12 : decode cX7_init 12 = .ok (.putfield 12, 3) := by decide +kernel
theorem dX7_init_15 : decode cX7_init 15 = .ok (.aload_n 0, 1) := by decide +kernel
theorem dX7_init_16 : decode cX7_init 16 = .ok (.iconst 4, 1) := by decide +kernel
theorem dX7_init_17 : decode cX7_init 17 = .ok (.anewarray 18, 3) := by decide +kernel
theorem dX7_init_20 : decode cX7_init 20 = .ok (.putfield 20, 3) := by decide +kernel
theorem dX7_init_23 : decode cX7_init 23 = .ok (.aload_n 0, 1) := by decide +kernel
theorem dX7_init_24 : decode cX7_init 24 = .ok (.aload_n 1, 1) := by decide +kernel
theorem dX7_init_25 : decode cX7_init 25 = .ok (.putfield 24, 3) := by decide +kernel
theorem dX7_init_28 : decode cX7_init 28 = .ok (.aload_n 0, 1) := by decide +kernel
theorem dX7_init_29 : decode cX7_init 29 = .ok (.aload_n 2, 1) := by decide +kernel
theorem dX7_init_30 : decode cX7_init 30 = .ok (.putfield 28, 3) := by decide +kernel
theorem dX7_init_33 : decode cX7_init 33 = .ok (.aload_n 0, 1) := by decide +kernel
theorem dX7_init_34 : decode cX7_init 34 = .ok (.aload_n 3, 1) := by decide +kernel
theorem dX7_init_35 : decode cX7_init 35 = .ok (.putfield 32, 3) := by decide +kernel
theorem dX7_init_38 : decode cX7_init 38 = .ok (.return_, 1) := by decide +kernel
theorem hcX7_init : yX7_init.cls ≠ "java/lang/invoke/MethodHandle" ∧ yX7_init.cls ≠ "java/lang/invoke/VarHandle" ∧ (parseMethodDescriptor yX7_init.desc).map (fun d => d.parameters.length) = some 3 := ⟨by decide +kernel, by decide +kernel, by decide +kernel⟩
def fX7_init_A (La : sg_L) (s0 : sg_M) (o : Int) (o1 : Int) (o2 : Int) (o3 : Int) (Q : sg_L → sg_M → Prop) : Prop := ∀ (q1 : Nat) (La2 : sg_L), La2 = sg_pu La 22 q1 → ∀ s3 : sg_M, s3 = sg_nw s0 La.1 22 → ∀ o4 : Int, o4 = (La.1 : Int) → fX2_init La2 s3 o4 (fun La16 s17 => ∀ s25 : sg_M, s25 = sg_up s17 o 3 o4 → ∀ (q27 : Nat) (La28 : sg_L), La28 = sg_pu La16 30004 q27 → ∀ s29 : sg_M, s29 = sg_nw s25 La16.1 30004 → ∀ o30 : Int, o30 = (La16.1 : Int) → ∀ s42 : sg_M, s42 = sg_up s29 o 4 o30 → ∀ s44 : sg_M, s44 = sg_up s42 o 0 o1 → ∀ s46 : sg_M, s46 = sg_up s44 o 1 o2 → ∀ s48 : sg_M, s48 = sg_up s46 o 2 o3 → sg_sealed La28 s48 o 47 27 ∧ ∀ La50 : sg_L, La50 = sg_se La28 o.toNat 27 → Q La50 s48)
set_option maxHeartbeats 4000000 in
set_option maxRecDepth 100000 in
theorem CX7_init_A {l : Launch} {G : sg_G} {La : sg_L} {s0 : sg_M} {o : Int} (to : sg_O La o 47) {o1 : Int} (t1 : sg_O La o1 1) {o2 : Int} (t2 : sg_O La o2 3) {o3 : Int} (t3 : sg_O La o3 5) {Q : sg_L → sg_M → Prop} (hf : fX7_init_A La s0 o o1 o2 o3 Q) : sg_C l G yX7_init cX7_init 4 (none) 3 6 413 La s0 [sg_r o, sg_r o1, sg_r o2, sg_r o3] (sg_BV (sg_se La o.toNat 27) Q) := by
  refine sg_body (by decide +kernel) (Nat.le_of_ble_eq_true rfl) ?_
  intro p e s m args below meth c F hnm
  unfold fX7_init_A at hf
  show sg_W p l e (sg_rm 3 6 413) s m args below meth c (MQ below (sg_Q (none) G La s.heap.size (sg_BV (sg_se La o.toNat 27) Q)) args s 6 413 (sg_A La s.heap.size)) 4 G (sg_A La s.heap.size) La s0 0 0 0 [(0, sg_r o), (1, sg_r o1), (2, sg_r o2), (3, sg_r o3)] []
  have hin : meth.name = "<init>" := hnm
  refine gw_aload_n F 0 rfl rfl to.1 dX7_init_0 ?_
  refine gw_objInit F to.1 kw_215 kw_OI kw_OC (Nat.le_of_ble_eq_true rfl) (by decide) (by decide) dX7_init_1 ?_
  refine gw_aload_n F 0 rfl rfl to.1 dX7_init_4 ?_
  refine gy_new F (kd := 22) (T := TX2) (by decide) rfl sg_lay_RX2 tyX2_ok kw_216 kw_217 kw_99 ns_X2 nf_X2 nr_X2 (by decide) (by decide) (List.forall_mem_cons.mpr ⟨(Or.inl to.2.1), (List.forall_mem_cons.mpr ⟨(Or.inl t1.2.1), (List.forall_mem_cons.mpr ⟨(Or.inl t2.2.1), (List.forall_mem_cons.mpr ⟨(Or.inl t3.2.1), (fun _ h => absurd h List.not_mem_nil)⟩)⟩)⟩)⟩) (List.forall_mem_cons.mpr ⟨(Or.inl to.2.1), (fun _ h => absurd h List.not_mem_nil)⟩) dX7_init_5 (fun q1 La2 s3 o4 e5 e6 e7 t8 hX9 => ?_)
  have hf := hf q1 La2 e5 s3 e6 o4 e7
  have hn10 : La.1 ≤ o4.toNat := by rw [e7, Int.toNat_natCast]; exact (sg_X.rf : sg_X La La).1
  have t11 := to.X hX9
  have t12 := t1.X hX9
  have t13 := t2.X hX9
  have t14 := t3.X hX9
  have hX15 := sg_X.tr (sg_X.rf) hX9
  refine gw_dup F rfl dX7_init_8 ?_
  refine gk_BV F (gc_IN F (S := [sg_r o4, sg_r o]) (As := []) (CX2_init t8 hf) t8.1 kw_220 kw_99 kw_218 kw_219 rfl hcX2_init ⟨by decide, by decide⟩ rfl rfl (Nat.le_of_ble_eq_true rfl) ⟨by decide, by decide⟩ dX7_init_9) (List.forall_mem_cons.mpr ⟨(Or.inl t11.2.1), (List.forall_mem_cons.mpr ⟨(Or.inl t12.2.1), (List.forall_mem_cons.mpr ⟨(Or.inl t13.2.1), (List.forall_mem_cons.mpr ⟨(Or.inl t14.2.1), (fun _ h => absurd h List.not_mem_nil)⟩)⟩)⟩)⟩) (List.forall_mem_cons.mpr ⟨(Or.inl t8.2.1), (List.forall_mem_cons.mpr ⟨(Or.inl t11.2.1), (fun _ h => absurd h List.not_mem_nil)⟩)⟩) (fun La16 s17 hX18 hf => ?_)
  have t19 := (sg_O_sx t11 t8 (by decide)).X hX18
  have t20 := (sg_O_sx t12 t8 (by decide)).X hX18
  have t21 := (sg_O_sx t13 t8 (by decide)).X hX18
  have t22 := (sg_O_sx t14 t8 (by decide)).X hX18
  have t23 := (sg_O_sealed t8).X hX18
  have hX24 := (sg_X_sx (hX15) hn10).tr hX18
  obtain ⟨s25, e26⟩ : ∃ z : sg_M, z = sg_up s17 o 3 o4 := ⟨_, rfl⟩
  have hf := hf s25 e26
  refine gw_put5F F t19 (by decide) rfl sg_lay_RX7 (j := 3) (by decide) (D0 := tyX7 3) (fun _ => ⟨rfl, rfl⟩) t23.1 t23.2.1 e26 tyX7_ok nmX7 rfl hin rfl (tyX7_ok 3 (by decide)) rfl (host := "") kw_239 dX7_init_12 ?_
  refine gw_aload_n F 0 rfl rfl t19.1 dX7_init_15 ?_
  refine gw_iconst F dX7_init_16 ?_
  refine gy_newB F (N := 4) kw_231 (F.2.2.2.2.2.2.2.2.2.1 _ kw_232) rfl (by decide) (by decide) (by decide) (List.forall_mem_cons.mpr ⟨(Or.inl t19.2.1), (List.forall_mem_cons.mpr ⟨(Or.inl t20.2.1), (List.forall_mem_cons.mpr ⟨(Or.inl t21.2.1), (List.forall_mem_cons.mpr ⟨(Or.inl t22.2.1), (fun _ h => absurd h List.not_mem_nil)⟩)⟩)⟩)⟩) (List.forall_mem_cons.mpr ⟨(Or.inl t19.2.1), (fun _ h => absurd h List.not_mem_nil)⟩) dX7_init_17 (fun q27 La28 s29 o30 e31 e32 e33 t34 hX35 => ?_)
  have hf := hf q27 La28 e31 s29 e32 o30 e33
  have hn36 : La.1 ≤ o30.toNat := by rw [e33, Int.toNat_natCast]; exact (hX24 : sg_X La La16).1
  have t37 := t19.X hX35
  have t38 := t20.X hX35
  have t39 := t21.X hX35
  have t40 := t22.X hX35
  have hX41 := sg_X.tr (hX24) hX35
  obtain ⟨s42, e43⟩ : ∃ z : sg_M, z = sg_up s29 o 4 o30 := ⟨_, rfl⟩
  have hf := hf s42 e43
  refine gw_put5F F t37 (by decide) rfl sg_lay_RX7 (j := 4) (by decide) (D0 := tyX7 4) (fun _ => ⟨rfl, rfl⟩) t34.1 t34.2.1 e43 tyX7_ok nmX7 rfl hin rfl (tyX7_ok 4 (by decide)) rfl (host := "") kw_241 dX7_init_20 ?_
  refine gw_aload_n F 0 rfl rfl t37.1 dX7_init_23 ?_
  refine gw_aload_n F 1 rfl rfl t38.1 dX7_init_24 ?_
  obtain ⟨s44, e45⟩ : ∃ z : sg_M, z = sg_up s42 o 0 o1 := ⟨_, rfl⟩
  have hf := hf s44 e45
  refine gw_put5 F t37 (by decide) rfl sg_lay_RX7 (j := 0) (by decide) (D0 := tyX7 0) (fun _ => ⟨rfl, rfl⟩) t38.1 t38.2.1 e45 tyX7_ok nmX7 rfl (tyX7_ok 0 (by decide)) rfl (host := "") (.inl kw_233) dX7_init_25 ?_
  refine gw_aload_n F 0 rfl rfl t37.1 dX7_init_28 ?_
  refine gw_aload_n F 2 rfl rfl t39.1 dX7_init_29 ?_
  obtain ⟨s46, e47⟩ : ∃ z : sg_M, z = sg_up s44 o 1 o2 := ⟨_, rfl⟩
  have hf := hf s46 e47
  refine gw_put5 F t37 (by decide) rfl sg_lay_RX7 (j := 1) (by decide) (D0 := tyX7 1) (fun _ => ⟨rfl, rfl⟩) t39.1 t39.2.1 e47 tyX7_ok nmX7 rfl (tyX7_ok 1 (by decide)) rfl (host := "") (.inl kw_235) dX7_init_30 ?_
  refine gw_aload_n F 0 rfl rfl t37.1 dX7_init_33 ?_
  refine gw_aload_n F 3 rfl rfl t40.1 dX7_init_34 ?_
  obtain ⟨s48, e49⟩ : ∃ z : sg_M, z = sg_up s46 o 2 o3 := ⟨_, rfl⟩
  have hf := hf s48 e49
  refine gw_put5 F t37 (by decide) rfl sg_lay_RX7 (j := 2) (by decide) (D0 := tyX7 2) (fun _ => ⟨rfl, rfl⟩) t40.1 t40.2.1 e49 tyX7_ok nmX7 rfl (tyX7_ok 2 (by decide)) rfl (host := "") (.inl kw_237) dX7_init_35 ?_
  obtain ⟨g51, hf⟩ := hf
  obtain ⟨La50, e52⟩ : ∃ z : sg_L, z = sg_se La28 o.toNat 27 := ⟨_, rfl⟩
  have hf := hf La50 e52
  refine gw_seal t37 ⟨by decide, by decide, by decide⟩ (by decide) (by decide) g51.1 g51.2 ?_
  rw [← e52]
  exact gr_BC F hf (e52 ▸ (sg_X.both hX41)) (by decide) (by decide) dX7_init_38

def fX7_init_B (La : sg_L) (s0 : sg_M) (o : Int) (o1 : Int) (o2 : Int) (o3 : Int) (Q : sg_L → sg_M → Prop) : Prop := ∀ (q1 : Nat) (La2 : sg_L), La2 = sg_pu La 22 q1 → ∀ s3 : sg_M, s3 = sg_nw s0 La.1 22 → ∀ o4 : Int, o4 = (La.1 : Int) → fX2_init La2 s3 o4 (fun La16 s17 => ∀ s25 : sg_M, s25 = sg_up s17 o 3 o4 → ∀ (q27 : Nat) (La28 : sg_L), La28 = sg_pu La16 30004 q27 → ∀ s29 : sg_M, s29 = sg_nw s25 La16.1 30004 → ∀ o30 : Int, o30 = (La16.1 : Int) → ∀ s42 : sg_M, s42 = sg_up s29 o 4 o30 → ∀ s44 : sg_M, s44 = sg_up s42 o 0 o1 → ∀ s46 : sg_M, s46 = sg_up s44 o 1 o2 → ∀ s48 : sg_M, s48 = sg_up s46 o 2 o3 → sg_sealed La28 s48 o 47 7 ∧ ∀ La50 : sg_L, La50 = sg_se La28 o.toNat 7 → Q La50 s48)
set_option maxHeartbeats 4000000 in
set_option maxRecDepth 100000 in
theorem CX7_init_B {l : Launch} {G : sg_G} {La : sg_L} {s0 : sg_M} {o : Int} (to : sg_O La o 47) {o1 : Int} (t1 : sg_O La o1 1) {o2 : Int} (t2 : sg_O La o2 3) {o3 : Int} (t3 : sg_O La o3 5) {Q : sg_L → sg_M → Prop} (hf : fX7_init_B La s0 o o1 o2 o3 Q) : sg_C l G yX7_init cX7_init 4 (none) 3 6 413 La s0 [sg_r o, sg_r o1, sg_r o2, sg_r o3] (sg_BV (sg_se La o.toNat 7) Q) := by
  refine sg_body (by decide +kernel) (Nat.le_of_ble_eq_true rfl) ?_
  intro p e s m args below meth c F hnm
  unfold fX7_init_B at hf
  show sg_W p l e (sg_rm 3 6 413) s m args below meth c (MQ below (sg_Q (none) G La s.heap.size (sg_BV (sg_se La o.toNat 7) Q)) args s 6 413 (sg_A La s.heap.size)) 4 G (sg_A La s.heap.size) La s0 0 0 0 [(0, sg_r o), (1, sg_r o1), (2, sg_r o2), (3, sg_r o3)] []
  have hin : meth.name = "<init>" := hnm
  refine gw_aload_n F 0 rfl rfl to.1 dX7_init_0 ?_
  refine gw_objInit F to.1 kw_215 kw_OI kw_OC (Nat.le_of_ble_eq_true rfl) (by decide) (by decide) dX7_init_1 ?_
  refine gw_aload_n F 0 rfl rfl to.1 dX7_init_4 ?_
  refine gy_new F (kd := 22) (T := TX2) (by decide) rfl sg_lay_RX2 tyX2_ok kw_216 kw_217 kw_99 ns_X2 nf_X2 nr_X2 (by decide) (by decide) (List.forall_mem_cons.mpr ⟨(Or.inl to.2.1), (List.forall_mem_cons.mpr ⟨(Or.inl t1.2.1), (List.forall_mem_cons.mpr ⟨(Or.inl t2.2.1), (List.forall_mem_cons.mpr ⟨(Or.inl t3.2.1), (fun _ h => absurd h List.not_mem_nil)⟩)⟩)⟩)⟩) (List.forall_mem_cons.mpr ⟨(Or.inl to.2.1), (fun _ h => absurd h List.not_mem_nil)⟩) dX7_init_5 (fun q1 La2 s3 o4 e5 e6 e7 t8 hX9 => ?_)
  have hf := hf q1 La2 e5 s3 e6 o4 e7
  have hn10 : La.1 ≤ o4.toNat := by rw [e7, Int.toNat_natCast]; exact (sg_X.rf : sg_X La La).1
  have t11 := to.X hX9
  have t12 := t1.X hX9
  have t13 := t2.X hX9
  have t14 := t3.X hX9
  have hX15 := sg_X.tr (sg_X.rf) hX9
  refine gw_dup F rfl dX7_init_8 ?_
  refine gk_BV F (gc_IN F (S := [sg_r o4, sg_r o]) (As := []) (CX2_init t8 hf) t8.1 kw_220 kw_99 kw_218 kw_219 rfl hcX2_init ⟨by decide, by decide⟩ rfl rfl (Nat.le_of_ble_eq_true rfl) ⟨by decide, by decide⟩ dX7_init_9) (List.forall_mem_cons.mpr ⟨(Or.inl t11.2.1), (List.forall_mem_cons.mpr ⟨(Or.inl t12.2.1), (List.forall_mem_cons.mpr ⟨(Or.inl t13.2.1), (List.forall_mem_cons.mpr ⟨(Or.inl t14.2.1), (fun _ h => absurd h List.not_mem_nil)⟩)⟩)⟩)⟩) (List.forall_mem_cons.mpr ⟨(Or.inl t8.2.1), (List.forall_mem_cons.mpr ⟨(Or.inl t11.2.1), (fun _ h => absurd h List.not_mem_nil)⟩)⟩) (fun La16 s17 hX18 hf => ?_)
  have t19 := (sg_O_sx t11 t8 (by decide)).X hX18
  have t20 := (sg_O_sx t12 t8 (by decide)).X hX18
  have t21 := (sg_O_sx t13 t8 (by decide)).X hX18
  have t22 := (sg_O_sx t14 t8 (by decide)).X hX18
  have t23 := (sg_O_sealed t8).X hX18
  have hX24 := (sg_X_sx (hX15) hn10).tr hX18
  obtain ⟨s25, e26⟩ : ∃ z : sg_M, z = sg_up s17 o 3 o4 := ⟨_, rfl⟩
  have hf := hf s25 e26
  refine gw_put5F F t19 (by decide) rfl sg_lay_RX7 (j := 3) (by decide) (D0 := tyX7 3) (fun _ => ⟨rfl, rfl⟩) t23.1 t23.2.1 e26 tyX7_ok nmX7 rfl hin rfl (tyX7_ok 3 (by decide)) rfl (host := "") kw_239 dX7_init_12 ?_
  refine gw_aload_n F 0 rfl rfl t19.1 dX7_init_15 ?_
  refine gw_iconst F dX7_init_16 ?_
  refine gy_newB F (N := 4) kw_231 (F.2.2.2.2.2.2.2.2.2.1 _ kw_232) rfl (by decide) (by decide) (by decide) (List.forall_mem_cons.mpr ⟨(Or.inl t19.2.1), (List.forall_mem_cons.mpr ⟨(Or.inl t20.2.1), (List.forall_mem_cons.mpr ⟨(Or.inl t21.2.1), (List.forall_mem_cons.mpr ⟨(Or.inl t22.2.1), (fun _ h => absurd h List.not_mem_nil)⟩)⟩)⟩)⟩) (List.forall_mem_cons.mpr ⟨(Or.inl t19.2.1), (fun _ h => absurd h List.not_mem_nil)⟩) dX7_init_17 (fun q27 La28 s29 o30 e31 e32 e33 t34 hX35 => ?_)
  have hf := hf q27 La28 e31 s29 e32 o30 e33
  have hn36 : La.1 ≤ o30.toNat := by rw [e33, Int.toNat_natCast]; exact (hX24 : sg_X La La16).1
  have t37 := t19.X hX35
  have t38 := t20.X hX35
  have t39 := t21.X hX35
  have t40 := t22.X hX35
  have hX41 := sg_X.tr (hX24) hX35
  obtain ⟨s42, e43⟩ : ∃ z : sg_M, z = sg_up s29 o 4 o30 := ⟨_, rfl⟩
  have hf := hf s42 e43
  refine gw_put5F F t37 (by decide) rfl sg_lay_RX7 (j := 4) (by decide) (D0 := tyX7 4) (fun _ => ⟨rfl, rfl⟩) t34.1 t34.2.1 e43 tyX7_ok nmX7 rfl hin rfl (tyX7_ok 4 (by decide)) rfl (host := "") kw_241 dX7_init_20 ?_
  refine gw_aload_n F 0 rfl rfl t37.1 dX7_init_23 ?_
  refine gw_aload_n F 1 rfl rfl t38.1 dX7_init_24 ?_
  obtain ⟨s44, e45⟩ : ∃ z : sg_M, z = sg_up s42 o 0 o1 := ⟨_, rfl⟩
  have hf := hf s44 e45
  refine gw_put5 F t37 (by decide) rfl sg_lay_RX7 (j := 0) (by decide) (D0 := tyX7 0) (fun _ => ⟨rfl, rfl⟩) t38.1 t38.2.1 e45 tyX7_ok nmX7 rfl (tyX7_ok 0 (by decide)) rfl (host := "") (.inl kw_233) dX7_init_25 ?_
  refine gw_aload_n F 0 rfl rfl t37.1 dX7_init_28 ?_
  refine gw_aload_n F 2 rfl rfl t39.1 dX7_init_29 ?_
  obtain ⟨s46, e47⟩ : ∃ z : sg_M, z = sg_up s44 o 1 o2 := ⟨_, rfl⟩
  have hf := hf s46 e47
  refine gw_put5 F t37 (by decide) rfl sg_lay_RX7 (j := 1) (by decide) (D0 := tyX7 1) (fun _ => ⟨rfl, rfl⟩) t39.1 t39.2.1 e47 tyX7_ok nmX7 rfl (tyX7_ok 1 (by decide)) rfl (host := "") (.inl kw_235) dX7_init_30 ?_
  refine gw_aload_n F 0 rfl rfl t37.1 dX7_init_33 ?_
  refine gw_aload_n F 3 rfl rfl t40.1 dX7_init_34 ?_
  obtain ⟨s48, e49⟩ : ∃ z : sg_M, z = sg_up s46 o 2 o3 := ⟨_, rfl⟩
  have hf := hf s48 e49
  refine gw_put5 F t37 (by decide) rfl sg_lay_RX7 (j := 2) (by decide) (D0 := tyX7 2) (fun _ => ⟨rfl, rfl⟩) t40.1 t40.2.1 e49 tyX7_ok nmX7 rfl (tyX7_ok 2 (by decide)) rfl (host := "") (.inl kw_237) dX7_init_35 ?_
  obtain ⟨g51, hf⟩ := hf
  obtain ⟨La50, e52⟩ : ∃ z : sg_L, z = sg_se La28 o.toNat 7 := ⟨_, rfl⟩
  have hf := hf La50 e52
  refine gw_seal t37 ⟨by decide, by decide, by decide⟩ (by decide) (by decide) g51.1 g51.2 ?_
  rw [← e52]
  exact gr_BC F hf (e52 ▸ (sg_X.both hX41)) (by decide) (by decide) dX7_init_38

theorem dX8_init_0 : decode cX8_init 0 = .ok (.aload_n 0, 1) := by decide +kernel
theorem dX8_init_1 : decode cX8_init 1 = .ok (.invokespecial 3, 3) := by decide +kernel
theorem dX8_init_4 : decode cX8_init 4 = .ok (.aload_n 0, 1) := by decide +kernel
theorem dX8_init_5 : decode cX8_init 5 = .ok (.sipush 540, 3) := by decide +kernel
theorem dX8_init_8 : decode cX8_init 8 = .ok (.newarray .int, 2) := by decide +kernel
theorem dX8_init_10 : decode cX8_init 10 = .ok (.putfield 9, 3) := by decide +kernel
theorem dX8_init_13 : decode cX8_init 13 = .ok (.aload_n 0, 1) := by decide +kernel
theorem dX8_init_14 : decode cX8_init 14 = .ok (.iconst 0, 1) := by decide +kernel
theorem dX8_init_15 : decode cX8_init 15 = .ok (.putfield 15, 3) := by decide +kernel
theorem dX8_init_18 : decode cX8_init 18 = .ok (.return_, 1) := by decide +kernel
theorem hcX8_init : yX8_init.cls ≠ "java/lang/invoke/MethodHandle" ∧ yX8_init.cls ≠ "java/lang/invoke/VarHandle" ∧ (parseMethodDescriptor yX8_init.desc).map (fun d => d.parameters.length) = some 0 := ⟨by decide +kernel, by decide +kernel, by decide +kernel⟩
def fX8_init (La : sg_L) (s0 : sg_M) (o : Int) (Q : sg_L → sg_M → Prop) : Prop := ∀ (q1 : Nat) (La2 : sg_L), La2 = sg_pu La 10540 q1 → ∀ s3 : sg_M, s3 = sg_nw s0 La.1 10540 → ∀ o4 : Int, o4 = (La.1 : Int) → ∀ s14 : sg_M, s14 = sg_up s3 o 0 o4 → ∀ s16 : sg_M, s16 = sg_up s14 o 1 0 → sg_sealed La2 s16 o 28 8 ∧ ∀ La18 : sg_L, La18 = sg_se La2 o.toNat 8 → Q La18 s16
set_option maxHeartbeats 4000000 in
set_option maxRecDepth 100000 in
theorem CX8_init {l : Launch} {G : sg_G} {La : sg_L} {s0 : sg_M} {o : Int} (to : sg_O La o 28) {Q : sg_L → sg_M → Prop} (hf : fX8_init La s0 o Q) : sg_C l G yX8_init cX8_init 1 (none) 1 1 540 La s0 [sg_r o] (sg_BV (sg_se La o.toNat 8) Q) := by
  refine sg_body (by decide +kernel) (Nat.le_of_ble_eq_true rfl) ?_
  intro p e s m args below meth c F hnm
  unfold fX8_init at hf
  show sg_W p l e (sg_rm 1 1 540) s m args below meth c (MQ below (sg_Q (none) G La s.heap.size (sg_BV (sg_se La o.toNat 8) Q)) args s 1 540 (sg_A La s.heap.size)) 1 G (sg_A La s.heap.size) La s0 0 0 0 [(0, sg_r o)] []
  have hin : meth.name = "<init>" := hnm
  refine gw_aload_n F 0 rfl rfl to.1 dX8_init_0 ?_
  refine gw_objInit F to.1 kw_125 kw_OI kw_OC (Nat.le_of_ble_eq_true rfl) (by decide) (by decide) dX8_init_1 ?_
  refine gw_aload_n F 0 rfl rfl to.1 dX8_init_4 ?_
  refine gw_sipush F rfl dX8_init_5 ?_
  refine gy_newI F (N := 540) kw_131 rfl (by decide) (by decide) (by decide) (List.forall_mem_cons.mpr ⟨(Or.inl to.2.1), (fun _ h => absurd h List.not_mem_nil)⟩) (List.forall_mem_cons.mpr ⟨(Or.inl to.2.1), (fun _ h => absurd h List.not_mem_nil)⟩) dX8_init_8 (fun q1 La2 s3 o4 e5 e6 e7 t8 hX9 => ?_)
  have hf := hf q1 La2 e5 s3 e6 o4 e7
  have hn10 : La.1 ≤ o4.toNat := by rw [e7, Int.toNat_natCast]; exact (sg_X.rf : sg_X La La).1
  have t11 := to.X hX9
  have hX12 := sg_X.tr (sg_X.rf) hX9
  have t13 := sg_AN_of (n := 540) t8 (by decide) (by decide) (by decide)
  obtain ⟨s14, e15⟩ : ∃ z : sg_M, z = sg_up s3 o 0 o4 := ⟨_, rfl⟩
  have hf := hf s14 e15
  refine gw_put5F F t11 (by decide) rfl sg_lay_RX8 (j := 0) (by decide) (D0 := tyX8 0) (fun _ => ⟨rfl, rfl⟩) t13.1 t13.2.1 e15 tyX8_ok nmX8 rfl hin rfl (tyX8_ok 0 (by decide)) rfl (host := "") kw_126 dX8_init_10 ?_
  refine gw_aload_n F 0 rfl rfl t11.1 dX8_init_13 ?_
  refine gw_iconst F dX8_init_14 ?_
  obtain ⟨s16, e17⟩ : ∃ z : sg_M, z = sg_up s14 o 1 0 := ⟨_, rfl⟩
  have hf := hf s16 e17
  refine gw_put0 F t11 (by decide) rfl sg_lay_RX8 (j := 1) (by decide) (by decide) e17 tyX8_ok nmX8 rfl (tyX8_ok 1 (by decide)) rfl (host := "") (.inl kw_127) dX8_init_15 ?_
  obtain ⟨g19, hf⟩ := hf
  obtain ⟨La18, e20⟩ : ∃ z : sg_L, z = sg_se La2 o.toNat 8 := ⟨_, rfl⟩
  have hf := hf La18 e20
  refine gw_seal t11 ⟨by decide, by decide, by decide⟩ (by decide) (by decide) g19.1 g19.2 ?_
  rw [← e20]
  exact gr_BC F hf (e20 ▸ (sg_X.both hX12)) (by decide) (by decide) dX8_init_18

theorem dX9_init_0 : decode cX9_init 0 = .ok (.aload_n 0, 1) := by decide +kernel
theorem dX9_init_1 : decode cX9_init 1 = .ok (.invokespecial 1, 3) := by decide +kernel
theorem dX9_init_4 : decode cX9_init 4 = .ok (.aload_n 0, 1) := by decide +kernel
theorem dX9_init_5 : decode cX9_init 5 = .ok (.iconst 0, 1) := by decide +kernel
theorem dX9_init_6 : decode cX9_init 6 = .ok (.putfield 7, 3) := by decide +kernel
theorem dX9_init_9 : decode cX9_init 9 = .ok (.aload_n 0, 1) := by decide +kernel
theorem dX9_init_10 : decode cX9_init 10 = .ok (.iconst 0, 1) := by decide +kernel
theorem dX9_init_11 : decode cX9_init 11 = .ok (.putfield 13, 3) := by decide +kernel
theorem dX9_init_14 : decode cX9_init 14 = .ok (.aload_n 0, 1) := by decide +kernel
theorem dX9_init_15 : decode cX9_init 15 = .ok (.iconst 0, 1) := by decide +kernel
theorem dX9_init_16 : decode cX9_init 16 = .ok (.putfield 16, 3) := by decide +kernel
theorem dX9_init_19 : decode cX9_init 19 = .ok (.aload_n 0, 1) := by decide +kernel
theorem dX9_init_20 : decode cX9_init 20 = .ok (.iconst 0, 1) := by decide +kernel
theorem dX9_init_21 : decode cX9_init 21 = .ok (.putfield 19, 3) := by decide +kernel
theorem dX9_init_24 : decode cX9_init 24 = .ok (.aload_n 0, 1) := by decide +kernel
theorem dX9_init_25 : decode cX9_init 25 = .ok (.iconst 0, 1) := by decide +kernel
theorem dX9_init_26 : decode cX9_init 26 = .ok (.putfield 22, 3) := by decide +kernel
theorem dX9_init_29 : decode cX9_init 29 = .ok (.aload_n 0, 1) := by decide +kernel
theorem dX9_init_30 : decode cX9_init 30 = .ok (.iconst 0, 1) := by decide +kernel
theorem dX9_init_31 : decode cX9_init 31 = .ok (.putfield 25, 3) := by decide +kernel
theorem dX9_init_34 : decode cX9_init 34 = .ok (.aload_n 0, 1) := by decide +kernel
theorem dX9_init_35 : decode cX9_init 35 = .ok (.iconst 0, 1) := by decide +kernel
theorem dX9_init_36 : decode cX9_init 36 = .ok (.putfield 28, 3) := by decide +kernel
theorem dX9_init_39 : decode cX9_init 39 = .ok (.aload_n 0, 1) := by decide +kernel
theorem dX9_init_40 : decode cX9_init 40 = .ok (.aload_n 1, 1) := by decide +kernel
theorem dX9_init_41 : decode cX9_init 41 = .ok (.putfield 31, 3) := by decide +kernel
theorem dX9_init_44 : decode cX9_init 44 = .ok (.return_, 1) := by decide +kernel
theorem hcX9_init : yX9_init.cls ≠ "java/lang/invoke/MethodHandle" ∧ yX9_init.cls ≠ "java/lang/invoke/VarHandle" ∧ (parseMethodDescriptor yX9_init.desc).map (fun d => d.parameters.length) = some 1 := ⟨by decide +kernel, by decide +kernel, by decide +kernel⟩
def fX9_init (s0 : sg_M) (o : Int) (o1 : Int) (Q : sg_M → Prop) : Prop := ∀ s1 : sg_M, s1 = sg_up s0 o 1 0 → ∀ s3 : sg_M, s3 = sg_up s1 o 2 0 → ∀ s5 : sg_M, s5 = sg_up s3 o 3 0 → ∀ s7 : sg_M, s7 = sg_up s5 o 4 0 → ∀ s9 : sg_M, s9 = sg_up s7 o 5 0 → ∀ s11 : sg_M, s11 = sg_up s9 o 6 0 → ∀ s13 : sg_M, s13 = sg_up s11 o 7 0 → ∀ s15 : sg_M, s15 = sg_up s13 o 0 o1 → sg_sealed La s15 o 29 9 ∧ ∀ La17 : sg_L, La17 = sg_se La o.toNat 9 → Q La17 s15
set_option maxHeartbeats 4000000 in
set_option maxRecDepth 100000 in
theorem CX9_init {l : Launch} {G : sg_G} {La : sg_L} {s0 : sg_M} (hst : sg_St La) {o : Int} (to : sg_O La o 29) {o1 : Int} (t1 : sg_O La o1 8) {Q : sg_M → Prop} (hf : fX9_init s0 o o1 Q) : sg_C l G yX9_init cX9_init 2 (none) 1 0 0 La s0 [sg_r o, sg_r o1] (sg_HV La Q) := by
  refine sg_body (by decide +kernel) (Nat.le_of_ble_eq_true rfl) ?_
  intro p e s m args below meth c F hnm
  unfold fX9_init at hf
  show sg_W p l e (sg_rm 1 0 0) s m args below meth c (MQ below (sg_Q (none) G La s.heap.size (sg_HV La Q)) args s 0 0 (sg_A La s.heap.size)) 2 G (sg_A La s.heap.size) La s0 0 0 0 [(0, sg_r o), (1, sg_r o1)] []
  have hin : meth.name = "<init>" := hnm
  refine gw_aload_n F 0 rfl rfl to.1 dX9_init_0 ?_
  refine gw_objInit F to.1 kw_137 kw_OI kw_OC (Nat.le_of_ble_eq_true rfl) (by decide) (by decide) dX9_init_1 ?_
  refine gw_aload_n F 0 rfl rfl to.1 dX9_init_4 ?_
  refine gw_iconst F dX9_init_5 ?_
  obtain ⟨s1, e2⟩ : ∃ z : sg_M, z = sg_up s0 o 1 0 := ⟨_, rfl⟩
  have hf := hf s1 e2
  refine gw_put0 F to (by decide) rfl sg_lay_RX9 (j := 1) (by decide) (by decide) e2 tyX9_ok nmX9 rfl (tyX9_ok 1 (by decide)) rfl (host := "") (.inl kw_139) dX9_init_6 ?_
  refine gw_aload_n F 0 rfl rfl to.1 dX9_init_9 ?_
  refine gw_iconst F dX9_init_10 ?_
  obtain ⟨s3, e4⟩ : ∃ z : sg_M, z = sg_up s1 o 2 0 := ⟨_, rfl⟩
  have hf := hf s3 e4
  refine gw_put0 F to (by decide) rfl sg_lay_RX9 (j := 2) (by decide) (by decide) e4 tyX9_ok nmX9 rfl (tyX9_ok 2 (by decide)) rfl (host := "") (.inl kw_140) dX9_init_11 ?_
  refine gw_aload_n F 0 rfl rfl to.1 dX9_init_14 ?_
  refine gw_iconst F dX9_init_15 ?_
  obtain ⟨s5, e6⟩ : ∃ z : sg_M, z = sg_up s3 o 3 0 := ⟨_, rfl⟩
  have hf := hf s5 e6
  refine gw_put0 F to (by decide) rfl sg_lay_RX9 (j := 3) (by decide) (by decide) e6 tyX9_ok nmX9 rfl (tyX9_ok 3 (by decide)) rfl (host := "") (.inl kw_141) dX9_init_16 ?_
  refine gw_aload_n F 0 rfl rfl to.1 dX9_init_19 ?_
  refine gw_iconst F dX9_init_20 ?_
  obtain ⟨s7, e8⟩ : ∃ z : sg_M, z = sg_up s5 o 4 0 := ⟨_, rfl⟩
  have hf := hf s7 e8
  refine gw_put0 F to (by decide) rfl sg_lay_RX9 (j := 4) (by decide) (by decide) e8 tyX9_ok nmX9 rfl (tyX9_ok 4 (by decide)) rfl (host := "") (.inl kw_142) dX9_init_21 ?_
  refine gw_aload_n F 0 rfl rfl to.1 dX9_init_24 ?_
  refine gw_iconst F dX9_init_25 ?_
  obtain ⟨s9, e10⟩ : ∃ z : sg_M, z = sg_up s7 o 5 0 := ⟨_, rfl⟩
  have hf := hf s9 e10
  refine gw_put0 F to (by decide) rfl sg_lay_RX9 (j := 5) (by decide) (by decide) e10 tyX9_ok nmX9 rfl (tyX9_ok 5 (by decide)) rfl (host := "") (.inl kw_143) dX9_init_26 ?_
  refine gw_aload_n F 0 rfl rfl to.1 dX9_init_29 ?_
  refine gw_iconst F dX9_init_30 ?_
  obtain ⟨s11, e12⟩ : ∃ z : sg_M, z = sg_up s9 o 6 0 := ⟨_, rfl⟩
  have hf := hf s11 e12
  refine gw_put0 F to (by decide) rfl sg_lay_RX9 (j := 6) (by decide) (by decide) e12 tyX9_ok nmX9 rfl (tyX9_ok 6 (by decide)) rfl (host := "") (.inl kw_144) dX9_init_31 ?_
  refine gw_aload_n F 0 rfl rfl to.1 dX9_init_34 ?_
  refine gw_iconst F dX9_init_35 ?_
  obtain ⟨s13, e14⟩ : ∃ z : sg_M, z = sg_up s11 o 7 0 := ⟨_, rfl⟩
  have hf := hf s13 e14
  refine gw_put0 F to (by decide) rfl sg_lay_RX9 (j := 7) (by decide) (by decide) e14 tyX9_ok nmX9 rfl (tyX9_ok 7 (by decide)) rfl (host := "") (.inl kw_148) dX9_init_36 ?_
  refine gw_aload_n F 0 rfl rfl to.1 dX9_init_39 ?_
  refine gw_aload_n F 1 rfl rfl t1.1 dX9_init_40 ?_
  obtain ⟨s15, e16⟩ : ∃ z : sg_M, z = sg_up s13 o 0 o1 := ⟨_, rfl⟩
  have hf := hf s15 e16
  refine gw_put5F F to (by decide) rfl sg_lay_RX9 (j := 0) (by decide) (D0 := tyX9 0) (fun _ => ⟨rfl, rfl⟩) t1.1 t1.2.1 e16 tyX9_ok nmX9 rfl hin rfl (tyX9_ok 0 (by decide)) rfl (host := "") kw_138 dX9_init_41 ?_
  obtain ⟨g18, hf⟩ := hf
  obtain ⟨La17, e19⟩ : ∃ z : sg_L, z = sg_se La o.toNat 9 := ⟨_, rfl⟩
  have hf := hf La17 e19
  refine gw_seal to ⟨by decide, by decide, by decide⟩ (by decide) (by decide) g18.1 g18.2 ?_
  rw [← e19]
  exact gr_BC F hf (e19 ▸ (sg_X.both sg_X.rf)) (by decide) (by decide) dX9_init_44

theorem dX11_init_0 : decode cX11_init 0 = .ok (.aload_n 0, 1) := by decide +kernel
theorem dX11_init_1 : decode cX11_init 1 = .ok (.invokespecial 1, 3) := by decide +kernel
theorem dX11_init_4 : decode cX11_init 4 = .ok (.aload_n 0, 1) := by decide +kernel
theorem dX11_init_5 : decode cX11_init 5 = .ok (.new 7, 3) := by decide +kernel
theorem dX11_init_8 : decode cX11_init 8 = .ok (.dup, 1) := by decide +kernel
theorem dX11_init_9 : decode cX11_init 9 = .ok (.invokespecial 9, 3) := by decide +kernel
theorem dX11_init_12 : decode cX11_init 12 = .ok (.putfield 10, 3) := by decide +kernel
theorem dX11_init_15 : decode cX11_init 15 = .ok (.aload_n 0, 1) := by decide +kernel
theorem dX11_init_16 : decode cX11_init 16 = .ok (.new 16, 3) := by decide +kernel
theorem dX11_init_19 : decode cX11_init 19 = .ok (.dup, 1) := by decide +kernel
theorem dX11_init_20 : decode cX11_init 20 = .ok (.aload_n 0, 1) := by decide +kernel
theorem dX11_init_21 : decode cX11_init 21 = .ok (.getfield 10, 3) := by decide +kernel
theorem dX11_init_24 : decode cX11_init 24 = .ok (.invokespecial 18, 3) := by decide +kernel
theorem dX11_init_27 : decode cX11_init 27 = .ok (.putfield 21, 3) := by decide +kernel
theorem dX11_init_30 : decode cX11_init 30 = .ok (.aload_n 0, 1) := by decide +kernel
theorem dX11_init_31 : decode cX11_init 31 = .ok (.new 25, 3) := by decide +kernel
theorem dX11_init_34 : decode cX11_init 34 = .ok (.dup, 1) := by decide +kernel
theorem dX11_init_35 : decode cX11_init 35 = .ok (.new 27, 3) := by decide +kernel
theorem dX11_init_38 : decode cX11_init 38 = .ok (.dup, 1) := by decide +kernel
theorem dX11_init_39 : decode cX11_init 39 = .ok (.invokespecial 29, 3) := by decide +kernel
theorem dX11_init_42 : decode cX11_init 42 = .ok (.new 30, 3) := by decide +kernel
theorem dX11_init_45 : decode cX11_init 45 = .ok (.dup, 1) := by decide +kernel
theorem dX11_init_46 : decode cX11_init 46 = .ok (.invokespecial 32, 3) := by decide +kernel
theorem dX11_init_49 : decode cX11_init 49 = .ok (.new 33, 3) := by decide +kernel
theorem dX11_init_52 : decode cX11_init 52 = .ok (.dup, 1) := by decide +kernel
theorem dX11_init_53 : decode cX11_init 53 = .ok (.invokespecial 35, 3) := by decide +kernel
theorem dX11_init_56 : decode cX11_init 56 = .ok (.invokespecial 36, 3) := by decide +kernel
theorem dX11_init_59 : decode cX11_init 59 = .ok (.putfield 39, 3) := by decide +kernel
theorem dX11_init_62 : decode cX11_init 62 = .ok (.aload_n 0, 1) := by decide +kernel
theorem dX11_init_63 : decode cX11_init 63 = .ok (.iconst 2, 1) := by decide +kernel
theorem dX11_init_64 : decode cX11_init 64 = .ok (.anewarray 25, 3) := by decide +kernel
theorem dX11_init_67 : decode cX11_init 67 = .ok (.putfield 43, 3) := by decide +kernel
theorem dX11_init_70 : decode cX11_init 70 = .ok (.aload_n 0, 1) := by decide +kernel
theorem dX11_init_71 : decode cX11_init 71 = .ok (.new 27, 3) := by decide +kernel
theorem dX11_init_74 : decode cX11_init 74 = .ok (.dup, 1) := by decide +kernel
theorem dX11_init_75 : decode cX11_init 75 = .ok (.invokespecial 29, 3) := by decide +kernel
theorem dX11_init_78 : decode cX11_init 78 = .ok (.putfield 47, 3) := by decide +kernel
theorem dX11_init_81 : decode cX11_init 81 = .ok (.aload_n 0, 1) := by decide +kernel
theorem dX11_init_82 : decode cX11_init 82 = .ok (.new 51, 3) := by decide +kernel
theorem dX11_init_85 : decode cX11_init 85 = .ok (.dup, 1) := by decide +kernel
theorem dX11_init_86 : decode cX11_init 86 = .ok (.invokespecial 53, 3) := by decide +kernel
theorem dX11_init_89 : decode cX11_init 89 = .ok (.putfield 54, 3) := by decide +kernel
theorem dX11_init_92 : decode cX11_init 92 = .ok (.aload_n 0, 1) := by decide +kernel
theorem dX11_init_93 : decode cX11_init 93 = .ok (.new 58, 3) := by decide +kernel
theorem dX11_init_96 : decode cX11_init 96 = .ok (.dup, 1) := by decide +kernel
theorem dX11_init_97 : decode cX11_init 97 = .ok (.invokespecial 60, 3) := by decide +kernel
theorem dX11_init_100 : decode cX11_init 100 = .ok (.putfield 61, 3) := by decide +kernel
theorem dX11_init_103 : decode cX11_init 103 = .ok (.aload_n 0, 1) := by decide +kernel
theorem dX11_init_104 : decode cX11_init 104 = .ok (.new 58, 3) := by decide +kernel
theorem dX11_init_107 : decode cX11_init 107 = .ok (.dup, 1) := by decide +kernel
theorem dX11_init_108 : decode cX11_init 108 = .ok (.invokespecial 60, 3) := by decide +kernel
theorem dX11_init_111 : decode cX11_init 111 = .ok (.putfield 65, 3) := by decide +kernel
theorem dX11_init_114 : decode cX11_init 114 = .ok (.aload_n 0, 1) := by decide +kernel
theorem dX11_init_115 : decode cX11_init 115 = .ok (.new 58, 3) := by decide +kernel
theorem dX11_init_118 : decode cX11_init 118 = .ok (.dup, 1) := by decide +kernel
theorem dX11_init_119 : decode cX11_init 119 = .ok (.invokespecial 60, 3) := by decide +kernel
theorem dX11_init_122 : decode cX11_init 122 = .ok (.putfield 68, 3) := by decide +kernel
theorem dX11_init_125 : decode cX11_init 125 = .ok (.aload_n 0, 1) := by decide +kernel
theorem dX11_init_126 : decode cX11_init 126 = .ok (.new 71, 3) := by decide +kernel
theorem dX11_init_129 : decode cX11_init 129 = .ok (.dup, 1) := by decide +kernel
theorem dX11_init_130 : decode cX11_init 130 = .ok (.invokespecial 73, 3) := by decide +kernel
theorem dX11_init_133 : decode cX11_init 133 = .ok (.putfield 74, 3) := by decide +kernel
theorem dX11_init_136 : decode cX11_init 136 = .ok (.aload_n 0, 1) := by decide +kernel
theorem dX11_init_137 : decode cX11_init 137 = .ok (.new 78, 3) := by decide +kernel
theorem dX11_init_140 : decode cX11_init 140 = .ok (.dup, 1) := by decide +kernel
theorem dX11_init_141 : decode cX11_init 141 = .ok (.bipush 40, 2) := by decide +kernel
theorem dX11_init_143 : decode cX11_init 143 = .ok (.invokespecial 80, 3) := by decide +kernel
theorem dX11_init_146 : decode cX11_init 146 = .ok (.putfield 83, 3) := by decide +kernel
theorem dX11_init_149 : decode cX11_init 149 = .ok (.aload_n 0, 1) := by decide +kernel
theorem dX11_init_150 : decode cX11_init 150 = .ok (.new 78, 3) := by decide +kernel
theorem dX11_init_153 : decode cX11_init 153 = .ok (.dup, 1) := by decide +kernel
theorem dX11_init_154 : decode cX11_init 154 = .ok (.bipush 21, 2) := by decide +kernel
theorem dX11_init_156 : decode cX11_init 156 = .ok (.invokespecial 80, 3) := by decide +kernel
theorem dX11_init_159 : decode cX11_init 159 = .ok (.putfield 87, 3) := by decide +kernel
theorem dX11_init_162 : decode cX11_init 162 = .ok (.aload_n 0, 1) := by decide +kernel
theorem dX11_init_163 : decode cX11_init 163 = .ok (.new 78, 3) := by decide +kernel
theorem dX11_init_166 : decode cX11_init 166 = .ok (.dup, 1) := by decide +kernel
theorem dX11_init_167 : decode cX11_init 167 = .ok (.bipush 101, 2) := by decide +kernel
theorem dX11_init_169 : decode cX11_init 169 = .ok (.invokespecial 80, 3) := by decide +kernel
theorem dX11_init_172 : decode cX11_init 172 = .ok (.putfield 90, 3) := by decide +kernel
theorem dX11_init_175 : decode cX11_init 175 = .ok (.aload_n 0, 1) := by decide +kernel
theorem dX11_init_176 : decode cX11_init 176 = .ok (.new 78, 3) := by decide +kernel
theorem dX11_init_179 : decode cX11_init 179 = .ok (.dup, 1) := by decide +kernel
theorem dX11_init_180 : decode cX11_init 180 = .ok (.bipush 40, 2) := by decide +kernel
theorem dX11_init_182 : decode cX11_init 182 = .ok (.invokespecial 80, 3) := by decide +kernel
theorem dX11_init_185 : decode cX11_init 185 = .ok (.putfield 93, 3) := by decide +kernel
theorem dX11_init_188 : decode cX11_init 188 = .ok (.aload_n 0, 1) := by decide +kernel
theorem dX11_init_189 : decode cX11_init 189 = .ok (.new 78, 3) := by decide +kernel
theorem dX11_init_192 : decode cX11_init 192 = .ok (.dup, 1) := by decide +kernel
theorem dX11_init_193 : decode cX11_init 193 = .ok (.bipush 40, 2) := by decide +kernel
theorem dX11_init_195 : decode cX11_init 195 = .ok (.invokespecial 80, 3) := by decide +kernel
theorem dX11_init_198 : decode cX11_init 198 = .ok (.putfield 96, 3) := by decide +kernel
theorem dX11_init_201 : decode cX11_init 201 = .ok (.aload_n 0, 1) := by decide +kernel
theorem dX11_init_202 : decode cX11_init 202 = .ok (.new 78, 3) := by decide +kernel
theorem dX11_init_205 : decode cX11_init 205 = .ok (.dup, 1) := by decide +kernel
theorem dX11_init_206 : decode cX11_init 206 = .ok (.sipush 200, 3) := by decide +kernel
theorem dX11_init_209 : decode cX11_init 209 = .ok (.invokespecial 80, 3) := by decide +kernel
theorem dX11_init_212 : decode cX11_init 212 = .ok (.putfield 99, 3) := by decide +kernel
theorem dX11_init_215 : decode cX11_init 215 = .ok (.aload_n 0, 1) := by decide +kernel
theorem dX11_init_216 : decode cX11_init 216 = .ok (.iconst 0, 1) := by decide +kernel
theorem dX11_init_217 : decode cX11_init 217 = .ok (.putfield 102, 3) := by decide +kernel
theorem dX11_init_220 : decode cX11_init 220 = .ok (.aload_n 0, 1) := by decide +kernel
theorem dX11_init_221 : decode cX11_init 221 = .ok (.iconst 0, 1) := by decide +kernel
theorem dX11_init_222 : decode cX11_init 222 = .ok (.putfield 106, 3) := by decide +kernel
theorem dX11_init_225 : decode cX11_init 225 = .ok (.aload_n 0, 1) := by decide +kernel
theorem dX11_init_226 : decode cX11_init 226 = .ok (.iconst (-1), 1) := by decide +kernel
theorem dX11_init_227 : decode cX11_init 227 = .ok (.putfield 109, 3) := by decide +kernel
theorem dX11_init_230 : decode cX11_init 230 = .ok (.aload_n 0, 1) := by decide +kernel
theorem dX11_init_231 : decode cX11_init 231 = .ok (.getfield 39, 3) := by decide +kernel
theorem dX11_init_234 : decode cX11_init 234 = .ok (.getfield 112, 3) := by decide +kernel
theorem dX11_init_237 : decode cX11_init 237 = .ok (.iconst 3, 1) := by decide +kernel
theorem dX11_init_238 : decode cX11_init 238 = .ok (.bipush 30, 2) := by decide +kernel
theorem dX11_init_240 : decode cX11_init 240 = .ok (.iconst 5, 1) := by decide +kernel
theorem dX11_init_241 : decode cX11_init 241 = .ok (.iconst 0, 1) := by decide +kernel
theorem dX11_init_242 : decode cX11_init 242 = .ok (.iconst 0, 1) := by decide +kernel
theorem dX11_init_243 : decode cX11_init 243 = .ok (.invokevirtual 115, 3) := by decide +kernel
theorem dX11_init_246 : decode cX11_init 246 = .ok (.aload_n 0, 1) := by decide +kernel
theorem dX11_init_247 : decode cX11_init 247 = .ok (.getfield 39, 3) := by decide +kernel
theorem dX11_init_250 : decode cX11_init 250 = .ok (.getfield 112, 3) := by decide +kernel
theorem dX11_init_253 : decode cX11_init 253 = .ok (.invokevirtual 119, 3) := by decide +kernel
theorem dX11_init_256 : decode cX11_init 256 = .ok (.return_, 1) := by decide +kernel
theorem hcX11_init : yX11_init.cls ≠ "java/lang/invoke/MethodHandle" ∧ yX11_init.cls ≠ "java/lang/invoke/VarHandle" ∧ (parseMethodDescriptor yX11_init.desc).map (fun d => d.parameters.length) = some 0 := ⟨by decide +kernel, by decide +kernel, by decide +kernel⟩
def fX11_init (La : sg_L) (s0 : sg_M) (o : Int) (Q : sg_L → sg_M → Prop) : Prop := ∀ (q1 : Nat) (La2 : sg_L), La2 = sg_pu La 28 q1 → ∀ s3 : sg_M, s3 = sg_nw s0 La.1 28 → ∀ o4 : Int, o4 = (La.1 : Int) → fX8_init La2 s3 o4 (fun La14 s15 => ∀ s21 : sg_M, s21 = sg_up s15 o 0 o4 → ∀ (q23 : Nat) (La24 : sg_L), La24 = sg_pu La14 29 q23 → ∀ s25 : sg_M, s25 = sg_nw s21 La14.1 29 → ∀ o26 : Int, o26 = (La14.1 : Int) → (sg_O La24 (s25 o 0) 8) ∧ fX9_init s25 o26 (s25 o 0) (fun s38 => ∀ s39 : sg_M, s39 = sg_up s38 o 1 o26 → ∀ (q41 : Nat) (La42 : sg_L), La42 = sg_pu La24 47 q41 → ∀ s43 : sg_M, s43 = sg_nw s39 La24.1 47 → ∀ o44 : Int, o44 = (La24.1 : Int) → ∀ (q54 : Nat) (La55 : sg_L), La55 = sg_pu La42 21 q54 → ∀ s56 : sg_M, s56 = sg_nw s43 La42.1 21 → ∀ o57 : Int, o57 = (La42.1 : Int) → fX1_init La55 s56 o57 (fun La68 s69 => ∀ (q76 : Nat) (La77 : sg_L), La77 = sg_pu La68 23 q76 → ∀ s78 : sg_M, s78 = sg_nw s69 La68.1 23 → ∀ o79 : Int, o79 = (La68.1 : Int) → fX3_init La77 s78 o79 (fun La91 s92 => ∀ (q100 : Nat) (La101 : sg_L), La101 = sg_pu La91 25 q100 → ∀ s102 : sg_M, s102 = sg_nw s92 La91.1 25 → ∀ o103 : Int, o103 = (La91.1 : Int) → fX5_init La101 s102 o103 (fun La116 s117 => fX7_init_A La116 s117 o44 o57 o79 o103 (fun La126 s127 => ∀ s133 : sg_M, s133 = sg_up s127 o 2 o44 → ∀ (q135 : Nat) (La136 : sg_L), La136 = sg_pu La126 40002 q135 → ∀ s137 : sg_M, s137 = sg_nw s133 La126.1 40002 → ∀ o138 : Int, o138 = (La126.1 : Int) → ∀ s148 : sg_M, s148 = sg_up s137 o 3 o138 → ∀ (q150 : Nat) (La151 : sg_L), La151 = sg_pu La136 21 q150 → ∀ s152 : sg_M, s152 = sg_nw s148 La136.1 21 → ∀ o153 : Int, o153 = (La136.1 : Int) → fX1_init La151 s152 o153 (fun La163 s164 => ∀ s170 : sg_M, s170 = sg_up s164 o 4 o153 → ∀ (q172 : Nat) (La173 : sg_L), La173 = sg_pu La163 20 q172 → ∀ s174 : sg_M, s174 = sg_nw s170 La163.1 20 → ∀ o175 : Int, o175 = (La163.1 : Int) → fX0_init La173 s174 o175 (fun La185 s186 => ∀ s192 : sg_M, s192 = sg_up s186 o 5 o175 → ∀ (q194 : Nat) (La195 : sg_L), La195 = sg_pu La185 30 q194 → ∀ s196 : sg_M, s196 = sg_nw s192 La185.1 30 → ∀ o197 : Int, o197 = (La185.1 : Int) → fX10_init La195 s196 o197 (fun La207 s208 => ∀ s214 : sg_M, s214 = sg_up s208 o 6 o197 → ∀ (q216 : Nat) (La217 : sg_L), La217 = sg_pu La207 30 q216 → ∀ s218 : sg_M, s218 = sg_nw s214 La207.1 30 → ∀ o219 : Int, o219 = (La207.1 : Int) → fX10_init La217 s218 o219 (fun La229 s230 => ∀ s236 : sg_M, s236 = sg_up s230 o 7 o219 → ∀ (q238 : Nat) (La239 : sg_L), La239 = sg_pu La229 30 q238 → ∀ s240 : sg_M, s240 = sg_nw s236 La229.1 30 → ∀ o241 : Int, o241 = (La229.1 : Int) → fX10_init La239 s240 o241 (fun La251 s252 => ∀ s258 : sg_M, s258 = sg_up s252 o 8 o241 → ∀ (q260 : Nat) (La261 : sg_L), La261 = sg_pu La251 26 q260 → ∀ s262 : sg_M, s262 = sg_nw s258 La251.1 26 → ∀ o263 : Int, o263 = (La251.1 : Int) → fX6_init La261 s262 o263 (fun La273 s274 => ∀ s280 : sg_M, s280 = sg_up s274 o 9 o263 → ∀ (q282 : Nat) (La283 : sg_L), La283 = sg_pu La273 24 q282 → ∀ s284 : sg_M, s284 = sg_nw s280 La273.1 24 → ∀ o285 : Int, o285 = (La273.1 : Int) → fX4_init La283 s284 o285 40 (fun La295 s296 => ∀ s302 : sg_M, s302 = sg_up s296 o 10 o285 → ∀ (q304 : Nat) (La305 : sg_L), La305 = sg_pu La295 24 q304 → ∀ s306 : sg_M, s306 = sg_nw s302 La295.1 24 → ∀ o307 : Int, o307 = (La295.1 : Int) → fX4_init La305 s306 o307 21 (fun La317 s318 => ∀ s324 : sg_M, s324 = sg_up s318 o 11 o307 → ∀ (q326 : Nat) (La327 : sg_L), La327 = sg_pu La317 24 q326 → ∀ s328 : sg_M, s328 = sg_nw s324 La317.1 24 → ∀ o329 : Int, o329 = (La317.1 : Int) → fX4_init La327 s328 o329 101 (fun La339 s340 => ∀ s346 : sg_M, s346 = sg_up s340 o 12 o329 → ∀ (q348 : Nat) (La349 : sg_L), La349 = sg_pu La339 24 q348 → ∀ s350 : sg_M, s350 = sg_nw s346 La339.1 24 → ∀ o351 : Int, o351 = (La339.1 : Int) → fX4_init La349 s350 o351 40 (fun La361 s362 => ∀ s368 : sg_M, s368 = sg_up s362 o 13 o351 → ∀ (q370 : Nat) (La371 : sg_L), La371 = sg_pu La361 24 q370 → ∀ s372 : sg_M, s372 = sg_nw s368 La361.1 24 → ∀ o373 : Int, o373 = (La361.1 : Int) → fX4_init La371 s372 o373 40 (fun La383 s384 => ∀ s390 : sg_M, s390 = sg_up s384 o 14 o373 → ∀ (q392 : Nat) (La393 : sg_L), La393 = sg_pu La383 24 q392 → ∀ s394 : sg_M, s394 = sg_nw s390 La383.1 24 → ∀ o395 : Int, o395 = (La383.1 : Int) → fX4_init La393 s394 o395 200 (fun La405 s406 => ∀ s412 : sg_M, s412 = sg_up s406 o 15 o395 → ∀ s414 : sg_M, s414 = sg_up s412 o 16 0 → ∀ s416 : sg_M, s416 = sg_up s414 o 17 0 → ∀ s418 : sg_M, s418 = sg_up s416 o 18 (-1) → (sg_O La405 (s418 o 2) 27) ∧ (0 ≤ (s418 (s418 o 2) 0)) ∧ fX1_addAlike s418 (s418 (s418 o 2) 0) 3 30 5 0 0 (fun s425 => (sg_O La405 (s425 o 2) 27) ∧ (0 ≤ (s425 (s425 o 2) 0)) ∧ fX1_fillUntold s425 (s425 (s425 o 2) 0) (fun s431 => sg_sealed La405 s431 o 31 11 ∧ ∀ La432 : sg_L, La432 = sg_se La405 o.toNat 11 → Q La432 s431))))))))))))))))))))
set_option maxHeartbeats 4000000 in
set_option maxRecDepth 100000 in
theorem CX11_init {l : Launch} {G : sg_G} {La : sg_L} {s0 : sg_M} (hst : sg_St La) {o : Int} (to : sg_O La o 31) {Q : sg_L → sg_M → Prop} (hf : fX11_init La s0 o Q) : sg_C l G yX11_init cX11_init 1 (none) 4 63 7473 La s0 [sg_r o] (sg_BV (sg_se La o.toNat 11) Q) := by
  refine sg_body (by decide +kernel) (Nat.le_of_ble_eq_true rfl) ?_
  intro p e s m args below meth c F hnm
  unfold fX11_init at hf
  show sg_W p l e (sg_rm 4 63 7473) s m args below meth c (MQ below (sg_Q (none) G La s.heap.size (sg_BV (sg_se La o.toNat 11) Q)) args s 63 7473 (sg_A La s.heap.size)) 1 G (sg_A La s.heap.size) La s0 0 0 0 [(0, sg_r o)] []
  have hin : meth.name = "<init>" := hnm
  refine gw_aload_n F 0 rfl rfl to.1 dX11_init_0 ?_
  refine gw_objInit F to.1 kw_117 kw_OI kw_OC (Nat.le_of_ble_eq_true rfl) (by decide) (by decide) dX11_init_1 ?_
  refine gw_aload_n F 0 rfl rfl to.1 dX11_init_4 ?_
  refine gy_new F (kd := 28) (T := TX8) (by decide) rfl sg_lay_RX8 tyX8_ok kw_120 kw_121 kw_91 ns_X8 nf_X8 nr_X8 (by decide) (by decide) (List.forall_mem_cons.mpr ⟨(Or.inl to.2.1), (fun _ h => absurd h List.not_mem_nil)⟩) (List.forall_mem_cons.mpr ⟨(Or.inl to.2.1), (fun _ h => absurd h List.not_mem_nil)⟩) dX11_init_5 (fun q1 La2 s3 o4 e5 e6 e7 t8 hX9 => ?_)
  have hf := hf q1 La2 e5 s3 e6 o4 e7
  have hn10 : La.1 ≤ o4.toNat := by rw [e7, Int.toNat_natCast]; exact (sg_X.rf : sg_X La La).1
  have t11 := to.X hX9
  have hst12 := hst.X hX9
  have hX13 := sg_X.tr (sg_X.rf) hX9
  refine gw_dup F rfl dX11_init_8 ?_
  refine gk_BV F (gc_IN F (S := [sg_r o4, sg_r o]) (As := []) (CX8_init t8 hf) t8.1 kw_124 kw_91 kw_122 kw_123 rfl hcX8_init ⟨by decide, by decide⟩ rfl rfl (Nat.le_of_ble_eq_true rfl) ⟨by decide, by decide⟩ dX11_init_9) (List.forall_mem_cons.mpr ⟨(Or.inl t11.2.1), (fun _ h => absurd h List.not_mem_nil)⟩) (List.forall_mem_cons.mpr ⟨(Or.inl t8.2.1), (List.forall_mem_cons.mpr ⟨(Or.inl t11.2.1), (fun _ h => absurd h List.not_mem_nil)⟩)⟩) (fun La14 s15 hX16 hf => ?_)
  have t17 := (sg_O_sx t11 t8 (by decide)).X hX16
  have t18 := (sg_O_sealed t8).X hX16
  have hst19 := (sg_St_sx hst12 t8 ⟨by decide, by decide, by decide⟩).X hX16
  have hX20 := (sg_X_sx (hX13) hn10).tr hX16
  obtain ⟨s21, e22⟩ : ∃ z : sg_M, z = sg_up s15 o 0 o4 := ⟨_, rfl⟩
  have hf := hf s21 e22
  refine gw_put5F F t17 (by decide) rfl sg_lay_RX11 (j := 0) (by decide) (D0 := tyX11 0) (fun _ => ⟨rfl, rfl⟩) t18.1 t18.2.1 e22 tyX11_ok nmX11 rfl hin rfl (tyX11_ok 0 (by decide)) rfl (host := "") kw_326 dX11_init_12 ?_
  refine gw_aload_n F 0 rfl rfl t17.1 dX11_init_15 ?_
  refine gy_new F (kd := 29) (T := TX9) (by decide) rfl sg_lay_RX9 tyX9_ok kw_132 kw_133 kw_92 ns_X9 nf_X9 nr_X9 (by decide) (by decide) (List.forall_mem_cons.mpr ⟨(Or.inl t17.2.1), (fun _ h => absurd h List.not_mem_nil)⟩) (List.forall_mem_cons.mpr ⟨(Or.inl t17.2.1), (fun _ h => absurd h List.not_mem_nil)⟩) dX11_init_16 (fun q23 La24 s25 o26 e27 e28 e29 t30 hX31 => ?_)
  have hf := hf q23 La24 e27 s25 e28 o26 e29
  have hn32 : La.1 ≤ o26.toNat := by rw [e29, Int.toNat_natCast]; exact (hX20 : sg_X La La14).1
  have t33 := t17.X hX31
  have hst34 := hst19.X hX31
  have hX35 := sg_X.tr (hX20) hX31
  refine gw_dup F rfl dX11_init_19 ?_
  refine gw_aload_n F 0 rfl rfl t33.1 dX11_init_20 ?_
  refine gw_get5 F t33 (by decide) rfl sg_lay_RX11 (j := 0) (by decide) rfl (host := "") (.inl kw_326) dX11_init_21 (fun h36 => ?_)
  obtain ⟨g37, hf⟩ := hf
  refine gk_HV F (gc_I F (S := [sg_r o26, sg_r o]) (As := [sg_r (s25 o 0)]) (CX9_init hst34 t30 g37 hf) t30.1 kw_136 kw_92 kw_134 kw_135 rfl hcX9_init ⟨by decide, by decide⟩ rfl rfl (Nat.le_of_ble_eq_true rfl) ⟨by decide, by decide⟩ dX11_init_24) (fun s38 hf => ?_)
  obtain ⟨s39, e40⟩ : ∃ z : sg_M, z = sg_up s38 o 1 o26 := ⟨_, rfl⟩
  have hf := hf s39 e40
  refine gw_put5F F t33 (by decide) rfl sg_lay_RX11 (j := 1) (by decide) (D0 := tyX11 1) (fun _ => ⟨rfl, rfl⟩) t30.1 t30.2.1 e40 tyX11_ok nmX11 rfl hin rfl (tyX11_ok 1 (by decide)) rfl (host := "") kw_327 dX11_init_27 ?_
  refine gw_aload_n F 0 rfl rfl t33.1 dX11_init_30 ?_
  refine gy_new F (kd := 47) (T := TX7) (by decide) rfl sg_lay_RX7 tyX7_ok kw_150 kw_151 kw_93 ns_X7 nf_X7 nr_X7 (by decide) (by decide) (List.forall_mem_cons.mpr ⟨(Or.inl t33.2.1), (fun _ h => absurd h List.not_mem_nil)⟩) (List.forall_mem_cons.mpr ⟨(Or.inl t33.2.1), (fun _ h => absurd h List.not_mem_nil)⟩) dX11_init_31 (fun q41 La42 s43 o44 e45 e46 e47 t48 hX49 => ?_)
  have hf := hf q41 La42 e45 s43 e46 o44 e47
  have hn50 : La.1 ≤ o44.toNat := by rw [e47, Int.toNat_natCast]; exact (hX35 : sg_X La La24).1
  have t51 := t33.X hX49
  have hst52 := hst34.X hX49
  have hX53 := sg_X.tr (hX35) hX49
  refine gw_dup F rfl dX11_init_34 ?_
  refine gy_new F (kd := 21) (T := TX1) (by decide) rfl sg_lay_RX1 tyX1_ok kw_152 kw_153 kw_94 ns_X1 nf_X1 nr_X1 (by decide) (by decide) (List.forall_mem_cons.mpr ⟨(Or.inl t51.2.1), (fun _ h => absurd h List.not_mem_nil)⟩) (List.forall_mem_cons.mpr ⟨(Or.inl t48.2.1), (List.forall_mem_cons.mpr ⟨(Or.inl t48.2.1), (List.forall_mem_cons.mpr ⟨(Or.inl t51.2.1), (fun _ h => absurd h List.not_mem_nil)⟩)⟩)⟩) dX11_init_35 (fun q54 La55 s56 o57 e58 e59 e60 t61 hX62 => ?_)
  have hf := hf q54 La55 e58 s56 e59 o57 e60
  have hn63 : La.1 ≤ o57.toNat := by rw [e60, Int.toNat_natCast]; exact (hX53 : sg_X La La42).1
  have t64 := t51.X hX62
  have t65 := t48.X hX62
  have hst66 := hst52.X hX62
  have hX67 := sg_X.tr (hX53) hX62
  refine gw_dup F rfl dX11_init_38 ?_
  refine gk_BV F (gc_IN F (S := [sg_r o57, sg_r o44, sg_r o44, sg_r o]) (As := []) (CX1_init t61 hf) t61.1 kw_156 kw_94 kw_154 kw_155 rfl hcX1_init ⟨by decide, by decide⟩ rfl rfl (Nat.le_of_ble_eq_true rfl) ⟨by decide, by decide⟩ dX11_init_39) (List.forall_mem_cons.mpr ⟨(Or.inl t64.2.1), (fun _ h => absurd h List.not_mem_nil)⟩) (List.forall_mem_cons.mpr ⟨(Or.inl t61.2.1), (List.forall_mem_cons.mpr ⟨(Or.inl t65.2.1), (List.forall_mem_cons.mpr ⟨(Or.inl t65.2.1), (List.forall_mem_cons.mpr ⟨(Or.inl t64.2.1), (fun _ h => absurd h List.not_mem_nil)⟩)⟩)⟩)⟩) (fun La68 s69 hX70 hf => ?_)
  have t71 := (sg_O_sx t64 t61 (by decide)).X hX70
  have t72 := (sg_O_sx t65 t61 (by decide)).X hX70
  have t73 := (sg_O_sealed t61).X hX70
  have hst74 := (sg_St_sx hst66 t61 ⟨by decide, by decide, by decide⟩).X hX70
  have hX75 := (sg_X_sx (hX67) hn63).tr hX70
  refine gy_new F (kd := 23) (T := TX3) (by decide) rfl sg_lay_RX3 tyX3_ok kw_172 kw_173 kw_95 ns_X3 nf_X3 nr_X3 (by decide) (by decide) (List.forall_mem_cons.mpr ⟨(Or.inl t71.2.1), (fun _ h => absurd h List.not_mem_nil)⟩) (List.forall_mem_cons.mpr ⟨(Or.inl t73.2.1), (List.forall_mem_cons.mpr ⟨(Or.inl t72.2.1), (List.forall_mem_cons.mpr ⟨(Or.inl t72.2.1), (List.forall_mem_cons.mpr ⟨(Or.inl t71.2.1), (fun _ h => absurd h List.not_mem_nil)⟩)⟩)⟩)⟩) dX11_init_42 (fun q76 La77 s78 o79 e80 e81 e82 t83 hX84 => ?_)
  have hf := hf q76 La77 e80 s78 e81 o79 e82
  have hn85 : La.1 ≤ o79.toNat := by rw [e82, Int.toNat_natCast]; exact (hX75 : sg_X La La68).1
  have t86 := t71.X hX84
  have t87 := t72.X hX84
  have t88 := t73.X hX84
  have hst89 := hst74.X hX84
  have hX90 := sg_X.tr (hX75) hX84
  refine gw_dup F rfl dX11_init_45 ?_
  refine gk_BV F (gc_IN F (S := [sg_r o79, sg_r o57, sg_r o44, sg_r o44, sg_r o]) (As := []) (CX3_init t83 hf) t83.1 kw_176 kw_95 kw_174 kw_175 rfl hcX3_init ⟨by decide, by decide⟩ rfl rfl (Nat.le_of_ble_eq_true rfl) ⟨by decide, by decide⟩ dX11_init_46) (List.forall_mem_cons.mpr ⟨(Or.inl t86.2.1), (fun _ h => absurd h List.not_mem_nil)⟩) (List.forall_mem_cons.mpr ⟨(Or.inl t83.2.1), (List.forall_mem_cons.mpr ⟨(Or.inl t88.2.1), (List.forall_mem_cons.mpr ⟨(Or.inl t87.2.1), (List.forall_mem_cons.mpr ⟨(Or.inl t87.2.1), (List.forall_mem_cons.mpr ⟨(Or.inl t86.2.1), (fun _ h => absurd h List.not_mem_nil)⟩)⟩)⟩)⟩)⟩) (fun La91 s92 hX93 hf => ?_)
  have t94 := (sg_O_sx t86 t83 (by decide)).X hX93
  have t95 := (sg_O_sx t87 t83 (by decide)).X hX93
  have t96 := (sg_O_sx t88 t83 (by decide)).X hX93
  have t97 := (sg_O_sealed t83).X hX93
  have hst98 := (sg_St_sx hst89 t83 ⟨by decide, by decide, by decide⟩).X hX93
  have hX99 := (sg_X_sx (hX90) hn85).tr hX93
  refine gy_new F (kd := 25) (T := TX5) (by decide) rfl sg_lay_RX5 tyX5_ok kw_184 kw_185 kw_96 ns_X5 nf_X5 nr_X5 (by decide) (by decide) (List.forall_mem_cons.mpr ⟨(Or.inl t94.2.1), (fun _ h => absurd h List.not_mem_nil)⟩) (List.forall_mem_cons.mpr ⟨(Or.inl t97.2.1), (List.forall_mem_cons.mpr ⟨(Or.inl t96.2.1), (List.forall_mem_cons.mpr ⟨(Or.inl t95.2.1), (List.forall_mem_cons.mpr ⟨(Or.inl t95.2.1), (List.forall_mem_cons.mpr ⟨(Or.inl t94.2.1), (fun _ h => absurd h List.not_mem_nil)⟩)⟩)⟩)⟩)⟩) dX11_init_49 (fun q100 La101 s102 o103 e104 e105 e106 t107 hX108 => ?_)
  have hf := hf q100 La101 e104 s102 e105 o103 e106
  have hn109 : La.1 ≤ o103.toNat := by rw [e106, Int.toNat_natCast]; exact (hX99 : sg_X La La91).1
  have t110 := t94.X hX108
  have t111 := t95.X hX108
  have t112 := t96.X hX108
  have t113 := t97.X hX108
  have hst114 := hst98.X hX108
  have hX115 := sg_X.tr (hX99) hX108
  refine gw_dup F rfl dX11_init_52 ?_
  refine gk_BV F (gc_IN F (S := [sg_r o103, sg_r o79, sg_r o57, sg_r o44, sg_r o44, sg_r o]) (As := []) (CX5_init t107 hf) t107.1 kw_188 kw_96 kw_186 kw_187 rfl hcX5_init ⟨by decide, by decide⟩ rfl rfl (Nat.le_of_ble_eq_true rfl) ⟨by decide, by decide⟩ dX11_init_53) (List.forall_mem_cons.mpr ⟨(Or.inl t110.2.1), (fun _ h => absurd h List.not_mem_nil)⟩) (List.forall_mem_cons.mpr ⟨(Or.inl t107.2.1), (List.forall_mem_cons.mpr ⟨(Or.inl t113.2.1), (List.forall_mem_cons.mpr ⟨(Or.inl t112.2.1), (List.forall_mem_cons.mpr ⟨(Or.inl t111.2.1), (List.forall_mem_cons.mpr ⟨(Or.inl t111.2.1), (List.forall_mem_cons.mpr ⟨(Or.inl t110.2.1), (fun _ h => absurd h List.not_mem_nil)⟩)⟩)⟩)⟩)⟩)⟩) (fun La116 s117 hX118 hf => ?_)
  have t119 := (sg_O_sx t110 t107 (by decide)).X hX118
  have t120 := (sg_O_sx t111 t107 (by decide)).X hX118
  have t121 := (sg_O_sx t112 t107 (by decide)).X hX118
  have t122 := (sg_O_sx t113 t107 (by decide)).X hX118
  have t123 := (sg_O_sealed t107).X hX118
  have hst124 := (sg_St_sx hst114 t107 ⟨by decide, by decide, by decide⟩).X hX118
  have hX125 := (sg_X_sx (hX115) hn109).tr hX118
  refine gk_BV F (gc_I F (S := [sg_r o44, sg_r o]) (As := [sg_r o57, sg_r o79, sg_r o103]) (CX7_init_A t120 t121 t122 t123 hf) t120.1 kw_214 kw_93 kw_212 kw_213 rfl hcX7_init ⟨by decide, by decide⟩ rfl rfl (Nat.le_of_ble_eq_true rfl) ⟨by decide, by decide⟩ dX11_init_56) (List.forall_mem_cons.mpr ⟨(Or.inl t119.2.1), (fun _ h => absurd h List.not_mem_nil)⟩) (List.forall_mem_cons.mpr ⟨(Or.inl t120.2.1), (List.forall_mem_cons.mpr ⟨(Or.inl t119.2.1), (fun _ h => absurd h List.not_mem_nil)⟩)⟩) (fun La126 s127 hX128 hf => ?_)
  have t129 := (sg_O_sx t119 t120 (by decide)).X hX128
  have t130 := (sg_O_sealed t120).X hX128
  have hst131 := (sg_St_sx hst124 t120 ⟨by decide, by decide, by decide⟩).X hX128
  have hX132 := (sg_X_sx (hX125) hn50).tr hX128
  obtain ⟨s133, e134⟩ : ∃ z : sg_M, z = sg_up s127 o 2 o44 := ⟨_, rfl⟩
  have hf := hf s133 e134
  refine gw_put5F F t129 (by decide) rfl sg_lay_RX11 (j := 2) (by decide) (D0 := tyX11 2) (fun _ => ⟨rfl, rfl⟩) t130.1 t130.2.1 e134 tyX11_ok nmX11 rfl hin rfl (tyX11_ok 2 (by decide)) rfl (host := "") kw_328 dX11_init_59 ?_
  refine gw_aload_n F 0 rfl rfl t129.1 dX11_init_62 ?_
  refine gw_iconst F dX11_init_63 ?_
  refine gy_newT F (N := 2) kw_150 (F.2.2.2.2.2.2.2.2.2.1 _ kw_243) rfl (by decide) (by decide) (by decide) (List.forall_mem_cons.mpr ⟨(Or.inl t129.2.1), (fun _ h => absurd h List.not_mem_nil)⟩) (List.forall_mem_cons.mpr ⟨(Or.inl t129.2.1), (fun _ h => absurd h List.not_mem_nil)⟩) dX11_init_64 (fun q135 La136 s137 o138 e139 e140 e141 t142 hX143 => ?_)
  have hf := hf q135 La136 e139 s137 e140 o138 e141
  have hn144 : La.1 ≤ o138.toNat := by rw [e141, Int.toNat_natCast]; exact (hX132 : sg_X La La126).1
  have t145 := t129.X hX143
  have hst146 := hst131.X hX143
  have hX147 := sg_X.tr (hX132) hX143
  obtain ⟨s148, e149⟩ : ∃ z : sg_M, z = sg_up s137 o 3 o138 := ⟨_, rfl⟩
  have hf := hf s148 e149
  refine gw_put5F F t145 (by decide) rfl sg_lay_RX11 (j := 3) (by decide) (D0 := tyX11 3) (fun _ => ⟨rfl, rfl⟩) t142.1 t142.2.1 e149 tyX11_ok nmX11 rfl hin rfl (tyX11_ok 3 (by decide)) rfl (host := "") kw_329 dX11_init_67 ?_
  refine gw_aload_n F 0 rfl rfl t145.1 dX11_init_70 ?_
  refine gy_new F (kd := 21) (T := TX1) (by decide) rfl sg_lay_RX1 tyX1_ok kw_152 kw_153 kw_94 ns_X1 nf_X1 nr_X1 (by decide) (by decide) (List.forall_mem_cons.mpr ⟨(Or.inl t145.2.1), (fun _ h => absurd h List.not_mem_nil)⟩) (List.forall_mem_cons.mpr ⟨(Or.inl t145.2.1), (fun _ h => absurd h List.not_mem_nil)⟩) dX11_init_71 (fun q150 La151 s152 o153 e154 e155 e156 t157 hX158 => ?_)
  have hf := hf q150 La151 e154 s152 e155 o153 e156
  have hn159 : La.1 ≤ o153.toNat := by rw [e156, Int.toNat_natCast]; exact (hX147 : sg_X La La136).1
  have t160 := t145.X hX158
  have hst161 := hst146.X hX158
  have hX162 := sg_X.tr (hX147) hX158
  refine gw_dup F rfl dX11_init_74 ?_
  refine gk_BV F (gc_IN F (S := [sg_r o153, sg_r o]) (As := []) (CX1_init t157 hf) t157.1 kw_156 kw_94 kw_154 kw_155 rfl hcX1_init ⟨by decide, by decide⟩ rfl rfl (Nat.le_of_ble_eq_true rfl) ⟨by decide, by decide⟩ dX11_init_75) (List.forall_mem_cons.mpr ⟨(Or.inl t160.2.1), (fun _ h => absurd h List.not_mem_nil)⟩) (List.forall_mem_cons.mpr ⟨(Or.inl t157.2.1), (List.forall_mem_cons.mpr ⟨(Or.inl t160.2.1), (fun _ h => absurd h List.not_mem_nil)⟩)⟩) (fun La163 s164 hX165 hf => ?_)
  have t166 := (sg_O_sx t160 t157 (by decide)).X hX165
  have t167 := (sg_O_sealed t157).X hX165
  have hst168 := (sg_St_sx hst161 t157 ⟨by decide, by decide, by decide⟩).X hX165
  have hX169 := (sg_X_sx (hX162) hn159).tr hX165
  obtain ⟨s170, e171⟩ : ∃ z : sg_M, z = sg_up s164 o 4 o153 := ⟨_, rfl⟩
  have hf := hf s170 e171
  refine gw_put5F F t166 (by decide) rfl sg_lay_RX11 (j := 4) (by decide) (D0 := tyX11 4) (fun _ => ⟨rfl, rfl⟩) t167.1 t167.2.1 e171 tyX11_ok nmX11 rfl hin rfl (tyX11_ok 4 (by decide)) rfl (host := "") kw_330 dX11_init_78 ?_
  refine gw_aload_n F 0 rfl rfl t166.1 dX11_init_81 ?_
  refine gy_new F (kd := 20) (T := TX0) (by decide) rfl sg_lay_RX0 tyX0_ok kw_244 kw_245 kw_100 ns_X0 nf_X0 nr_X0 (by decide) (by decide) (List.forall_mem_cons.mpr ⟨(Or.inl t166.2.1), (fun _ h => absurd h List.not_mem_nil)⟩) (List.forall_mem_cons.mpr ⟨(Or.inl t166.2.1), (fun _ h => absurd h List.not_mem_nil)⟩) dX11_init_82 (fun q172 La173 s174 o175 e176 e177 e178 t179 hX180 => ?_)
  have hf := hf q172 La173 e176 s174 e177 o175 e178
  have hn181 : La.1 ≤ o175.toNat := by rw [e178, Int.toNat_natCast]; exact (hX169 : sg_X La La163).1
  have t182 := t166.X hX180
  have hst183 := hst168.X hX180
  have hX184 := sg_X.tr (hX169) hX180
  refine gw_dup F rfl dX11_init_85 ?_
  refine gk_BV F (gc_IN F (S := [sg_r o175, sg_r o]) (As := []) (CX0_init t179 hf) t179.1 kw_248 kw_100 kw_246 kw_247 rfl hcX0_init ⟨by decide, by decide⟩ rfl rfl (Nat.le_of_ble_eq_true rfl) ⟨by decide, by decide⟩ dX11_init_86) (List.forall_mem_cons.mpr ⟨(Or.inl t182.2.1), (fun _ h => absurd h List.not_mem_nil)⟩) (List.forall_mem_cons.mpr ⟨(Or.inl t179.2.1), (List.forall_mem_cons.mpr ⟨(Or.inl t182.2.1), (fun _ h => absurd h List.not_mem_nil)⟩)⟩) (fun La185 s186 hX187 hf => ?_)
  have t188 := (sg_O_sx t182 t179 (by decide)).X hX187
  have t189 := (sg_O_sealed t179).X hX187
  have hst190 := (sg_St_sx hst183 t179 ⟨by decide, by decide, by decide⟩).X hX187
  have hX191 := (sg_X_sx (hX184) hn181).tr hX187
  obtain ⟨s192, e193⟩ : ∃ z : sg_M, z = sg_up s186 o 5 o175 := ⟨_, rfl⟩
  have hf := hf s192 e193
  refine gw_put5F F t188 (by decide) rfl sg_lay_RX11 (j := 5) (by decide) (D0 := tyX11 5) (fun _ => ⟨rfl, rfl⟩) t189.1 t189.2.1 e193 tyX11_ok nmX11 rfl hin rfl (tyX11_ok 5 (by decide)) rfl (host := "") kw_331 dX11_init_89 ?_
  refine gw_aload_n F 0 rfl rfl t188.1 dX11_init_92 ?_
  refine gy_new F (kd := 30) (T := TX10) (by decide) rfl sg_lay_RX10 tyX10_ok kw_275 kw_276 kw_101 ns_X10 nf_X10 nr_X10 (by decide) (by decide) (List.forall_mem_cons.mpr ⟨(Or.inl t188.2.1), (fun _ h => absurd h List.not_mem_nil)⟩) (List.forall_mem_cons.mpr ⟨(Or.inl t188.2.1), (fun _ h => absurd h List.not_mem_nil)⟩) dX11_init_93 (fun q194 La195 s196 o197 e198 e199 e200 t201 hX202 => ?_)
  have hf := hf q194 La195 e198 s196 e199 o197 e200
  have hn203 : La.1 ≤ o197.toNat := by rw [e200, Int.toNat_natCast]; exact (hX191 : sg_X La La185).1
  have t204 := t188.X hX202
  have hst205 := hst190.X hX202
  have hX206 := sg_X.tr (hX191) hX202
  refine gw_dup F rfl dX11_init_96 ?_
  refine gk_BV F (gc_IN F (S := [sg_r o197, sg_r o]) (As := []) (CX10_init t201 hf) t201.1 kw_279 kw_101 kw_277 kw_278 rfl hcX10_init ⟨by decide, by decide⟩ rfl rfl (Nat.le_of_ble_eq_true rfl) ⟨by decide, by decide⟩ dX11_init_97) (List.forall_mem_cons.mpr ⟨(Or.inl t204.2.1), (fun _ h => absurd h List.not_mem_nil)⟩) (List.forall_mem_cons.mpr ⟨(Or.inl t201.2.1), (List.forall_mem_cons.mpr ⟨(Or.inl t204.2.1), (fun _ h => absurd h List.not_mem_nil)⟩)⟩) (fun La207 s208 hX209 hf => ?_)
  have t210 := (sg_O_sx t204 t201 (by decide)).X hX209
  have t211 := (sg_O_sealed t201).X hX209
  have hst212 := (sg_St_sx hst205 t201 ⟨by decide, by decide, by decide⟩).X hX209
  have hX213 := (sg_X_sx (hX206) hn203).tr hX209
  obtain ⟨s214, e215⟩ : ∃ z : sg_M, z = sg_up s208 o 6 o197 := ⟨_, rfl⟩
  have hf := hf s214 e215
  refine gw_put5F F t210 (by decide) rfl sg_lay_RX11 (j := 6) (by decide) (D0 := tyX11 6) (fun _ => ⟨rfl, rfl⟩) t211.1 t211.2.1 e215 tyX11_ok nmX11 rfl hin rfl (tyX11_ok 6 (by decide)) rfl (host := "") kw_332 dX11_init_100 ?_
  refine gw_aload_n F 0 rfl rfl t210.1 dX11_init_103 ?_
  refine gy_new F (kd := 30) (T := TX10) (by decide) rfl sg_lay_RX10 tyX10_ok kw_275 kw_276 kw_101 ns_X10 nf_X10 nr_X10 (by decide) (by decide) (List.forall_mem_cons.mpr ⟨(Or.inl t210.2.1), (fun _ h => absurd h List.not_mem_nil)⟩) (List.forall_mem_cons.mpr ⟨(Or.inl t210.2.1), (fun _ h => absurd h List.not_mem_nil)⟩) dX11_init_104 (fun q216 La217 s218 o219 e220 e221 e222 t223 hX224 => ?_)
  have hf := hf q216 La217 e220 s218 e221 o219 e222
  have hn225 : La.1 ≤ o219.toNat := by rw [e222, Int.toNat_natCast]; exact (hX213 : sg_X La La207).1
  have t226 := t210.X hX224
  have hst227 := hst212.X hX224
  have hX228 := sg_X.tr (hX213) hX224
  refine gw_dup F rfl dX11_init_107 ?_
  refine gk_BV F (gc_IN F (S := [sg_r o219, sg_r o]) (As := []) (CX10_init t223 hf) t223.1 kw_279 kw_101 kw_277 kw_278 rfl hcX10_init ⟨by decide, by decide⟩ rfl rfl (Nat.le_of_ble_eq_true rfl) ⟨by decide, by decide⟩ dX11_init_108) (List.forall_mem_cons.mpr ⟨(Or.inl t226.2.1), (fun _ h => absurd h List.not_mem_nil)⟩) (List.forall_mem_cons.mpr ⟨(Or.inl t223.2.1), (List.forall_mem_cons.mpr ⟨(Or.inl t226.2.1), (fun _ h => absurd h List.not_mem_nil)⟩)⟩) (fun La229 s230 hX231 hf => ?_)
  have t232 := (sg_O_sx t226 t223 (by decide)).X hX231
  have t233 := (sg_O_sealed t223).X hX231
  have hst234 := (sg_St_sx hst227 t223 ⟨by decide, by decide, by decide⟩).X hX231
  have hX235 := (sg_X_sx (hX228) hn225).tr hX231
  obtain ⟨s236, e237⟩ : ∃ z : sg_M, z = sg_up s230 o 7 o219 := ⟨_, rfl⟩
  have hf := hf s236 e237
  refine gw_put5F F t232 (by decide) rfl sg_lay_RX11 (j := 7) (by decide) (D0 := tyX11 7) (fun _ => ⟨rfl, rfl⟩) t233.1 t233.2.1 e237 tyX11_ok nmX11 rfl hin rfl (tyX11_ok 7 (by decide)) rfl (host := "") kw_333 dX11_init_111 ?_
  refine gw_aload_n F 0 rfl rfl t232.1 dX11_init_114 ?_
  refine gy_new F (kd := 30) (T := TX10) (by decide) rfl sg_lay_RX10 tyX10_ok kw_275 kw_276 kw_101 ns_X10 nf_X10 nr_X10 (by decide) (by decide) (List.forall_mem_cons.mpr ⟨(Or.inl t232.2.1), (fun _ h => absurd h List.not_mem_nil)⟩) (List.forall_mem_cons.mpr ⟨(Or.inl t232.2.1), (fun _ h => absurd h List.not_mem_nil)⟩) dX11_init_115 (fun q238 La239 s240 o241 e242 e243 e244 t245 hX246 => ?_)
  have hf := hf q238 La239 e242 s240 e243 o241 e244
  have hn247 : La.1 ≤ o241.toNat := by rw [e244, Int.toNat_natCast]; exact (hX235 : sg_X La La229).1
  have t248 := t232.X hX246
  have hst249 := hst234.X hX246
  have hX250 := sg_X.tr (hX235) hX246
  refine gw_dup F rfl dX11_init_118 ?_
  refine gk_BV F (gc_IN F (S := [sg_r o241, sg_r o]) (As := []) (CX10_init t245 hf) t245.1 kw_279 kw_101 kw_277 kw_278 rfl hcX10_init ⟨by decide, by decide⟩ rfl rfl (Nat.le_of_ble_eq_true rfl) ⟨by decide, by decide⟩ dX11_init_119) (List.forall_mem_cons.mpr ⟨(Or.inl t248.2.1), (fun _ h => absurd h List.not_mem_nil)⟩) (List.forall_mem_cons.mpr ⟨(Or.inl t245.2.1), (List.forall_mem_cons.mpr ⟨(Or.inl t248.2.1), (fun _ h => absurd h List.not_mem_nil)⟩)⟩) (fun La251 s252 hX253 hf => ?_)
  have t254 := (sg_O_sx t248 t245 (by decide)).X hX253
  have t255 := (sg_O_sealed t245).X hX253
  have hst256 := (sg_St_sx hst249 t245 ⟨by decide, by decide, by decide⟩).X hX253
  have hX257 := (sg_X_sx (hX250) hn247).tr hX253
  obtain ⟨s258, e259⟩ : ∃ z : sg_M, z = sg_up s252 o 8 o241 := ⟨_, rfl⟩
  have hf := hf s258 e259
  refine gw_put5F F t254 (by decide) rfl sg_lay_RX11 (j := 8) (by decide) (D0 := tyX11 8) (fun _ => ⟨rfl, rfl⟩) t255.1 t255.2.1 e259 tyX11_ok nmX11 rfl hin rfl (tyX11_ok 8 (by decide)) rfl (host := "") kw_334 dX11_init_122 ?_
  refine gw_aload_n F 0 rfl rfl t254.1 dX11_init_125 ?_
  refine gy_new F (kd := 26) (T := TX6) (by decide) rfl sg_lay_RX6 tyX6_ok kw_304 kw_305 kw_102 ns_X6 nf_X6 nr_X6 (by decide) (by decide) (List.forall_mem_cons.mpr ⟨(Or.inl t254.2.1), (fun _ h => absurd h List.not_mem_nil)⟩) (List.forall_mem_cons.mpr ⟨(Or.inl t254.2.1), (fun _ h => absurd h List.not_mem_nil)⟩) dX11_init_126 (fun q260 La261 s262 o263 e264 e265 e266 t267 hX268 => ?_)
  have hf := hf q260 La261 e264 s262 e265 o263 e266
  have hn269 : La.1 ≤ o263.toNat := by rw [e266, Int.toNat_natCast]; exact (hX257 : sg_X La La251).1
  have t270 := t254.X hX268
  have hst271 := hst256.X hX268
  have hX272 := sg_X.tr (hX257) hX268
  refine gw_dup F rfl dX11_init_129 ?_
  refine gk_BV F (gc_IN F (S := [sg_r o263, sg_r o]) (As := []) (CX6_init t267 hf) t267.1 kw_308 kw_102 kw_306 kw_307 rfl hcX6_init ⟨by decide, by decide⟩ rfl rfl (Nat.le_of_ble_eq_true rfl) ⟨by decide, by decide⟩ dX11_init_130) (List.forall_mem_cons.mpr ⟨(Or.inl t270.2.1), (fun _ h => absurd h List.not_mem_nil)⟩) (List.forall_mem_cons.mpr ⟨(Or.inl t267.2.1), (List.forall_mem_cons.mpr ⟨(Or.inl t270.2.1), (fun _ h => absurd h List.not_mem_nil)⟩)⟩) (fun La273 s274 hX275 hf => ?_)
  have t276 := (sg_O_sx t270 t267 (by decide)).X hX275
  have t277 := (sg_O_sealed t267).X hX275
  have hst278 := (sg_St_sx hst271 t267 ⟨by decide, by decide, by decide⟩).X hX275
  have hX279 := (sg_X_sx (hX272) hn269).tr hX275
  obtain ⟨s280, e281⟩ : ∃ z : sg_M, z = sg_up s274 o 9 o263 := ⟨_, rfl⟩
  have hf := hf s280 e281
  refine gw_put5F F t276 (by decide) rfl sg_lay_RX11 (j := 9) (by decide) (D0 := tyX11 9) (fun _ => ⟨rfl, rfl⟩) t277.1 t277.2.1 e281 tyX11_ok nmX11 rfl hin rfl (tyX11_ok 9 (by decide)) rfl (host := "") kw_335 dX11_init_133 ?_
  refine gw_aload_n F 0 rfl rfl t276.1 dX11_init_136 ?_
  refine gy_new F (kd := 24) (T := TX4) (by decide) rfl sg_lay_RX4 tyX4_ok kw_316 kw_191 kw_97 ns_X4 nf_X4 nr_X4 (by decide) (by decide) (List.forall_mem_cons.mpr ⟨(Or.inl t276.2.1), (fun _ h => absurd h List.not_mem_nil)⟩) (List.forall_mem_cons.mpr ⟨(Or.inl t276.2.1), (fun _ h => absurd h List.not_mem_nil)⟩) dX11_init_137 (fun q282 La283 s284 o285 e286 e287 e288 t289 hX290 => ?_)
  have hf := hf q282 La283 e286 s284 e287 o285 e288
  have hn291 : La.1 ≤ o285.toNat := by rw [e288, Int.toNat_natCast]; exact (hX279 : sg_X La La273).1
  have t292 := t276.X hX290
  have hst293 := hst278.X hX290
  have hX294 := sg_X.tr (hX279) hX290
  refine gw_dup F rfl dX11_init_140 ?_
  refine gw_bipush F rfl dX11_init_141 ?_
  refine gk_BV F (gc_I F (S := [sg_r o285, sg_r o]) (As := [sg_i 40]) (CX4_init t289 (by decide) hf) t289.1 kw_194 kw_97 kw_317 kw_193 rfl hcX4_init ⟨by decide, by decide⟩ rfl rfl (Nat.le_of_ble_eq_true rfl) ⟨by decide, by decide⟩ dX11_init_143) (List.forall_mem_cons.mpr ⟨(Or.inl t292.2.1), (fun _ h => absurd h List.not_mem_nil)⟩) (List.forall_mem_cons.mpr ⟨(Or.inl t289.2.1), (List.forall_mem_cons.mpr ⟨(Or.inl t292.2.1), (fun _ h => absurd h List.not_mem_nil)⟩)⟩) (fun La295 s296 hX297 hf => ?_)
  have t298 := (sg_O_sx t292 t289 (by decide)).X hX297
  have t299 := (sg_O_sealed t289).X hX297
  have hst300 := (sg_St_sx hst293 t289 ⟨by decide, by decide, by decide⟩).X hX297
  have hX301 := (sg_X_sx (hX294) hn291).tr hX297
  obtain ⟨s302, e303⟩ : ∃ z : sg_M, z = sg_up s296 o 10 o285 := ⟨_, rfl⟩
  have hf := hf s302 e303
  refine gw_put5F F t298 (by decide) rfl sg_lay_RX11 (j := 10) (by decide) (D0 := tyX11 10) (fun _ => ⟨rfl, rfl⟩) t299.1 t299.2.1 e303 tyX11_ok nmX11 rfl hin rfl (tyX11_ok 10 (by decide)) rfl (host := "") kw_336 dX11_init_146 ?_
  refine gw_aload_n F 0 rfl rfl t298.1 dX11_init_149 ?_
  refine gy_new F (kd := 24) (T := TX4) (by decide) rfl sg_lay_RX4 tyX4_ok kw_316 kw_191 kw_97 ns_X4 nf_X4 nr_X4 (by decide) (by decide) (List.forall_mem_cons.mpr ⟨(Or.inl t298.2.1), (fun _ h => absurd h List.not_mem_nil)⟩) (List.forall_mem_cons.mpr ⟨(Or.inl t298.2.1), (fun _ h => absurd h List.not_mem_nil)⟩) dX11_init_150 (fun q304 La305 s306 o307 e308 e309 e310 t311 hX312 => ?_)
  have hf := hf q304 La305 e308 s306 e309 o307 e310
  have hn313 : La.1 ≤ o307.toNat := by rw [e310, Int.toNat_natCast]; exact (hX301 : sg_X La La295).1
  have t314 := t298.X hX312
  have hst315 := hst300.X hX312
  have hX316 := sg_X.tr (hX301) hX312
  refine gw_dup F rfl dX11_init_153 ?_
  refine gw_bipush F rfl dX11_init_154 ?_
  refine gk_BV F (gc_I F (S := [sg_r o307, sg_r o]) (As := [sg_i 21]) (CX4_init t311 (by decide) hf) t311.1 kw_194 kw_97 kw_317 kw_193 rfl hcX4_init ⟨by decide, by decide⟩ rfl rfl (Nat.le_of_ble_eq_true rfl) ⟨by decide, by decide⟩ dX11_init_156) (List.forall_mem_cons.mpr ⟨(Or.inl t314.2.1), (fun _ h => absurd h List.not_mem_nil)⟩) (List.forall_mem_cons.mpr ⟨(Or.inl t311.2.1), (List.forall_mem_cons.mpr ⟨(Or.inl t314.2.1), (fun _ h => absurd h List.not_mem_nil)⟩)⟩) (fun La317 s318 hX319 hf => ?_)
  have t320 := (sg_O_sx t314 t311 (by decide)).X hX319
  have t321 := (sg_O_sealed t311).X hX319
  have hst322 := (sg_St_sx hst315 t311 ⟨by decide, by decide, by decide⟩).X hX319
  have hX323 := (sg_X_sx (hX316) hn313).tr hX319
  obtain ⟨s324, e325⟩ : ∃ z : sg_M, z = sg_up s318 o 11 o307 := ⟨_, rfl⟩
  have hf := hf s324 e325
  refine gw_put5F F t320 (by decide) rfl sg_lay_RX11 (j := 11) (by decide) (D0 := tyX11 11) (fun _ => ⟨rfl, rfl⟩) t321.1 t321.2.1 e325 tyX11_ok nmX11 rfl hin rfl (tyX11_ok 11 (by decide)) rfl (host := "") kw_337 dX11_init_159 ?_
  refine gw_aload_n F 0 rfl rfl t320.1 dX11_init_162 ?_
  refine gy_new F (kd := 24) (T := TX4) (by decide) rfl sg_lay_RX4 tyX4_ok kw_316 kw_191 kw_97 ns_X4 nf_X4 nr_X4 (by decide) (by decide) (List.forall_mem_cons.mpr ⟨(Or.inl t320.2.1), (fun _ h => absurd h List.not_mem_nil)⟩) (List.forall_mem_cons.mpr ⟨(Or.inl t320.2.1), (fun _ h => absurd h List.not_mem_nil)⟩) dX11_init_163 (fun q326 La327 s328 o329 e330 e331 e332 t333 hX334 => ?_)
  have hf := hf q326 La327 e330 s328 e331 o329 e332
  have hn335 : La.1 ≤ o329.toNat := by rw [e332, Int.toNat_natCast]; exact (hX323 : sg_X La La317).1
  have t336 := t320.X hX334
  have hst337 := hst322.X hX334
  have hX338 := sg_X.tr (hX323) hX334
  refine gw_dup F rfl dX11_init_166 ?_
  refine gw_bipush F rfl dX11_init_167 ?_
  refine gk_BV F (gc_I F (S := [sg_r o329, sg_r o]) (As := [sg_i 101]) (CX4_init t333 (by decide) hf) t333.1 kw_194 kw_97 kw_317 kw_193 rfl hcX4_init ⟨by decide, by decide⟩ rfl rfl (Nat.le_of_ble_eq_true rfl) ⟨by decide, by decide⟩ dX11_init_169) (List.forall_mem_cons.mpr ⟨(Or.inl t336.2.1), (fun _ h => absurd h List.not_mem_nil)⟩) (List.forall_mem_cons.mpr ⟨(Or.inl t333.2.1), (List.forall_mem_cons.mpr ⟨(Or.inl t336.2.1), (fun _ h => absurd h List.not_mem_nil)⟩)⟩) (fun La339 s340 hX341 hf => ?_)
  have t342 := (sg_O_sx t336 t333 (by decide)).X hX341
  have t343 := (sg_O_sealed t333).X hX341
  have hst344 := (sg_St_sx hst337 t333 ⟨by decide, by decide, by decide⟩).X hX341
  have hX345 := (sg_X_sx (hX338) hn335).tr hX341
  obtain ⟨s346, e347⟩ : ∃ z : sg_M, z = sg_up s340 o 12 o329 := ⟨_, rfl⟩
  have hf := hf s346 e347
  refine gw_put5F F t342 (by decide) rfl sg_lay_RX11 (j := 12) (by decide) (D0 := tyX11 12) (fun _ => ⟨rfl, rfl⟩) t343.1 t343.2.1 e347 tyX11_ok nmX11 rfl hin rfl (tyX11_ok 12 (by decide)) rfl (host := "") kw_338 dX11_init_172 ?_
  refine gw_aload_n F 0 rfl rfl t342.1 dX11_init_175 ?_
  refine gy_new F (kd := 24) (T := TX4) (by decide) rfl sg_lay_RX4 tyX4_ok kw_316 kw_191 kw_97 ns_X4 nf_X4 nr_X4 (by decide) (by decide) (List.forall_mem_cons.mpr ⟨(Or.inl t342.2.1), (fun _ h => absurd h List.not_mem_nil)⟩) (List.forall_mem_cons.mpr ⟨(Or.inl t342.2.1), (fun _ h => absurd h List.not_mem_nil)⟩) dX11_init_176 (fun q348 La349 s350 o351 e352 e353 e354 t355 hX356 => ?_)
  have hf := hf q348 La349 e352 s350 e353 o351 e354
  have hn357 : La.1 ≤ o351.toNat := by rw [e354, Int.toNat_natCast]; exact (hX345 : sg_X La La339).1
  have t358 := t342.X hX356
  have hst359 := hst344.X hX356
  have hX360 := sg_X.tr (hX345) hX356
  refine gw_dup F rfl dX11_init_179 ?_
  refine gw_bipush F rfl dX11_init_180 ?_
  refine gk_BV F (gc_I F (S := [sg_r o351, sg_r o]) (As := [sg_i 40]) (CX4_init t355 (by decide) hf) t355.1 kw_194 kw_97 kw_317 kw_193 rfl hcX4_init ⟨by decide, by decide⟩ rfl rfl (Nat.le_of_ble_eq_true rfl) ⟨by decide, by decide⟩ dX11_init_182) (List.forall_mem_cons.mpr ⟨(Or.inl t358.2.1), (fun _ h => absurd h List.not_mem_nil)⟩) (List.forall_mem_cons.mpr ⟨(Or.inl t355.2.1), (List.forall_mem_cons.mpr ⟨(Or.inl t358.2.1), (fun _ h => absurd h List.not_mem_nil)⟩)⟩) (fun La361 s362 hX363 hf => ?_)
  have t364 := (sg_O_sx t358 t355 (by decide)).X hX363
  have t365 := (sg_O_sealed t355).X hX363
  have hst366 := (sg_St_sx hst359 t355 ⟨by decide, by decide, by decide⟩).X hX363
  have hX367 := (sg_X_sx (hX360) hn357).tr hX363
  obtain ⟨s368, e369⟩ : ∃ z : sg_M, z = sg_up s362 o 13 o351 := ⟨_, rfl⟩
  have hf := hf s368 e369
  refine gw_put5F F t364 (by decide) rfl sg_lay_RX11 (j := 13) (by decide) (D0 := tyX11 13) (fun _ => ⟨rfl, rfl⟩) t365.1 t365.2.1 e369 tyX11_ok nmX11 rfl hin rfl (tyX11_ok 13 (by decide)) rfl (host := "") kw_339 dX11_init_185 ?_
  refine gw_aload_n F 0 rfl rfl t364.1 dX11_init_188 ?_
  refine gy_new F (kd := 24) (T := TX4) (by decide) rfl sg_lay_RX4 tyX4_ok kw_316 kw_191 kw_97 ns_X4 nf_X4 nr_X4 (by decide) (by decide) (List.forall_mem_cons.mpr ⟨(Or.inl t364.2.1), (fun _ h => absurd h List.not_mem_nil)⟩) (List.forall_mem_cons.mpr ⟨(Or.inl t364.2.1), (fun _ h => absurd h List.not_mem_nil)⟩) dX11_init_189 (fun q370 La371 s372 o373 e374 e375 e376 t377 hX378 => ?_)
  have hf := hf q370 La371 e374 s372 e375 o373 e376
  have hn379 : La.1 ≤ o373.toNat := by rw [e376, Int.toNat_natCast]; exact (hX367 : sg_X La La361).1
  have t380 := t364.X hX378
  have hst381 := hst366.X hX378
  have hX382 := sg_X.tr (hX367) hX378
  refine gw_dup F rfl dX11_init_192 ?_
  refine gw_bipush F rfl dX11_init_193 ?_
  refine gk_BV F (gc_I F (S := [sg_r o373, sg_r o]) (As := [sg_i 40]) (CX4_init t377 (by decide) hf) t377.1 kw_194 kw_97 kw_317 kw_193 rfl hcX4_init ⟨by decide, by decide⟩ rfl rfl (Nat.le_of_ble_eq_true rfl) ⟨by decide, by decide⟩ dX11_init_195) (List.forall_mem_cons.mpr ⟨(Or.inl t380.2.1), (fun _ h => absurd h List.not_mem_nil)⟩) (List.forall_mem_cons.mpr ⟨(Or.inl t377.2.1), (List.forall_mem_cons.mpr ⟨(Or.inl t380.2.1), (fun _ h => absurd h List.not_mem_nil)⟩)⟩) (fun La383 s384 hX385 hf => ?_)
  have t386 := (sg_O_sx t380 t377 (by decide)).X hX385
  have t387 := (sg_O_sealed t377).X hX385
  have hst388 := (sg_St_sx hst381 t377 ⟨by decide, by decide, by decide⟩).X hX385
  have hX389 := (sg_X_sx (hX382) hn379).tr hX385
  obtain ⟨s390, e391⟩ : ∃ z : sg_M, z = sg_up s384 o 14 o373 := ⟨_, rfl⟩
  have hf := hf s390 e391
  refine gw_put5F F t386 (by decide) rfl sg_lay_RX11 (j := 14) (by decide) (D0 := tyX11 14) (fun _ => ⟨rfl, rfl⟩) t387.1 t387.2.1 e391 tyX11_ok nmX11 rfl hin rfl (tyX11_ok 14 (by decide)) rfl (host := "") kw_340 dX11_init_198 ?_
  refine gw_aload_n F 0 rfl rfl t386.1 dX11_init_201 ?_
  refine gy_new F (kd := 24) (T := TX4) (by decide) rfl sg_lay_RX4 tyX4_ok kw_316 kw_191 kw_97 ns_X4 nf_X4 nr_X4 (by decide) (by decide) (List.forall_mem_cons.mpr ⟨(Or.inl t386.2.1), (fun _ h => absurd h List.not_mem_nil)⟩) (List.forall_mem_cons.mpr ⟨(Or.inl t386.2.1), (fun _ h => absurd h List.not_mem_nil)⟩) dX11_init_202 (fun q392 La393 s394 o395 e396 e397 e398 t399 hX400 => ?_)
  have hf := hf q392 La393 e396 s394 e397 o395 e398
  have hn401 : La.1 ≤ o395.toNat := by rw [e398, Int.toNat_natCast]; exact (hX389 : sg_X La La383).1
  have t402 := t386.X hX400
  have hst403 := hst388.X hX400
  have hX404 := sg_X.tr (hX389) hX400
  refine gw_dup F rfl dX11_init_205 ?_
  refine gw_sipush F rfl dX11_init_206 ?_
  refine gk_BV F (gc_I F (S := [sg_r o395, sg_r o]) (As := [sg_i 200]) (CX4_init t399 (by decide) hf) t399.1 kw_194 kw_97 kw_317 kw_193 rfl hcX4_init ⟨by decide, by decide⟩ rfl rfl (Nat.le_of_ble_eq_true rfl) ⟨by decide, by decide⟩ dX11_init_209) (List.forall_mem_cons.mpr ⟨(Or.inl t402.2.1), (fun _ h => absurd h List.not_mem_nil)⟩) (List.forall_mem_cons.mpr ⟨(Or.inl t399.2.1), (List.forall_mem_cons.mpr ⟨(Or.inl t402.2.1), (fun _ h => absurd h List.not_mem_nil)⟩)⟩) (fun La405 s406 hX407 hf => ?_)
  have t408 := (sg_O_sx t402 t399 (by decide)).X hX407
  have t409 := (sg_O_sealed t399).X hX407
  have hst410 := (sg_St_sx hst403 t399 ⟨by decide, by decide, by decide⟩).X hX407
  have hX411 := (sg_X_sx (hX404) hn401).tr hX407
  obtain ⟨s412, e413⟩ : ∃ z : sg_M, z = sg_up s406 o 15 o395 := ⟨_, rfl⟩
  have hf := hf s412 e413
  refine gw_put5F F t408 (by decide) rfl sg_lay_RX11 (j := 15) (by decide) (D0 := tyX11 15) (fun _ => ⟨rfl, rfl⟩) t409.1 t409.2.1 e413 tyX11_ok nmX11 rfl hin rfl (tyX11_ok 15 (by decide)) rfl (host := "") kw_341 dX11_init_212 ?_
  refine gw_aload_n F 0 rfl rfl t408.1 dX11_init_215 ?_
  refine gw_iconst F dX11_init_216 ?_
  obtain ⟨s414, e415⟩ : ∃ z : sg_M, z = sg_up s412 o 16 0 := ⟨_, rfl⟩
  have hf := hf s414 e415
  refine gw_put0 F t408 (by decide) rfl sg_lay_RX11 (j := 16) (by decide) (by decide) e415 tyX11_ok nmX11 rfl (tyX11_ok 16 (by decide)) rfl (host := "") (.inl kw_342) dX11_init_217 ?_
  refine gw_aload_n F 0 rfl rfl t408.1 dX11_init_220 ?_
  refine gw_iconst F dX11_init_221 ?_
  obtain ⟨s416, e417⟩ : ∃ z : sg_M, z = sg_up s414 o 17 0 := ⟨_, rfl⟩
  have hf := hf s416 e417
  refine gw_put0 F t408 (by decide) rfl sg_lay_RX11 (j := 17) (by decide) (by decide) e417 tyX11_ok nmX11 rfl (tyX11_ok 17 (by decide)) rfl (host := "") (.inl kw_343) dX11_init_222 ?_
  refine gw_aload_n F 0 rfl rfl t408.1 dX11_init_225 ?_
  refine gw_iconst F dX11_init_226 ?_
  obtain ⟨s418, e419⟩ : ∃ z : sg_M, z = sg_up s416 o 18 (-1) := ⟨_, rfl⟩
  have hf := hf s418 e419
  refine gw_put0 F t408 (by decide) rfl sg_lay_RX11 (j := 18) (by decide) (by decide) e419 tyX11_ok nmX11 rfl (tyX11_ok 18 (by decide)) rfl (host := "") (.inl kw_344) dX11_init_227 ?_
  refine gw_aload_n F 0 rfl rfl t408.1 dX11_init_230 ?_
  refine gw_get5 F t408 (by decide) rfl sg_lay_RX11 (j := 2) (by decide) rfl (host := "") (.inl kw_328) dX11_init_231 (fun h420 => ?_)
  obtain ⟨g421, hf⟩ := hf
  refine gw_get4 F g421 (by decide) rfl sg_lay_RX7 (j := 0) (by decide) rfl (.inr kw_234) dX11_init_234 (fun h422 => ?_)
  refine gw_iconst F dX11_init_237 ?_
  refine gw_bipush F rfl dX11_init_238 ?_
  refine gw_iconst F dX11_init_240 ?_
  refine gw_iconst F dX11_init_241 ?_
  refine gw_iconst F dX11_init_242 ?_
  obtain ⟨g423, hf⟩ := hf
  have t424 := sg_nn h422 g423
  refine gk_HV F (gc_V F (S := []) (As := [sg_i 3, sg_i 30, sg_i 5, sg_i 0, sg_i 0]) (T := TX1) (N := 7) (CX1_addAlike t424 (by decide) (by decide) (by decide) (by decide) (by decide) hf) t424 (by decide) rfl kw_321 kw_94 kw_318 kw_319 kw_320 hcX1_addAlike ⟨by decide, by decide⟩ rfl rfl (Nat.le_of_ble_eq_true rfl) ⟨by decide, by decide⟩ dX11_init_243) (fun s425 hf => ?_)
  refine gw_aload_n F 0 rfl rfl t408.1 dX11_init_246 ?_
  refine gw_get5 F t408 (by decide) rfl sg_lay_RX11 (j := 2) (by decide) rfl (host := "") (.inl kw_328) dX11_init_247 (fun h426 => ?_)
  obtain ⟨g427, hf⟩ := hf
  refine gw_get4 F g427 (by decide) rfl sg_lay_RX7 (j := 0) (by decide) rfl (.inr kw_234) dX11_init_250 (fun h428 => ?_)
  obtain ⟨g429, hf⟩ := hf
  have t430 := sg_nn h428 g429
  refine gk_HV F (gc_V F (S := []) (As := []) (T := TX1) (N := 7) (CX1_fillUntold t430 hf) t430 (by decide) rfl kw_325 kw_94 kw_322 kw_323 kw_324 hcX1_fillUntold ⟨by decide, by decide⟩ rfl rfl (Nat.le_of_ble_eq_true rfl) ⟨by decide, by decide⟩ dX11_init_253) (fun s431 hf => ?_)
  obtain ⟨g433, hf⟩ := hf
  obtain ⟨La432, e434⟩ : ∃ z : sg_L, z = sg_se La405 o.toNat 11 := ⟨_, rfl⟩
  have hf := hf La432 e434
  refine gw_seal t408 ⟨by decide, by decide, by decide⟩ (by decide) (by decide) g433.1 g433.2 ?_
  rw [← e434]
  exact gr_BC F hf (e434 ▸ (sg_X.both hX411)) (by decide) (by decide) dX11_init_256

theorem dX11_signed_0 : decode cX11_signed 0 = .ok (.iload_n 0, 1) := by decide +kernel
theorem dX11_signed_1 : decode cX11_signed 1 = .ok (.ifCond .eq 8, 3) := by decide +kernel
theorem dX11_signed_4 : decode cX11_signed 4 = .ok (.iload_n 1, 1) := by decide +kernel
theorem dX11_signed_5 : decode cX11_signed 5 = .ok (.ineg, 1) := by decide +kernel
theorem dX11_signed_6 : decode cX11_signed 6 = .ok (.goto 4, 3) := by decide +kernel
theorem dX11_signed_9 : decode cX11_signed 9 = .ok (.iload_n 1, 1) := by decide +kernel
theorem dX11_signed_10 : decode cX11_signed 10 = .ok (.ireturn, 1) := by decide +kernel
theorem hcX11_signed : yX11_signed.cls ≠ "java/lang/invoke/MethodHandle" ∧ yX11_signed.cls ≠ "java/lang/invoke/VarHandle" ∧ (parseMethodDescriptor yX11_signed.desc).map (fun d => d.parameters.length) = some 2 := ⟨by decide +kernel, by decide +kernel, by decide +kernel⟩
def fX11_signed (x0 : Int) (x1 : Int) (Q : Int → Prop) : Prop := ((x0 = 0 → Q x1) ∧ (¬ (x0 = 0) → sg_R (-x1) ∧ Q (-x1)))
set_option maxHeartbeats 4000000 in
set_option maxRecDepth 100000 in
theorem CX11_signed {l : Launch} {G : sg_G} {La : sg_L} {s0 : sg_M} {x0 : Int} (r0 : sg_B x0) {x1 : Int} (r1 : sg_R x1) {Q : Int → Prop} (hf : fX11_signed x0 x1 Q) : sg_C l G yX11_signed cX11_signed 2 (some .int) 1 0 0 La s0 [sg_i x0, sg_i x1] (sg_PI La s0 Q) := by
  refine sg_body (by decide +kernel) (Nat.le_of_ble_eq_true rfl) ?_
  intro p e s m args below meth c F hnm
  unfold fX11_signed at hf
  show sg_W p l e (sg_rm 1 0 0) s m args below meth c (MQ below (sg_Q (some .int) G La s.heap.size (sg_PI La s0 Q)) args s 0 0 (sg_A La s.heap.size)) 2 G (sg_A La s.heap.size) La s0 0 0 0 [(0, sg_i x0), (1, sg_i x1)] []
  refine gw_iload_n F 0 rfl rfl dX11_signed_0 ?_
  refine gw_if_eq F (tgt := 9) dX11_signed_1 (by decide) (sg_B_R r0) (fun c1 => ?_) (fun c1 => ?_)
  · have hf := hf.1 c1
    refine gw_iload_n F 1 rfl rfl dX11_signed_9 ?_
    exact gr_PI F r1 hf (by decide) (by decide) dX11_signed_10
  · have hf := hf.2 c1
    refine gw_iload_n F 1 rfl rfl dX11_signed_4 ?_
    refine gw_ineg F rfl dX11_signed_5 ?_
    refine gw_goto F (tgt := 10) dX11_signed_6 (by decide) ?_
    obtain ⟨g2, hf⟩ := hf
    exact gr_PI F g2 hf (by decide) (by decide) dX11_signed_10

theorem dX9_isSign_0 : decode cX9_isSign 0 = .ok (.aload_n 0, 1) := by decide +kernel
theorem dX9_isSign_1 : decode cX9_isSign 1 = .ok (.getfield 25, 3) := by decide +kernel
theorem dX9_isSign_4 : decode cX9_isSign 4 = .ok (.ifCond .ne 23, 3) := by decide +kernel
theorem dX9_isSign_7 : decode cX9_isSign 7 = .ok (.aload_n 0, 1) := by decide +kernel
theorem dX9_isSign_8 : decode cX9_isSign 8 = .ok (.getfield 13, 3) := by decide +kernel
theorem dX9_isSign_11 : decode cX9_isSign 11 = .ok (.iconst 3, 1) := by decide +kernel
theorem dX9_isSign_12 : decode cX9_isSign 12 = .ok (.if_icmp .ne 15, 3) := by decide +kernel
theorem dX9_isSign_15 : decode cX9_isSign 15 = .ok (.aload_n 0, 1) := by decide +kernel
theorem dX9_isSign_16 : decode cX9_isSign 16 = .ok (.getfield 22, 3) := by decide +kernel
theorem dX9_isSign_19 : decode cX9_isSign 19 = .ok (.iload_n 1, 1) := by decide +kernel
theorem dX9_isSign_20 : decode cX9_isSign 20 = .ok (.if_icmp .ne 7, 3) := by decide +kernel
theorem dX9_isSign_23 : decode cX9_isSign 23 = .ok (.iconst 1, 1) := by decide +kernel
theorem dX9_isSign_24 : decode cX9_isSign 24 = .ok (.goto 4, 3) := by decide +kernel
theorem dX9_isSign_27 : decode cX9_isSign 27 = .ok (.iconst 0, 1) := by decide +kernel
theorem dX9_isSign_28 : decode cX9_isSign 28 = .ok (.ireturn, 1) := by decide +kernel
theorem hcX9_isSign : yX9_isSign.cls ≠ "java/lang/invoke/MethodHandle" ∧ yX9_isSign.cls ≠ "java/lang/invoke/VarHandle" ∧ (parseMethodDescriptor yX9_isSign.desc).map (fun d => d.parameters.length) = some 1 := ⟨by decide +kernel, by decide +kernel, by decide +kernel⟩
def fX9_isSign (s0 : sg_M) (x1 : Int) (Q : Int → Prop) : Prop := (((s0 3 6) ≠ 0 → Q 0) ∧ ((s0 3 6) = 0 → (((s0 3 2) ≠ 3 → Q 0) ∧ ((s0 3 2) = 3 → (((s0 3 5) ≠ x1 → Q 0) ∧ ((s0 3 5) = x1 → Q 1))))))
set_option maxHeartbeats 4000000 in
set_option maxRecDepth 100000 in
theorem CX9_isSign {l : Launch} {G : sg_G} {La : sg_L} {s0 : sg_M} (hst : sg_St La) {x1 : Int} (r1 : sg_R x1) {Q : Int → Prop} (hf : fX9_isSign s0 x1 Q) : sg_C l G yX9_isSign cX9_isSign 2 (some .boolean) 1 0 0 La s0 [sg_r 3, sg_i x1] (sg_PZ La s0 Q) := by
  refine sg_body (by decide +kernel) (Nat.le_of_ble_eq_true rfl) ?_
  intro p e s m args below meth c F hnm
  unfold fX9_isSign at hf
  show sg_W p l e (sg_rm 1 0 0) s m args below meth c (MQ below (sg_Q (some .boolean) G La s.heap.size (sg_PZ La s0 Q)) args s 0 0 (sg_A La s.heap.size)) 2 G (sg_A La s.heap.size) La s0 0 0 0 [(0, sg_r 3), (1, sg_i x1)] []
  refine gw_aload_n F 0 rfl rfl (by decide) dX9_isSign_0 ?_
  refine gw_get0 F (so_3 hst) (by decide) rfl sg_lay_RX9 (j := 6) (by decide) rfl (host := "") (.inl kw_144) dX9_isSign_1 (fun h1 => ?_)
  refine gw_if_ne F (tgt := 27) dX9_isSign_4 (by decide) h1 (fun c2 => ?_) (fun c2 => ?_)
  · have hf := hf.1 c2
    refine gw_iconst F dX9_isSign_27 ?_
    exact gr_PZ F (by decide) hf (by decide) (by decide) dX9_isSign_28
  · have hf := hf.2 c2
    refine gw_aload_n F 0 rfl rfl (by decide) dX9_isSign_7 ?_
    refine gw_get0 F (so_3 hst) (by decide) rfl sg_lay_RX9 (j := 2) (by decide) rfl (host := "") (.inl kw_140) dX9_isSign_8 (fun h3 => ?_)
    refine gw_iconst F dX9_isSign_11 ?_
    refine gw_icmp_ne F (tgt := 27) dX9_isSign_12 (by decide) h3 (by decide) (fun c4 => ?_) (fun c4 => ?_)
    · have hf := hf.1 c4
      refine gw_iconst F dX9_isSign_27 ?_
      exact gr_PZ F (by decide) hf (by decide) (by decide) dX9_isSign_28
    · have hf := hf.2 c4
      refine gw_aload_n F 0 rfl rfl (by decide) dX9_isSign_15 ?_
      refine gw_get0 F (so_3 hst) (by decide) rfl sg_lay_RX9 (j := 5) (by decide) rfl (host := "") (.inl kw_143) dX9_isSign_16 (fun h5 => ?_)
      refine gw_iload_n F 1 rfl rfl dX9_isSign_19 ?_
      refine gw_icmp_ne F (tgt := 27) dX9_isSign_20 (by decide) h5 r1 (fun c6 => ?_) (fun c6 => ?_)
      · have hf := hf.1 c6
        refine gw_iconst F dX9_isSign_27 ?_
        exact gr_PZ F (by decide) hf (by decide) (by decide) dX9_isSign_28
      · have hf := hf.2 c6
        refine gw_iconst F dX9_isSign_23 ?_
        refine gw_goto F (tgt := 28) dX9_isSign_24 (by decide) ?_
        exact gr_PZ F (by decide) hf (by decide) (by decide) dX9_isSign_28
