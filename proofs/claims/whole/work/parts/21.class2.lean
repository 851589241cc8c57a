theorem dX11_form_0 : decode cX11_form 0 = .ok (.iload_n 1, 1) := by decide +kernel
theorem dX11_form_1 : decode cX11_form 1 = .ok (.iconst 1, 1) := by decide +kernel
theorem dX11_form_2 : decode cX11_form 2 = .ok (.if_icmp .lt 34, 3) := by decide +kernel
theorem dX11_form_5 : decode cX11_form 5 = .ok (.iload_n 2, 1) := by decide +kernel
theorem dX11_form_6 : decode cX11_form 6 = .ok (.bipush 20, 2) := by decide +kernel
theorem dX11_form_8 : decode cX11_form 8 = .ok (.if_icmp .gt 28, 3) := by decide +kernel
theorem dX11_form_11 : decode cX11_form 11 = .ok (.iload_n 1, 1) := by decide +kernel
theorem dX11_form_12 : decode cX11_form 12 = .ok (.iload_n 2, 1) := by decide +kernel
theorem dX11_form_13 : decode cX11_form 13 = .ok (.if_icmp .gt 23, 3) := by decide +kernel
theorem dX11_form_16 : decode cX11_form 16 = .ok (.iload_n 2, 1) := by decide +kernel
theorem dX11_form_17 : decode cX11_form 17 = .ok (.iload_n 1, 1) := by decide +kernel
theorem dX11_form_18 : decode cX11_form 18 = .ok (.isub, 1) := by decide +kernel
theorem dX11_form_19 : decode cX11_form 19 = .ok (.iconst 5, 1) := by decide +kernel
theorem dX11_form_20 : decode cX11_form 20 = .ok (.if_icmp .gt 16, 3) := by decide +kernel
theorem dX11_form_23 : decode cX11_form 23 = .ok (.aload_n 0, 1) := by decide +kernel
theorem dX11_form_24 : decode cX11_form 24 = .ok (.getfield 39, 3) := by decide +kernel
theorem dX11_form_27 : decode cX11_form 27 = .ok (.getfield 237, 3) := by decide +kernel
theorem dX11_form_30 : decode cX11_form 30 = .ok (.getfield 241, 3) := by decide +kernel
theorem dX11_form_33 : decode cX11_form 33 = .ok (.ifCond .ne 6, 3) := by decide +kernel
theorem dX11_form_36 : decode cX11_form 36 = .ok (.bipush (-2), 2) := by decide +kernel
theorem dX11_form_38 : decode cX11_form 38 = .ok (.ireturn, 1) := by decide +kernel
theorem dX11_form_39 : decode cX11_form 39 = .ok (.aload_n 0, 1) := by decide +kernel
theorem dX11_form_40 : decode cX11_form 40 = .ok (.getfield 47, 3) := by decide +kernel
theorem dX11_form_43 : decode cX11_form 43 = .ok (.aload_n 0, 1) := by decide +kernel
theorem dX11_form_44 : decode cX11_form 44 = .ok (.getfield 39, 3) := by decide +kernel
theorem dX11_form_47 : decode cX11_form 47 = .ok (.getfield 112, 3) := by decide +kernel
theorem dX11_form_50 : decode cX11_form 50 = .ok (.invokevirtual 312, 3) := by decide +kernel
theorem dX11_form_53 : decode cX11_form 53 = .ok (.iconst (-1), 1) := by decide +kernel
theorem dX11_form_54 : decode cX11_form 54 = .ok (.istore_n 3, 1) := by decide +kernel
theorem dX11_form_55 : decode cX11_form 55 = .ok (.bipush (-2), 2) := by decide +kernel
theorem dX11_form_57 : decode cX11_form 57 = .ok (.istore 4, 2) := by decide +kernel
theorem dX11_form_59 : decode cX11_form 59 = .ok (.iload_n 1, 1) := by decide +kernel
theorem dX11_form_60 : decode cX11_form 60 = .ok (.istore 5, 2) := by decide +kernel
theorem dX11_form_62 : decode cX11_form 62 = .ok (.iload 5, 2) := by decide +kernel
theorem dX11_form_64 : decode cX11_form 64 = .ok (.iload_n 2, 1) := by decide +kernel
theorem dX11_form_65 : decode cX11_form 65 = .ok (.if_icmp .gt 61, 3) := by decide +kernel
theorem dX11_form_68 : decode cX11_form 68 = .ok (.iload_n 1, 1) := by decide +kernel
theorem dX11_form_69 : decode cX11_form 69 = .ok (.istore 6, 2) := by decide +kernel
theorem dX11_form_71 : decode cX11_form 71 = .ok (.iload 6, 2) := by decide +kernel
theorem dX11_form_73 : decode cX11_form 73 = .ok (.iload_n 2, 1) := by decide +kernel
theorem dX11_form_74 : decode cX11_form 74 = .ok (.if_icmp .gt 46, 3) := by decide +kernel
theorem dX11_form_77 : decode cX11_form 77 = .ok (.aload_n 0, 1) := by decide +kernel
theorem dX11_form_78 : decode cX11_form 78 = .ok (.getfield 47, 3) := by decide +kernel
theorem dX11_form_81 : decode cX11_form 81 = .ok (.iload 5, 2) := by decide +kernel
theorem dX11_form_83 : decode cX11_form 83 = .ok (.iload 6, 2) := by decide +kernel
theorem dX11_form_85 : decode cX11_form 85 = .ok (.invokevirtual 316, 3) := by decide +kernel
theorem dX11_form_88 : decode cX11_form 88 = .ok (.aload_n 0, 1) := by decide +kernel
theorem dX11_form_89 : decode cX11_form 89 = .ok (.invokevirtual 319, 3) := by decide +kernel
theorem dX11_form_92 : decode cX11_form 92 = .ok (.istore 7, 2) := by decide +kernel
theorem dX11_form_94 : decode cX11_form 94 = .ok (.iload 7, 2) := by decide +kernel
theorem dX11_form_96 : decode cX11_form 96 = .ok (.iload 4, 2) := by decide +kernel
theorem dX11_form_98 : decode cX11_form 98 = .ok (.if_icmp .le 16, 3) := by decide +kernel
theorem dX11_form_101 : decode cX11_form 101 = .ok (.iload 7, 2) := by decide +kernel
theorem dX11_form_103 : decode cX11_form 103 = .ok (.istore 4, 2) := by decide +kernel
theorem dX11_form_105 : decode cX11_form 105 = .ok (.bipush 100, 2) := by decide +kernel
theorem dX11_form_107 : decode cX11_form 107 = .ok (.iload 5, 2) := by decide +kernel
theorem dX11_form_109 : decode cX11_form 109 = .ok (.imul, 1) := by decide +kernel
theorem dX11_form_110 : decode cX11_form 110 = .ok (.iload 6, 2) := by decide +kernel
theorem dX11_form_112 : decode cX11_form 112 = .ok (.iadd, 1) := by decide +kernel
theorem dX11_form_113 : decode cX11_form 113 = .ok (.istore_n 3, 1) := by decide +kernel
theorem dX11_form_114 : decode cX11_form 114 = .ok (.iinc 6 1, 3) := by decide +kernel
theorem dX11_form_117 : decode cX11_form 117 = .ok (.goto (-46), 3) := by decide +kernel
theorem dX11_form_120 : decode cX11_form 120 = .ok (.iinc 5 1, 3) := by decide +kernel
theorem dX11_form_123 : decode cX11_form 123 = .ok (.goto (-61), 3) := by decide +kernel
theorem dX11_form_126 : decode cX11_form 126 = .ok (.iload_n 3, 1) := by decide +kernel
theorem dX11_form_127 : decode cX11_form 127 = .ok (.ifCond .le 9, 3) := by decide +kernel
theorem dX11_form_130 : decode cX11_form 130 = .ok (.aload_n 0, 1) := by decide +kernel
theorem dX11_form_131 : decode cX11_form 131 = .ok (.iload 4, 2) := by decide +kernel
theorem dX11_form_133 : decode cX11_form 133 = .ok (.putfield 109, 3) := by decide +kernel
theorem dX11_form_136 : decode cX11_form 136 = .ok (.iload_n 3, 1) := by decide +kernel
theorem dX11_form_137 : decode cX11_form 137 = .ok (.ireturn, 1) := by decide +kernel
theorem hcX11_form : yX11_form.cls ≠ "java/lang/invoke/MethodHandle" ∧ yX11_form.cls ≠ "java/lang/invoke/VarHandle" ∧ (parseMethodDescriptor yX11_form.desc).map (fun d => d.parameters.length) = some 2 := ⟨by decide +kernel, by decide +kernel, by decide +kernel⟩
def fX11_form_j114 (x6_71 : Int) (s22 : sg_M) (k71 : sg_M → Int → Int → Int → Prop) (x3_114 : Int) (x4_114 : Int) : Prop := sg_R (x6_71 + 1) ∧ k71 s22 x3_114 x4_114 (x6_71 + 1)
def fX11_form_L71 (La : sg_L) (x2 : Int) (x5_62 : Int) (k120 : sg_M → Int → Int → Prop) : Nat → sg_M → Int → Int → Int → Prop
  | 0, _, _, _, _ => False
  | n_71 + 1, s_71, x3_71, x4_71, x6_71 => ((x2 < x6_71 → k120 s_71 x3_71 x4_71) ∧ (¬ (x2 < x6_71) → fX1_thicken s_71 27 x5_62 x6_71 (fun s19 => fX11_rangeOfTrial La s19 (fun u20 s22 => ((u20 ≤ x4_71 → (fX11_form_j114 x6_71 s22 (fX11_form_L71 La x2 x5_62 k120 n_71)) x3_71 x4_71) ∧ (¬ (u20 ≤ x4_71) → sg_R ((100 * x5_62) + x6_71) ∧ (fX11_form_j114 x6_71 s22 (fX11_form_L71 La x2 x5_62 k120 n_71)) ((100 * x5_62) + x6_71) u20))))))
def fX11_form_L62 (La : sg_L) (x1 : Int) (x2 : Int) (k126 : sg_M → Int → Int → Prop) : Nat → sg_M → Int → Int → Int → Prop
  | 0, _, _, _, _ => False
  | n_62 + 1, s_62, x3_62, x4_62, x5_62 => ((x2 < x5_62 → k126 s_62 x3_62 x4_62) ∧ (¬ (x2 < x5_62) → (∃ n26 : Nat, fX11_form_L71 La x2 x5_62 (fun s_120e71 x3_120e71 x4_120e71 => sg_R (x5_62 + 1) ∧ (fX11_form_L62 La x1 x2 k126 n_62) s_120e71 x3_120e71 x4_120e71 (x5_62 + 1)) n26 s_62 x3_62 x4_62 x1)))
def fX11_form (La : sg_L) (s0 : sg_M) (x1 : Int) (x2 : Int) (Q : Int → sg_M → Prop) : Prop := ((x1 < 1 → Q (-2) s0) ∧ (¬ (x1 < 1) → ((20 < x2 → Q (-2) s0) ∧ (¬ (20 < x2) → ((x2 < x1 → Q (-2) s0) ∧ (¬ (x2 < x1) → sg_R (x2 - x1) ∧ ((5 < (x2 - x1) → Q (-2) s0) ∧ (¬ (5 < (x2 - x1)) → (((s0 20 2) ≠ 0 → (0 ≤ (s0 4 0)) ∧ fX1_copyFrom s0 27 (s0 4 0) (fun s15 => (∃ n28 : Nat, fX11_form_L62 La x1 x2 (fun s_126e62 x3_126e62 x4_126e62 => ((x3_126e62 ≤ 0 → Q x3_126e62 s_126e62) ∧ (¬ (x3_126e62 ≤ 0) → ∀ s30 : sg_M, s30 = sg_up s_126e62 0 18 x4_126e62 → Q x3_126e62 s30))) n28 s15 (-1) (-2) x1))) ∧ ((s0 20 2) = 0 → Q (-2) s0))))))))))
set_option maxHeartbeats 4000000 in
set_option maxRecDepth 100000 in
theorem CX11_form {l : Launch} {G : sg_G} {La : sg_L} {s0 : sg_M} (hst : sg_St La) {x1 : Int} (r1 : sg_R x1) {x2 : Int} (r2 : sg_R x2) {Q : Int → sg_M → Prop} (hf : fX11_form La s0 x1 x2 Q) : sg_C l G yX11_form cX11_form 8 (some .int) 7 0 0 La s0 [sg_r 0, sg_i x1, sg_i x2] (sg_HI La Q) := by
  refine sg_body (by decide +kernel) (Nat.le_of_ble_eq_true rfl) ?_
  intro p e s m args below meth c F hnm
  unfold fX11_form at hf
  show sg_W p l e (sg_rm 7 0 0) s m args below meth c (MQ below (sg_Q (some .int) G La s.heap.size (sg_HI La Q)) args s 0 0 (sg_A La s.heap.size)) 8 G (sg_A La s.heap.size) La s0 0 0 0 [(0, sg_r 0), (1, sg_i x1), (2, sg_i x2)] []
  refine gw_iload_n F 1 rfl rfl dX11_form_0 ?_
  refine gw_iconst F dX11_form_1 ?_
  refine gw_icmp_lt F (tgt := 36) dX11_form_2 (by decide) r1 (by decide) (fun c1 => ?_) (fun c1 => ?_)
  · have hf := hf.1 c1
    refine gw_bipush F rfl dX11_form_36 ?_
    exact gr_HI F (by decide) hf (by decide) (by decide) dX11_form_38
  · have hf := hf.2 c1
    refine gw_iload_n F 2 rfl rfl dX11_form_5 ?_
    refine gw_bipush F rfl dX11_form_6 ?_
    refine gw_icmp_gt F (tgt := 36) dX11_form_8 (by decide) r2 (by decide) (fun c2 => ?_) (fun c2 => ?_)
    · have hf := hf.1 c2
      refine gw_bipush F rfl dX11_form_36 ?_
      exact gr_HI F (by decide) hf (by decide) (by decide) dX11_form_38
    · have hf := hf.2 c2
      refine gw_iload_n F 1 rfl rfl dX11_form_11 ?_
      refine gw_iload_n F 2 rfl rfl dX11_form_12 ?_
      refine gw_icmp_gt F (tgt := 36) dX11_form_13 (by decide) r1 r2 (fun c3 => ?_) (fun c3 => ?_)
      · have hf := hf.1 c3
        refine gw_bipush F rfl dX11_form_36 ?_
        exact gr_HI F (by decide) hf (by decide) (by decide) dX11_form_38
      · have hf := hf.2 c3
        refine gw_iload_n F 2 rfl rfl dX11_form_16 ?_
        refine gw_iload_n F 1 rfl rfl dX11_form_17 ?_
        refine gw_isub F rfl dX11_form_18 ?_
        refine gw_iconst F dX11_form_19 ?_
        obtain ⟨g4, hf⟩ := hf
        refine gw_icmp_gt F (tgt := 36) dX11_form_20 (by decide) g4 (by decide) (fun c5 => ?_) (fun c5 => ?_)
        · have hf := hf.1 c5
          refine gw_bipush F rfl dX11_form_36 ?_
          exact gr_HI F (by decide) hf (by decide) (by decide) dX11_form_38
        · have hf := hf.2 c5
          refine gw_aload_n F 0 rfl rfl (by decide) dX11_form_23 ?_
          refine gw_get7 F (so_0 hst) (by decide) rfl sg_lay_RX11 (j := 2) (by decide) (o1 := 4) (by first | rfl | omega) rfl (host := "") (.inl kw_328) dX11_form_24 (fun h6 => ?_)
          refine gw_get7 F (so_4 hst) (by decide) rfl sg_lay_RX7 (j := 3) (by decide) (o1 := 20) (by first | rfl | omega) rfl (.inr kw_240) dX11_form_27 (fun h7 => ?_)
          refine gw_get0 F (so_20 hst) (by decide) rfl sg_lay_RX2 (j := 2) (by decide) rfl (.inr kw_230) dX11_form_30 (fun h8 => ?_)
          refine gw_if_ne F (tgt := 39) dX11_form_33 (by decide) h8 (fun c9 => ?_) (fun c9 => ?_)
          · have hf := hf.1 c9
            refine gw_aload_n F 0 rfl rfl (by decide) dX11_form_39 ?_
            refine gw_get7 F (so_0 hst) (by decide) rfl sg_lay_RX11 (j := 4) (by decide) (o1 := 27) (by first | rfl | omega) rfl (host := "") (.inl kw_330) dX11_form_40 (fun h10 => ?_)
            refine gw_aload_n F 0 rfl rfl (by decide) dX11_form_43 ?_
            refine gw_get7 F (so_0 hst) (by decide) rfl sg_lay_RX11 (j := 2) (by decide) (o1 := 4) (by first | rfl | omega) rfl (host := "") (.inl kw_328) dX11_form_44 (fun h11 => ?_)
            refine gw_get4 F (so_4 hst) (by decide) rfl sg_lay_RX7 (j := 0) (by decide) rfl (.inr kw_234) dX11_form_47 (fun h12 => ?_)
            obtain ⟨g13, hf⟩ := hf
            have t14 := sg_nn h12 g13
            refine gk_HV F (gc_V F (S := []) (As := [sg_r (s0 4 0)]) (T := TX1) (N := 7) (CX1_copyFrom (so_27 hst) t14 hf) (so_27 hst) (by decide) rfl kw_776 kw_94 kw_773 kw_774 kw_775 hcX1_copyFrom ⟨by decide, by decide⟩ rfl rfl (Nat.le_of_ble_eq_true rfl) ⟨by decide, by decide⟩ dX11_form_50) (fun s15 hf => ?_)
            refine gw_iconst F dX11_form_53 ?_
            refine gw_istore_n F rfl (by decide) rfl dX11_form_54 ?_
            refine gw_bipush F rfl dX11_form_55 ?_
            refine gw_istore F (by decide) rfl dX11_form_57 ?_
            refine gw_iload_n F 3 rfl rfl dX11_form_59 ?_
            refine gw_istore F (by decide) rfl dX11_form_60 ?_
            have L62 : ∀ (k126 : sg_M → Int → Int → Prop) (hk126 : ∀ (s_126e62 : sg_M) (x3_126e62 : Int) (x4_126e62 : Int), sg_R x3_126e62 → sg_R x4_126e62 → k126 s_126e62 x3_126e62 x4_126e62 → sg_W p l e (sg_rm 7 0 0) s m args below meth c (MQ below (sg_Q (some .int) G La s.heap.size (sg_HI La Q)) args s 0 0 (sg_A La s.heap.size)) 8 G (sg_A La s.heap.size) La s_126e62 0 0 126 [(0, sg_r 0), (3, sg_i x3_126e62), (4, sg_i x4_126e62)] []), ∀ n_62 : Nat, ∀ (s_62 : sg_M) (x3_62 : Int) (x4_62 : Int) (x5_62 : Int), sg_R x3_62 → sg_R x4_62 → sg_R x5_62 → fX11_form_L62 La x1 x2 k126 n_62 s_62 x3_62 x4_62 x5_62 → sg_W p l e (sg_rm 7 0 0) s m args below meth c (MQ below (sg_Q (some .int) G La s.heap.size (sg_HI La Q)) args s 0 0 (sg_A La s.heap.size)) 8 G (sg_A La s.heap.size) La s_62 0 0 62 [(0, sg_r 0), (1, sg_i x1), (2, sg_i x2), (3, sg_i x3_62), (4, sg_i x4_62), (5, sg_i x5_62)] [] := by
              intro k126 hk126 n_62
              induction n_62 with
              | zero => intro s_62 x3_62 x4_62 x5_62 r3_62 r4_62 r5_62 hf; exact hf.elim
              | succ n_62 ih =>
                intro s_62 x3_62 x4_62 x5_62 r3_62 r4_62 r5_62 hf
                unfold fX11_form_L62 at hf
                refine gw_iload F 5 rfl dX11_form_62 ?_
                refine gw_iload_n F 2 rfl rfl dX11_form_64 ?_
                refine gw_icmp_gt F (tgt := 126) dX11_form_65 (by decide) r5_62 r2 (fun c16 => ?_) (fun c16 => ?_)
                · have hf := hf.1 c16
                  refine gw_sub [0, 3, 4] rfl ?_
                  exact hk126 s_62 x3_62 x4_62 r3_62 r4_62 hf
                · have hf := hf.2 c16
                  refine gw_iload_n F 1 rfl rfl dX11_form_68 ?_
                  refine gw_istore F (by decide) rfl dX11_form_69 ?_
                  have L71 : ∀ (k120 : sg_M → Int → Int → Prop) (hk120 : ∀ (s_120e71 : sg_M) (x3_120e71 : Int) (x4_120e71 : Int), sg_R x3_120e71 → sg_R x4_120e71 → k120 s_120e71 x3_120e71 x4_120e71 → sg_W p l e (sg_rm 7 0 0) s m args below meth c (MQ below (sg_Q (some .int) G La s.heap.size (sg_HI La Q)) args s 0 0 (sg_A La s.heap.size)) 8 G (sg_A La s.heap.size) La s_120e71 0 0 120 [(0, sg_r 0), (1, sg_i x1), (2, sg_i x2), (3, sg_i x3_120e71), (4, sg_i x4_120e71), (5, sg_i x5_62)] []), ∀ n_71 : Nat, ∀ (s_71 : sg_M) (x3_71 : Int) (x4_71 : Int) (x6_71 : Int), sg_R x3_71 → sg_R x4_71 → sg_R x6_71 → fX11_form_L71 La x2 x5_62 k120 n_71 s_71 x3_71 x4_71 x6_71 → sg_W p l e (sg_rm 7 0 0) s m args below meth c (MQ below (sg_Q (some .int) G La s.heap.size (sg_HI La Q)) args s 0 0 (sg_A La s.heap.size)) 8 G (sg_A La s.heap.size) La s_71 0 0 71 [(0, sg_r 0), (1, sg_i x1), (2, sg_i x2), (3, sg_i x3_71), (4, sg_i x4_71), (5, sg_i x5_62), (6, sg_i x6_71)] [] := by
                    intro k120 hk120 n_71
                    induction n_71 with
                    | zero => intro s_71 x3_71 x4_71 x6_71 r3_71 r4_71 r6_71 hf; exact hf.elim
                    | succ n_71 ih =>
                      intro s_71 x3_71 x4_71 x6_71 r3_71 r4_71 r6_71 hf
                      unfold fX11_form_L71 at hf
                      refine gw_iload F 6 rfl dX11_form_71 ?_
                      refine gw_iload_n F 2 rfl rfl dX11_form_73 ?_
                      refine gw_icmp_gt F (tgt := 120) dX11_form_74 (by decide) r6_71 r2 (fun c17 => ?_) (fun c17 => ?_)
                      · have hf := hf.1 c17
                        refine gw_sub [0, 1, 2, 3, 4, 5] rfl ?_
                        exact hk120 s_71 x3_71 x4_71 r3_71 r4_71 hf
                      · have hf := hf.2 c17
                        refine gw_aload_n F 0 rfl rfl (by decide) dX11_form_77 ?_
                        refine gw_get7 F (so_0 hst) (by decide) rfl sg_lay_RX11 (j := 4) (by decide) (o1 := 27) (by first | rfl | omega) rfl (host := "") (.inl kw_330) dX11_form_78 (fun h18 => ?_)
                        refine gw_iload F 5 rfl dX11_form_81 ?_
                        refine gw_iload F 6 rfl dX11_form_83 ?_
                        refine gk_HV F (gc_V F (S := []) (As := [sg_i x5_62, sg_i x6_71]) (T := TX1) (N := 7) (CX1_thicken (so_27 hst) r5_62 r6_71 hf) (so_27 hst) (by decide) rfl kw_780 kw_94 kw_777 kw_778 kw_779 hcX1_thicken ⟨by decide, by decide⟩ rfl rfl (Nat.le_of_ble_eq_true rfl) ⟨by decide, by decide⟩ dX11_form_85) (fun s19 hf => ?_)
                        refine gw_aload_n F 0 rfl rfl (by decide) dX11_form_88 ?_
                        refine gk_HI F (gc_V F (S := []) (As := []) (T := TX11) (N := 19) (CX11_rangeOfTrial hst hf) (so_0 hst) (by decide) rfl kw_783 kw_90 kw_781 kw_782 kw_30 hcX11_rangeOfTrial ⟨by decide, by decide⟩ rfl rfl (Nat.le_of_ble_eq_true rfl) ⟨by decide, by decide⟩ dX11_form_89) (fun u20 s22 h21 hf => ?_)
                        refine gw_istore F (by decide) rfl dX11_form_92 ?_
                        refine gw_iload F 0 rfl dX11_form_94 ?_
                        refine gw_iload F 5 rfl dX11_form_96 ?_
                        have J114 : ∀ (x3_114 : Int) (x4_114 : Int), sg_R x3_114 → sg_R x4_114 → (fX11_form_j114 x6_71 s22 (fX11_form_L71 La x2 x5_62 k120 n_71)) x3_114 x4_114 → sg_W p l e (sg_rm 7 0 0) s m args below meth c (MQ below (sg_Q (some .int) G La s.heap.size (sg_HI La Q)) args s 0 0 (sg_A La s.heap.size)) 8 G (sg_A La s.heap.size) La s22 0 0 114 [(0, sg_r 0), (1, sg_i x1), (2, sg_i x2), (3, sg_i x3_114), (4, sg_i x4_114), (5, sg_i x5_62), (6, sg_i x6_71)] [] := by
                          intro x3_114 x4_114 r3_114 r4_114 hf
                          unfold fX11_form_j114 at hf
                          refine gw_iinc F (z := (x6_71 + 1)) 6 rfl (by omega) (by decide) rfl dX11_form_114 ?_
                          refine gw_goto F (tgt := 71) dX11_form_117 (by decide) ?_
                          obtain ⟨g23, hf⟩ := hf
                          refine gw_sub [1, 2, 3, 4, 5, 6, 0] rfl ?_
                          exact ih s22 x3_114 x4_114 (x6_71 + 1) r3_114 r4_114 g23 hf
                        refine gw_icmp_le F (tgt := 114) dX11_form_98 (by decide) h21 r4_71 (fun c24 => ?_) (fun c24 => ?_)
                        · have hf := hf.1 c24
                          refine gw_sub [1, 2, 3, 4, 5, 6, 7] rfl ?_
                          exact J114 x3_71 x4_71 r3_71 r4_71 hf
                        · have hf := hf.2 c24
                          refine gw_iload F 0 rfl dX11_form_101 ?_
                          refine gw_istore F (by decide) rfl dX11_form_103 ?_
                          refine gw_bipush F rfl dX11_form_105 ?_
                          refine gw_iload F 6 rfl dX11_form_107 ?_
                          refine gw_imul F rfl dX11_form_109 ?_
                          refine gw_iload F 7 rfl dX11_form_110 ?_
                          refine gw_iadd F rfl dX11_form_112 ?_
                          refine gw_istore_n F rfl (by decide) rfl dX11_form_113 ?_
                          obtain ⟨g25, hf⟩ := hf
                          refine gw_sub [3, 4, 5, 0, 1, 6, 7] rfl ?_
                          exact J114 ((100 * x5_62) + x6_71) u20 g25 h21 hf
                  obtain ⟨n26, hf⟩ := hf
                  refine gw_sub [1, 2, 3, 4, 5, 6, 0] rfl ?_
                  refine L71 _ (fun s_120e71 x3_120e71 x4_120e71 r3_120e71 r4_120e71 hf => ?_) n26 s_62 x3_62 x4_62 x1 r3_62 r4_62 r1 hf
                  refine gw_iinc F (z := (x5_62 + 1)) 5 rfl (by omega) (by decide) rfl dX11_form_120 ?_
                  refine gw_goto F (tgt := 62) dX11_form_123 (by decide) ?_
                  obtain ⟨g27, hf⟩ := hf
                  refine gw_sub [1, 2, 3, 4, 5, 0] rfl ?_
                  exact ih s_120e71 x3_120e71 x4_120e71 (x5_62 + 1) r3_120e71 r4_120e71 g27 hf
            obtain ⟨n28, hf⟩ := hf
            refine gw_sub [3, 4, 5, 2, 1, 0] rfl ?_
            refine L62 _ (fun s_126e62 x3_126e62 x4_126e62 r3_126e62 r4_126e62 hf => ?_) n28 s15 (-1) (-2) x1 (by decide) (by decide) r1 hf
            refine gw_iload_n F 1 rfl rfl dX11_form_126 ?_
            refine gw_if_le F (tgt := 136) dX11_form_127 (by decide) r3_126e62 (fun c29 => ?_) (fun c29 => ?_)
            · have hf := hf.1 c29
              refine gw_iload_n F 1 rfl rfl dX11_form_136 ?_
              exact gr_HI F r3_126e62 hf (by decide) (by decide) dX11_form_137
            · have hf := hf.2 c29
              refine gw_aload_n F 0 rfl rfl (by decide) dX11_form_130 ?_
              refine gw_iload F 2 rfl dX11_form_131 ?_
              obtain ⟨s30, e31⟩ : ∃ z : sg_M, z = sg_up s_126e62 0 18 x4_126e62 := ⟨_, rfl⟩
              have hf := hf s30 e31
              refine gw_put0 F (so_0 hst) (by decide) rfl sg_lay_RX11 (j := 18) (by decide) r4_126e62 e31 tyX11_ok nmX11 rfl (tyX11_ok 18 (by decide)) rfl (host := "") (.inl kw_344) dX11_form_133 ?_
              refine gw_iload_n F 1 rfl rfl dX11_form_136 ?_
              exact gr_HI F r3_126e62 hf (by decide) (by decide) dX11_form_137
          · have hf := hf.2 c9
            refine gw_bipush F rfl dX11_form_36 ?_
            exact gr_HI F (by decide) hf (by decide) (by decide) dX11_form_38

theorem dX0_tellStrengths_0 : decode cX0_tellStrengths 0 = .ok (.aload_n 1, 1) := by decide +kernel
theorem dX0_tellStrengths_1 : decode cX0_tellStrengths 1 = .ok (.getfield 97, 3) := by decide +kernel
theorem dX0_tellStrengths_4 : decode cX0_tellStrengths 4 = .ok (.aload_n 1, 1) := by decide +kernel
theorem dX0_tellStrengths_5 : decode cX0_tellStrengths 5 = .ok (.getfield 97, 3) := by decide +kernel
theorem dX0_tellStrengths_8 : decode cX0_tellStrengths 8 = .ok (.imul, 1) := by decide +kernel
theorem dX0_tellStrengths_9 : decode cX0_tellStrengths 9 = .ok (.istore_n 2, 1) := by decide +kernel
theorem dX0_tellStrengths_10 : decode cX0_tellStrengths 10 = .ok (.iconst 1, 1) := by decide +kernel
theorem dX0_tellStrengths_11 : decode cX0_tellStrengths 11 = .ok (.iconst 2, 1) := by decide +kernel
theorem dX0_tellStrengths_12 : decode cX0_tellStrengths 12 = .ok (.aload_n 0, 1) := by decide +kernel
theorem dX0_tellStrengths_13 : decode cX0_tellStrengths 13 = .ok (.getfield 31, 3) := by decide +kernel
theorem dX0_tellStrengths_16 : decode cX0_tellStrengths 16 = .ok (.imul, 1) := by decide +kernel
theorem dX0_tellStrengths_17 : decode cX0_tellStrengths 17 = .ok (.invokestatic 74, 3) := by decide +kernel
theorem dX0_tellStrengths_20 : decode cX0_tellStrengths 20 = .ok (.istore_n 3, 1) := by decide +kernel
theorem dX0_tellStrengths_21 : decode cX0_tellStrengths 21 = .ok (.iconst 0, 1) := by decide +kernel
theorem dX0_tellStrengths_22 : decode cX0_tellStrengths 22 = .ok (.istore 4, 2) := by decide +kernel
theorem dX0_tellStrengths_24 : decode cX0_tellStrengths 24 = .ok (.aload_n 1, 1) := by decide +kernel
theorem dX0_tellStrengths_25 : decode cX0_tellStrengths 25 = .ok (.getfield 147, 3) := by decide +kernel
theorem dX0_tellStrengths_28 : decode cX0_tellStrengths 28 = .ok (.invokevirtual 80, 3) := by decide +kernel
theorem dX0_tellStrengths_31 : decode cX0_tellStrengths 31 = .ok (.iconst 0, 1) := by decide +kernel
theorem dX0_tellStrengths_32 : decode cX0_tellStrengths 32 = .ok (.istore 5, 2) := by decide +kernel
theorem dX0_tellStrengths_34 : decode cX0_tellStrengths 34 = .ok (.iload 5, 2) := by decide +kernel
theorem dX0_tellStrengths_36 : decode cX0_tellStrengths 36 = .ok (.aload_n 0, 1) := by decide +kernel
theorem dX0_tellStrengths_37 : decode cX0_tellStrengths 37 = .ok (.getfield 27, 3) := by decide +kernel
theorem dX0_tellStrengths_40 : decode cX0_tellStrengths 40 = .ok (.if_icmp .ge 82, 3) := by decide +kernel
theorem dX0_tellStrengths_43 : decode cX0_tellStrengths 43 = .ok (.iconst 0, 1) := by decide +kernel
theorem dX0_tellStrengths_44 : decode cX0_tellStrengths 44 = .ok (.istore 6, 2) := by decide +kernel
theorem dX0_tellStrengths_46 : decode cX0_tellStrengths 46 = .ok (.iload 5, 2) := by decide +kernel
theorem dX0_tellStrengths_48 : decode cX0_tellStrengths 48 = .ok (.aload_n 1, 1) := by decide +kernel
theorem dX0_tellStrengths_49 : decode cX0_tellStrengths 49 = .ok (.getfield 105, 3) := by decide +kernel
theorem dX0_tellStrengths_52 : decode cX0_tellStrengths 52 = .ok (.if_icmp .lt 55, 3) := by decide +kernel
theorem dX0_tellStrengths_55 : decode cX0_tellStrengths 55 = .ok (.iload 5, 2) := by decide +kernel
theorem dX0_tellStrengths_57 : decode cX0_tellStrengths 57 = .ok (.aload_n 1, 1) := by decide +kernel
theorem dX0_tellStrengths_58 : decode cX0_tellStrengths 58 = .ok (.getfield 111, 3) := by decide +kernel
theorem dX0_tellStrengths_61 : decode cX0_tellStrengths 61 = .ok (.if_icmp .gt 46, 3) := by decide +kernel
theorem dX0_tellStrengths_64 : decode cX0_tellStrengths 64 = .ok (.iload_n 2, 1) := by decide +kernel
theorem dX0_tellStrengths_65 : decode cX0_tellStrengths 65 = .ok (.aload_n 0, 1) := by decide +kernel
theorem dX0_tellStrengths_66 : decode cX0_tellStrengths 66 = .ok (.getfield 15, 3) := by decide +kernel
theorem dX0_tellStrengths_69 : decode cX0_tellStrengths 69 = .ok (.iload 5, 2) := by decide +kernel
theorem dX0_tellStrengths_71 : decode cX0_tellStrengths 71 = .ok (.iaload, 1) := by decide +kernel
theorem dX0_tellStrengths_72 : decode cX0_tellStrengths 72 = .ok (.isub, 1) := by decide +kernel
theorem dX0_tellStrengths_73 : decode cX0_tellStrengths 73 = .ok (.invokestatic 144, 3) := by decide +kernel
theorem dX0_tellStrengths_76 : decode cX0_tellStrengths 76 = .ok (.istore 7, 2) := by decide +kernel
theorem dX0_tellStrengths_78 : decode cX0_tellStrengths 78 = .ok (.iload 4, 2) := by decide +kernel
theorem dX0_tellStrengths_80 : decode cX0_tellStrengths 80 = .ok (.iload 7, 2) := by decide +kernel
theorem dX0_tellStrengths_82 : decode cX0_tellStrengths 82 = .ok (.iconst 2, 1) := by decide +kernel
theorem dX0_tellStrengths_83 : decode cX0_tellStrengths 83 = .ok (.idiv, 1) := by decide +kernel
theorem dX0_tellStrengths_84 : decode cX0_tellStrengths 84 = .ok (.iadd, 1) := by decide +kernel
theorem dX0_tellStrengths_85 : decode cX0_tellStrengths 85 = .ok (.iload_n 3, 1) := by decide +kernel
theorem dX0_tellStrengths_86 : decode cX0_tellStrengths 86 = .ok (.irem, 1) := by decide +kernel
theorem dX0_tellStrengths_87 : decode cX0_tellStrengths 87 = .ok (.istore 8, 2) := by decide +kernel
theorem dX0_tellStrengths_89 : decode cX0_tellStrengths 89 = .ok (.iload 8, 2) := by decide +kernel
theorem dX0_tellStrengths_91 : decode cX0_tellStrengths 91 = .ok (.iload_n 3, 1) := by decide +kernel
theorem dX0_tellStrengths_92 : decode cX0_tellStrengths 92 = .ok (.iload 8, 2) := by decide +kernel
theorem dX0_tellStrengths_94 : decode cX0_tellStrengths 94 = .ok (.isub, 1) := by decide +kernel
theorem dX0_tellStrengths_95 : decode cX0_tellStrengths 95 = .ok (.invokestatic 56, 3) := by decide +kernel
theorem dX0_tellStrengths_98 : decode cX0_tellStrengths 98 = .ok (.istore 6, 2) := by decide +kernel
theorem dX0_tellStrengths_100 : decode cX0_tellStrengths 100 = .ok (.iload 4, 2) := by decide +kernel
theorem dX0_tellStrengths_102 : decode cX0_tellStrengths 102 = .ok (.iload 7, 2) := by decide +kernel
theorem dX0_tellStrengths_104 : decode cX0_tellStrengths 104 = .ok (.iadd, 1) := by decide +kernel
theorem dX0_tellStrengths_105 : decode cX0_tellStrengths 105 = .ok (.istore 4, 2) := by decide +kernel
theorem dX0_tellStrengths_107 : decode cX0_tellStrengths 107 = .ok (.aload_n 1, 1) := by decide +kernel
theorem dX0_tellStrengths_108 : decode cX0_tellStrengths 108 = .ok (.getfield 147, 3) := by decide +kernel
theorem dX0_tellStrengths_111 : decode cX0_tellStrengths 111 = .ok (.iload 6, 2) := by decide +kernel
theorem dX0_tellStrengths_113 : decode cX0_tellStrengths 113 = .ok (.invokevirtual 87, 3) := by decide +kernel
theorem dX0_tellStrengths_116 : decode cX0_tellStrengths 116 = .ok (.iinc 5 1, 3) := by decide +kernel
theorem dX0_tellStrengths_119 : decode cX0_tellStrengths 119 = .ok (.goto (-85), 3) := by decide +kernel
theorem dX0_tellStrengths_122 : decode cX0_tellStrengths 122 = .ok (.return_, 1) := by decide +kernel
theorem hcX0_tellStrengths : yX0_tellStrengths.cls ≠ "java/lang/invoke/MethodHandle" ∧ yX0_tellStrengths.cls ≠ "java/lang/invoke/VarHandle" ∧ (parseMethodDescriptor yX0_tellStrengths.desc).map (fun d => d.parameters.length) = some 1 := ⟨by decide +kernel, by decide +kernel, by decide +kernel⟩
def fX0_tellStrengths_j107 (La : sg_L) (o1 : Int) (s_34 : sg_M) (x5_34 : Int) (k34 : sg_M → Int → Int → Prop) (x4_107 : Int) (x6_107 : Int) : Prop := fX4_add La s_34 (o1 + 1) x6_107 (fun s11 => sg_R (x5_34 + 1) ∧ k34 s11 x4_107 (x5_34 + 1))
def fX0_tellStrengths_L34 (La : sg_L) (s0 : sg_M) (o1 : Int) (Q : sg_M → Prop) : Nat → sg_M → Int → Int → Prop
  | 0, _, _, _ => False
  | n_34 + 1, s_34, x4_34, x5_34 => (((s_34 32 3) ≤ x5_34 → Q s_34) ∧ (¬ ((s_34 32 3) ≤ x5_34) → ((x5_34 < (s_34 o1 2) → (fX0_tellStrengths_j107 La o1 s_34 x5_34 (fX0_tellStrengths_L34 La s0 o1 Q n_34)) x4_34 0) ∧ (¬ (x5_34 < (s_34 o1 2)) → (((s_34 o1 3) < x5_34 → (fX0_tellStrengths_j107 La o1 s_34 x5_34 (fX0_tellStrengths_L34 La s0 o1 Q n_34)) x4_34 0) ∧ (¬ ((s_34 o1 3) < x5_34) → (0 ≤ x5_34 ∧ x5_34 < 60) ∧ sg_R (((s0 o1 1) * (s0 o1 1)) - (s_34 34 x5_34)) ∧ fX0_root (((s0 o1 1) * (s0 o1 1)) - (s_34 34 x5_34)) (fun u20 => sg_R (x4_34 + (Int.tdiv u20 2)) ∧ ((sg_max 1 (2 * (s0 32 4))) ≠ 0) ∧ ∀ v24 : Int, v24 = (Int.tmod (x4_34 + (Int.tdiv u20 2)) (sg_max 1 (2 * (s0 32 4)))) → sg_R v24 ∧ sg_R ((sg_max 1 (2 * (s0 32 4))) - v24) ∧ ∀ v28 : Int, v28 = (sg_min v24 ((sg_max 1 (2 * (s0 32 4))) - v24)) → sg_R v28 ∧ sg_R (x4_34 + u20) ∧ (fX0_tellStrengths_j107 La o1 s_34 x5_34 (fX0_tellStrengths_L34 La s0 o1 Q n_34)) (x4_34 + u20) v28)))))))
def fX0_tellStrengths (La : sg_L) (s0 : sg_M) (o1 : Int) (Q : sg_M → Prop) : Prop := sg_R (2 * (s0 32 4)) ∧ fX4_clear s0 (o1 + 1) (fun s6 => (∃ n32 : Nat, fX0_tellStrengths_L34 La s0 o1 Q n32 s6 0 0))
set_option maxHeartbeats 4000000 in
set_option maxRecDepth 100000 in
theorem CX0_tellStrengths {l : Launch} {G : sg_G} {La : sg_L} {s0 : sg_M} (hst : sg_St La) {o1 : Int} (t1 : sg_O La o1 10) {Q : sg_M → Prop} (hf : fX0_tellStrengths La s0 o1 Q) : sg_C l G yX0_tellStrengths cX0_tellStrengths 9 (none) 2 0 0 La s0 [sg_r 32, sg_r o1] (sg_HV La Q) := by
  refine sg_body (by decide +kernel) (Nat.le_of_ble_eq_true rfl) ?_
  intro p e s m args below meth c F hnm
  unfold fX0_tellStrengths at hf
  show sg_W p l e (sg_rm 2 0 0) s m args below meth c (MQ below (sg_Q (none) G La s.heap.size (sg_HV La Q)) args s 0 0 (sg_A La s.heap.size)) 9 G (sg_A La s.heap.size) La s0 0 0 0 [(0, sg_r 32), (1, sg_r o1)] []
  refine gw_aload_n F 1 rfl rfl t1.1 dX0_tellStrengths_0 ?_
  refine gw_get0 F t1 (by decide) rfl sg_lay_RX10 (j := 1) (by decide) rfl (.inr kw_287) dX0_tellStrengths_1 (fun h1 => ?_)
  refine gw_aload_n F 1 rfl rfl t1.1 dX0_tellStrengths_4 ?_
  refine gw_get0 F t1 (by decide) rfl sg_lay_RX10 (j := 1) (by decide) rfl (.inr kw_287) dX0_tellStrengths_5 (fun h2 => ?_)
  refine gw_imul F rfl dX0_tellStrengths_8 ?_
  refine gw_istore_n F rfl (by decide) rfl dX0_tellStrengths_9 ?_
  refine gw_iconst F dX0_tellStrengths_10 ?_
  refine gw_iconst F dX0_tellStrengths_11 ?_
  refine gw_aload_n F 1 rfl rfl (by decide) dX0_tellStrengths_12 ?_
  refine gw_get0 F (so_32 hst) (by decide) rfl sg_lay_RX0 (j := 4) (by decide) rfl (host := "") (.inl kw_258) dX0_tellStrengths_13 (fun h3 => ?_)
  refine gw_imul F rfl dX0_tellStrengths_16 ?_
  obtain ⟨g4, hf⟩ := hf
  refine gw_max F (by decide) g4 rfl kw_527 kw_max1 kw_math kw_max2 (Nat.le_of_ble_eq_true rfl) (by decide) (by decide) (by decide) (by decide) dX0_tellStrengths_17 ?_
  refine gw_istore_n F rfl (by decide) rfl dX0_tellStrengths_20 ?_
  refine gw_iconst F dX0_tellStrengths_21 ?_
  refine gw_istore F (by decide) rfl dX0_tellStrengths_22 ?_
  refine gw_aload_n F 4 rfl rfl t1.1 dX0_tellStrengths_24 ?_
  refine gw_get3 F t1 (by decide) rfl sg_lay_RX10 (j := 0) (by decide) (o1 := (o1 + 1)) (by first | rfl | omega) rfl (.inr kw_285) dX0_tellStrengths_25 (fun h5 => ?_)
  refine gk_HV F (gc_V F (S := []) (As := []) (T := TX4) (N := 3) (CX4_clear (sg_O_of h5 (by decide)) hf) (sg_O_of h5 (by decide)) (by decide) rfl kw_531 kw_97 kw_528 kw_529 kw_530 hcX4_clear ⟨by decide, by decide⟩ rfl rfl (Nat.le_of_ble_eq_true rfl) ⟨by decide, by decide⟩ dX0_tellStrengths_28) (fun s6 hf => ?_)
  refine gw_iconst F dX0_tellStrengths_31 ?_
  refine gw_istore F (by decide) rfl dX0_tellStrengths_32 ?_
  have L34 : ∀ n_34 : Nat, ∀ (s_34 : sg_M) (x4_34 : Int) (x5_34 : Int), sg_R x4_34 → sg_R x5_34 → fX0_tellStrengths_L34 La s0 o1 Q n_34 s_34 x4_34 x5_34 → sg_W p l e (sg_rm 2 0 0) s m args below meth c (MQ below (sg_Q (none) G La s.heap.size (sg_HV La Q)) args s 0 0 (sg_A La s.heap.size)) 9 G (sg_A La s.heap.size) La s_34 0 0 34 [(0, sg_r 32), (1, sg_r o1), (2, sg_i ((s0 o1 1) * (s0 o1 1))), (3, sg_i (sg_max 1 (2 * (s0 32 4)))), (4, sg_i x4_34), (5, sg_i x5_34)] [] := by
    intro n_34
    induction n_34 with
    | zero => intro s_34 x4_34 x5_34 r4_34 r5_34 hf; exact hf.elim
    | succ n_34 ih =>
      intro s_34 x4_34 x5_34 r4_34 r5_34 hf
      unfold fX0_tellStrengths_L34 at hf
      refine gw_iload F 5 rfl dX0_tellStrengths_34 ?_
      refine gw_aload_n F 0 rfl rfl (by decide) dX0_tellStrengths_36 ?_
      refine gw_get0 F (so_32 hst) (by decide) rfl sg_lay_RX0 (j := 3) (by decide) rfl (host := "") (.inl kw_257) dX0_tellStrengths_37 (fun h7 => ?_)
      refine gw_icmp_ge F (tgt := 122) dX0_tellStrengths_40 (by decide) r5_34 h7 (fun c8 => ?_) (fun c8 => ?_)
      · have hf := hf.1 c8
        exact gr_HV F hf (by decide) (by decide) dX0_tellStrengths_122
      · have hf := hf.2 c8
        refine gw_iconst F dX0_tellStrengths_43 ?_
        refine gw_istore F (by decide) rfl dX0_tellStrengths_44 ?_
        refine gw_iload F 6 rfl dX0_tellStrengths_46 ?_
        refine gw_aload_n F 2 rfl rfl t1.1 dX0_tellStrengths_48 ?_
        refine gw_get0 F t1 (by decide) rfl sg_lay_RX10 (j := 2) (by decide) rfl (.inr kw_290) dX0_tellStrengths_49 (fun h9 => ?_)
        have J107 : ∀ (x4_107 : Int) (x6_107 : Int), sg_R x4_107 → sg_R x6_107 → (fX0_tellStrengths_j107 La o1 s_34 x5_34 (fX0_tellStrengths_L34 La s0 o1 Q n_34)) x4_107 x6_107 → sg_W p l e (sg_rm 2 0 0) s m args below meth c (MQ below (sg_Q (none) G La s.heap.size (sg_HV La Q)) args s 0 0 (sg_A La s.heap.size)) 9 G (sg_A La s.heap.size) La s_34 0 0 107 [(0, sg_r 32), (1, sg_r o1), (2, sg_i ((s0 o1 1) * (s0 o1 1))), (3, sg_i (sg_max 1 (2 * (s0 32 4)))), (4, sg_i x4_107), (5, sg_i x5_34), (6, sg_i x6_107)] [] := by
          intro x4_107 x6_107 r4_107 r6_107 hf
          unfold fX0_tellStrengths_j107 at hf
          refine gw_aload_n F 1 rfl rfl t1.1 dX0_tellStrengths_107 ?_
          refine gw_get3 F t1 (by decide) rfl sg_lay_RX10 (j := 0) (by decide) (o1 := (o1 + 1)) (by first | rfl | omega) rfl (.inr kw_285) dX0_tellStrengths_108 (fun h10 => ?_)
          refine gw_iload F 6 rfl dX0_tellStrengths_111 ?_
          refine gk_HV F (gc_V F (S := []) (As := [sg_i x6_107]) (T := TX4) (N := 3) (CX4_add (sg_O_of h10 (by decide)) r6_107 hf) (sg_O_of h10 (by decide)) (by decide) rfl kw_538 kw_97 kw_535 kw_536 kw_537 hcX4_add ⟨by decide, by decide⟩ rfl rfl (Nat.le_of_ble_eq_true rfl) ⟨by decide, by decide⟩ dX0_tellStrengths_113) (fun s11 hf => ?_)
          refine gw_iinc F (z := (x5_34 + 1)) 5 rfl (by omega) (by decide) rfl dX0_tellStrengths_116 ?_
          refine gw_goto F (tgt := 34) dX0_tellStrengths_119 (by decide) ?_
          obtain ⟨g12, hf⟩ := hf
          refine gw_sub [1, 2, 3, 4, 5, 0] rfl ?_
          exact ih s11 x4_107 (x5_34 + 1) r4_107 g12 hf
        refine gw_icmp_lt F (tgt := 107) dX0_tellStrengths_52 (by decide) r5_34 h9 (fun c13 => ?_) (fun c13 => ?_)
        · have hf := hf.1 c13
          refine gw_sub [1, 2, 3, 4, 5, 6, 0] rfl ?_
          exact J107 x4_34 0 r4_34 (by decide) hf
        · have hf := hf.2 c13
          refine gw_iload F 6 rfl dX0_tellStrengths_55 ?_
          refine gw_aload_n F 2 rfl rfl t1.1 dX0_tellStrengths_57 ?_
          refine gw_get0 F t1 (by decide) rfl sg_lay_RX10 (j := 3) (by decide) rfl (.inr kw_293) dX0_tellStrengths_58 (fun h14 => ?_)
          refine gw_icmp_gt F (tgt := 107) dX0_tellStrengths_61 (by decide) r5_34 h14 (fun c15 => ?_) (fun c15 => ?_)
          · have hf := hf.1 c15
            refine gw_sub [1, 2, 3, 4, 5, 6, 0] rfl ?_
            exact J107 x4_34 0 r4_34 (by decide) hf
          · have hf := hf.2 c15
            refine gw_iload_n F 3 rfl rfl dX0_tellStrengths_64 ?_
            refine gw_aload_n F 1 rfl rfl (by decide) dX0_tellStrengths_65 ?_
            refine gw_get3 F (so_32 hst) (by decide) rfl sg_lay_RX0 (j := 1) (by decide) (o1 := 34) (by first | rfl | omega) rfl (host := "") (.inl kw_253) dX0_tellStrengths_66 (fun h16 => ?_)
            refine gw_iload F 6 rfl dX0_tellStrengths_69 ?_
            obtain ⟨⟨b170, b171⟩, hf⟩ := hf
            refine gw_iald F (sa_34 hst) b170 b171 dX0_tellStrengths_71 (fun h18 => ?_)
            refine gw_isub F rfl dX0_tellStrengths_72 ?_
            obtain ⟨g19, hf⟩ := hf
            refine gk_PI F (gc_S F (S := []) (As := [sg_i (((s0 o1 1) * (s0 o1 1)) - (s_34 34 x5_34))]) (CX0_root g19 hf) kw_565 kw_100 kw_563 kw_564 hcX0_root ⟨by decide, by decide⟩ rfl rfl (Nat.le_of_ble_eq_true rfl) ⟨by decide, by decide⟩ dX0_tellStrengths_73) (fun u20 h21 hf => ?_)
            refine gw_istore F (by decide) rfl dX0_tellStrengths_76 ?_
            refine gw_iload F 6 rfl dX0_tellStrengths_78 ?_
            refine gw_iload F 0 rfl dX0_tellStrengths_80 ?_
            refine gw_iconst F dX0_tellStrengths_82 ?_
            refine gw_idiv F h21 (by decide) (by decide) rfl dX0_tellStrengths_83 ?_
            refine gw_iadd F rfl dX0_tellStrengths_84 ?_
            refine gw_iload_n F 5 rfl rfl dX0_tellStrengths_85 ?_
            obtain ⟨g22, hf⟩ := hf
            obtain ⟨g23, hf⟩ := hf
            refine gw_irem F g22 (sg_max_R (by decide) g4) g23 rfl dX0_tellStrengths_86 ?_
            obtain ⟨v24, e25⟩ : ∃ z : Int, z = (Int.tmod (x4_34 + (Int.tdiv u20 2)) (sg_max 1 (2 * (s0 32 4)))) := ⟨_, rfl⟩
            obtain ⟨g26, hf⟩ := hf v24 e25
            refine gw_nmI e25 ?_
            refine gw_istore F (by decide) rfl dX0_tellStrengths_87 ?_
            refine gw_iload F 0 rfl dX0_tellStrengths_89 ?_
            refine gw_iload_n F 6 rfl rfl dX0_tellStrengths_91 ?_
            refine gw_iload F 0 rfl dX0_tellStrengths_92 ?_
            refine gw_isub F rfl dX0_tellStrengths_94 ?_
            obtain ⟨g27, hf⟩ := hf
            refine gw_min F g26 g27 rfl kw_507 kw_min1 kw_math kw_min2 (Nat.le_of_ble_eq_true rfl) (by decide) (by decide) (by decide) (by decide) dX0_tellStrengths_95 ?_
            obtain ⟨v28, e29⟩ : ∃ z : Int, z = (sg_min v24 ((sg_max 1 (2 * (s0 32 4))) - v24)) := ⟨_, rfl⟩
            obtain ⟨g30, hf⟩ := hf v28 e29
            refine gw_nmI e29 ?_
            refine gw_istore F (by decide) rfl dX0_tellStrengths_98 ?_
            refine gw_iload F 7 rfl dX0_tellStrengths_100 ?_
            refine gw_iload F 2 rfl dX0_tellStrengths_102 ?_
            refine gw_iadd F rfl dX0_tellStrengths_104 ?_
            refine gw_istore F (by decide) rfl dX0_tellStrengths_105 ?_
            obtain ⟨g31, hf⟩ := hf
            refine gw_sub [4, 5, 6, 7, 0, 8, 1] rfl ?_
            exact J107 (x4_34 + u20) v28 g31 g30 hf
  obtain ⟨n32, hf⟩ := hf
  refine gw_sub [4, 5, 3, 2, 1, 0] rfl ?_
  refine L34   n32 s6 0 0 (by decide) (by decide) hf

theorem dX3_pass_0 : decode cX3_pass 0 = .ok (.aload_n 0, 1) := by decide +kernel
theorem dX3_pass_1 : decode cX3_pass 1 = .ok (.getfield 18, 3) := by decide +kernel
theorem dX3_pass_4 : decode cX3_pass 4 = .ok (.ifCond .lt 43, 3) := by decide +kernel
theorem dX3_pass_7 : decode cX3_pass 7 = .ok (.aload_n 0, 1) := by decide +kernel
theorem dX3_pass_8 : decode cX3_pass 8 = .ok (.getfield 18, 3) := by decide +kernel
theorem dX3_pass_11 : decode cX3_pass 11 = .ok (.sipush 200, 3) := by decide +kernel
theorem dX3_pass_14 : decode cX3_pass 14 = .ok (.if_icmp .ge 33, 3) := by decide +kernel
theorem dX3_pass_17 : decode cX3_pass 17 = .ok (.aload_n 0, 1) := by decide +kernel
theorem dX3_pass_18 : decode cX3_pass 18 = .ok (.getfield 9, 3) := by decide +kernel
theorem dX3_pass_21 : decode cX3_pass 21 = .ok (.aload_n 0, 1) := by decide +kernel
theorem dX3_pass_22 : decode cX3_pass 22 = .ok (.getfield 18, 3) := by decide +kernel
theorem dX3_pass_25 : decode cX3_pass 25 = .ok (.iload_n 1, 1) := by decide +kernel
theorem dX3_pass_26 : decode cX3_pass 26 = .ok (.iastore, 1) := by decide +kernel
theorem dX3_pass_27 : decode cX3_pass 27 = .ok (.aload_n 0, 1) := by decide +kernel
theorem dX3_pass_28 : decode cX3_pass 28 = .ok (.getfield 15, 3) := by decide +kernel
theorem dX3_pass_31 : decode cX3_pass 31 = .ok (.aload_n 0, 1) := by decide +kernel
theorem dX3_pass_32 : decode cX3_pass 32 = .ok (.getfield 18, 3) := by decide +kernel
theorem dX3_pass_35 : decode cX3_pass 35 = .ok (.iload_n 2, 1) := by decide +kernel
theorem dX3_pass_36 : decode cX3_pass 36 = .ok (.iastore, 1) := by decide +kernel
theorem dX3_pass_37 : decode cX3_pass 37 = .ok (.aload_n 0, 1) := by decide +kernel
theorem dX3_pass_38 : decode cX3_pass 38 = .ok (.dup, 1) := by decide +kernel
theorem dX3_pass_39 : decode cX3_pass 39 = .ok (.getfield 18, 3) := by decide +kernel
theorem dX3_pass_42 : decode cX3_pass 42 = .ok (.iconst 1, 1) := by decide +kernel
theorem dX3_pass_43 : decode cX3_pass 43 = .ok (.iadd, 1) := by decide +kernel
theorem dX3_pass_44 : decode cX3_pass 44 = .ok (.putfield 18, 3) := by decide +kernel
theorem dX3_pass_47 : decode cX3_pass 47 = .ok (.return_, 1) := by decide +kernel
theorem hcX3_pass : yX3_pass.cls ≠ "java/lang/invoke/MethodHandle" ∧ yX3_pass.cls ≠ "java/lang/invoke/VarHandle" ∧ (parseMethodDescriptor yX3_pass.desc).map (fun d => d.parameters.length) = some 2 := ⟨by decide +kernel, by decide +kernel, by decide +kernel⟩
def fX3_pass (s0 : sg_M) (o : Int) (x1 : Int) (x2 : Int) (Q : sg_M → Prop) : Prop := (((s0 o 2) < 0 → Q s0) ∧ (¬ ((s0 o 2) < 0) → ((200 ≤ (s0 o 2) → Q s0) ∧ (¬ (200 ≤ (s0 o 2)) → (0 ≤ (s0 o 2) ∧ (s0 o 2) < 200) ∧ ∀ s8 : sg_M, s8 = sg_up s0 (o + 1) (s0 o 2) x1 → (0 ≤ (s8 o 2) ∧ (s8 o 2) < 200) ∧ ∀ s13 : sg_M, s13 = sg_up s8 (o + 2) (s8 o 2) x2 → sg_R ((s13 o 2) + 1) ∧ ∀ s17 : sg_M, s17 = sg_up s13 o 2 ((s13 o 2) + 1) → Q s17))))
set_option maxHeartbeats 4000000 in
set_option maxRecDepth 100000 in
theorem CX3_pass {l : Launch} {G : sg_G} {La : sg_L} {s0 : sg_M} {o : Int} (to : sg_O La o 3) {x1 : Int} (r1 : sg_R x1) {x2 : Int} (r2 : sg_R x2) {Q : sg_M → Prop} (hf : fX3_pass s0 o x1 x2 Q) : sg_C l G yX3_pass cX3_pass 3 (none) 1 0 0 La s0 [sg_r o, sg_i x1, sg_i x2] (sg_HV La Q) := by
  refine sg_body (by decide +kernel) (Nat.le_of_ble_eq_true rfl) ?_
  intro p e s m args below meth c F hnm
  unfold fX3_pass at hf
  show sg_W p l e (sg_rm 1 0 0) s m args below meth c (MQ below (sg_Q (none) G La s.heap.size (sg_HV La Q)) args s 0 0 (sg_A La s.heap.size)) 3 G (sg_A La s.heap.size) La s0 0 0 0 [(0, sg_r o), (1, sg_i x1), (2, sg_i x2)] []
  refine gw_aload_n F 0 rfl rfl to.1 dX3_pass_0 ?_
  refine gw_get0 F to (by decide) rfl sg_lay_RX3 (j := 2) (by decide) rfl (host := "") (.inl kw_180) dX3_pass_1 (fun h1 => ?_)
  refine gw_if_lt F (tgt := 47) dX3_pass_4 (by decide) h1 (fun c2 => ?_) (fun c2 => ?_)
  · have hf := hf.1 c2
    exact gr_HV F hf (by decide) (by decide) dX3_pass_47
  · have hf := hf.2 c2
    refine gw_aload_n F 0 rfl rfl to.1 dX3_pass_7 ?_
    refine gw_get0 F to (by decide) rfl sg_lay_RX3 (j := 2) (by decide) rfl (host := "") (.inl kw_180) dX3_pass_8 (fun h3 => ?_)
    refine gw_sipush F rfl dX3_pass_11 ?_
    refine gw_icmp_ge F (tgt := 47) dX3_pass_14 (by decide) h3 (by decide) (fun c4 => ?_) (fun c4 => ?_)
    · have hf := hf.1 c4
      exact gr_HV F hf (by decide) (by decide) dX3_pass_47
    · have hf := hf.2 c4
      refine gw_aload_n F 0 rfl rfl to.1 dX3_pass_17 ?_
      refine gw_get3 F to (by decide) rfl sg_lay_RX3 (j := 0) (by decide) (o1 := (o + 1)) (by first | rfl | omega) rfl (host := "") (.inl kw_178) dX3_pass_18 (fun h5 => ?_)
      refine gw_aload_n F 0 rfl rfl to.1 dX3_pass_21 ?_
      refine gw_get0 F to (by decide) rfl sg_lay_RX3 (j := 2) (by decide) rfl (host := "") (.inl kw_180) dX3_pass_22 (fun h6 => ?_)
      refine gw_iload_n F 1 rfl rfl dX3_pass_25 ?_
      obtain ⟨⟨b70, b71⟩, hf⟩ := hf
      obtain ⟨s8, e9⟩ : ∃ z : sg_M, z = sg_up s0 (o + 1) (s0 o 2) x1 := ⟨_, rfl⟩
      have hf := hf s8 e9
      refine gw_iast F (sg_AN_of (sg_O_of h5 (by decide)) (by decide) (by decide) (by decide)) b70 b71 r1 e9 dX3_pass_26 ?_
      refine gw_aload_n F 0 rfl rfl to.1 dX3_pass_27 ?_
      refine gw_get3 F to (by decide) rfl sg_lay_RX3 (j := 1) (by decide) (o1 := (o + 2)) (by first | rfl | omega) rfl (host := "") (.inl kw_179) dX3_pass_28 (fun h10 => ?_)
      refine gw_aload_n F 0 rfl rfl to.1 dX3_pass_31 ?_
      refine gw_get0 F to (by decide) rfl sg_lay_RX3 (j := 2) (by decide) rfl (host := "") (.inl kw_180) dX3_pass_32 (fun h11 => ?_)
      refine gw_iload_n F 2 rfl rfl dX3_pass_35 ?_
      obtain ⟨⟨b120, b121⟩, hf⟩ := hf
      obtain ⟨s13, e14⟩ : ∃ z : sg_M, z = sg_up s8 (o + 2) (s8 o 2) x2 := ⟨_, rfl⟩
      have hf := hf s13 e14
      refine gw_iast F (sg_AN_of (sg_O_of h10 (by decide)) (by decide) (by decide) (by decide)) b120 b121 r2 e14 dX3_pass_36 ?_
      refine gw_aload_n F 0 rfl rfl to.1 dX3_pass_37 ?_
      refine gw_dup F rfl dX3_pass_38 ?_
      refine gw_get0 F to (by decide) rfl sg_lay_RX3 (j := 2) (by decide) rfl (host := "") (.inl kw_180) dX3_pass_39 (fun h15 => ?_)
      refine gw_iconst F dX3_pass_42 ?_
      refine gw_iadd F rfl dX3_pass_43 ?_
      obtain ⟨g16, hf⟩ := hf
      obtain ⟨s17, e18⟩ : ∃ z : sg_M, z = sg_up s13 o 2 ((s13 o 2) + 1) := ⟨_, rfl⟩
      have hf := hf s17 e18
      refine gw_put0 F to (by decide) rfl sg_lay_RX3 (j := 2) (by decide) g16 e18 tyX3_ok nmX3 rfl (tyX3_ok 2 (by decide)) rfl (host := "") (.inl kw_180) dX3_pass_44 ?_
      exact gr_HV F hf (by decide) (by decide) dX3_pass_47

theorem dX3_move_0 : decode cX3_move 0 = .ok (.iload_n 3, 1) := by decide +kernel
theorem dX3_move_1 : decode cX3_move 1 = .ok (.iconst 1, 1) := by decide +kernel
theorem dX3_move_2 : decode cX3_move 2 = .ok (.if_icmp .ge 4, 3) := by decide +kernel
theorem dX3_move_5 : decode cX3_move 5 = .ok (.return_, 1) := by decide +kernel
theorem dX3_move_6 : decode cX3_move 6 = .ok (.iconst 1, 1) := by decide +kernel
theorem dX3_move_7 : decode cX3_move 7 = .ok (.istore 4, 2) := by decide +kernel
theorem dX3_move_9 : decode cX3_move 9 = .ok (.iload 4, 2) := by decide +kernel
theorem dX3_move_11 : decode cX3_move 11 = .ok (.iload_n 3, 1) := by decide +kernel
theorem dX3_move_12 : decode cX3_move 12 = .ok (.if_icmp .gt 45, 3) := by decide +kernel
theorem dX3_move_15 : decode cX3_move 15 = .ok (.aload_n 0, 1) := by decide +kernel
theorem dX3_move_16 : decode cX3_move 16 = .ok (.aload_n 0, 1) := by decide +kernel
theorem dX3_move_17 : decode cX3_move 17 = .ok (.getfield 22, 3) := by decide +kernel
theorem dX3_move_20 : decode cX3_move 20 = .ok (.iload_n 1, 1) := by decide +kernel
theorem dX3_move_21 : decode cX3_move 21 = .ok (.aload_n 0, 1) := by decide +kernel
theorem dX3_move_22 : decode cX3_move 22 = .ok (.getfield 22, 3) := by decide +kernel
theorem dX3_move_25 : decode cX3_move 25 = .ok (.isub, 1) := by decide +kernel
theorem dX3_move_26 : decode cX3_move 26 = .ok (.iload 4, 2) := by decide +kernel
theorem dX3_move_28 : decode cX3_move 28 = .ok (.imul, 1) := by decide +kernel
theorem dX3_move_29 : decode cX3_move 29 = .ok (.iload_n 3, 1) := by decide +kernel
theorem dX3_move_30 : decode cX3_move 30 = .ok (.idiv, 1) := by decide +kernel
theorem dX3_move_31 : decode cX3_move 31 = .ok (.iadd, 1) := by decide +kernel
theorem dX3_move_32 : decode cX3_move 32 = .ok (.aload_n 0, 1) := by decide +kernel
theorem dX3_move_33 : decode cX3_move 33 = .ok (.getfield 25, 3) := by decide +kernel
theorem dX3_move_36 : decode cX3_move 36 = .ok (.iload_n 2, 1) := by decide +kernel
theorem dX3_move_37 : decode cX3_move 37 = .ok (.aload_n 0, 1) := by decide +kernel
theorem dX3_move_38 : decode cX3_move 38 = .ok (.getfield 25, 3) := by decide +kernel
theorem dX3_move_41 : decode cX3_move 41 = .ok (.isub, 1) := by decide +kernel
theorem dX3_move_42 : decode cX3_move 42 = .ok (.iload 4, 2) := by decide +kernel
theorem dX3_move_44 : decode cX3_move 44 = .ok (.imul, 1) := by decide +kernel
theorem dX3_move_45 : decode cX3_move 45 = .ok (.iload_n 3, 1) := by decide +kernel
theorem dX3_move_46 : decode cX3_move 46 = .ok (.idiv, 1) := by decide +kernel
theorem dX3_move_47 : decode cX3_move 47 = .ok (.iadd, 1) := by decide +kernel
theorem dX3_move_48 : decode cX3_move 48 = .ok (.invokevirtual 86, 3) := by decide +kernel
theorem dX3_move_51 : decode cX3_move 51 = .ok (.iinc 4 1, 3) := by decide +kernel
theorem dX3_move_54 : decode cX3_move 54 = .ok (.goto (-45), 3) := by decide +kernel
theorem dX3_move_57 : decode cX3_move 57 = .ok (.aload_n 0, 1) := by decide +kernel
theorem dX3_move_58 : decode cX3_move 58 = .ok (.iload_n 1, 1) := by decide +kernel
theorem dX3_move_59 : decode cX3_move 59 = .ok (.putfield 22, 3) := by decide +kernel
theorem dX3_move_62 : decode cX3_move 62 = .ok (.aload_n 0, 1) := by decide +kernel
theorem dX3_move_63 : decode cX3_move 63 = .ok (.iload_n 2, 1) := by decide +kernel
theorem dX3_move_64 : decode cX3_move 64 = .ok (.putfield 25, 3) := by decide +kernel
theorem dX3_move_67 : decode cX3_move 67 = .ok (.return_, 1) := by decide +kernel
theorem hcX3_move : yX3_move.cls ≠ "java/lang/invoke/MethodHandle" ∧ yX3_move.cls ≠ "java/lang/invoke/VarHandle" ∧ (parseMethodDescriptor yX3_move.desc).map (fun d => d.parameters.length) = some 3 := ⟨by decide +kernel, by decide +kernel, by decide +kernel⟩
def fX3_move_L9 (o : Int) (x1 : Int) (x2 : Int) (x3 : Int) (Q : sg_M → Prop) : Nat → sg_M → Int → Prop
  | 0, _, _ => False
  | n_9 + 1, s_9, x4_9 => ((x3 < x4_9 → ∀ s3 : sg_M, s3 = sg_up s_9 o 3 x1 → ∀ s5 : sg_M, s5 = sg_up s3 o 4 x2 → Q s5) ∧ (¬ (x3 < x4_9) → sg_R ((x1 - (s_9 o 3)) * x4_9) ∧ (x3 ≠ 0) ∧ sg_R ((x2 - (s_9 o 4)) * x4_9) ∧ (x3 ≠ 0) ∧ sg_R ((s_9 o 3) + (Int.tdiv ((x1 - (s_9 o 3)) * x4_9) x3)) ∧ sg_R ((s_9 o 4) + (Int.tdiv ((x2 - (s_9 o 4)) * x4_9) x3)) ∧ fX3_pass s_9 o ((s_9 o 3) + (Int.tdiv ((x1 - (s_9 o 3)) * x4_9) x3)) ((s_9 o 4) + (Int.tdiv ((x2 - (s_9 o 4)) * x4_9) x3)) (fun s17 => sg_R (x4_9 + 1) ∧ (fX3_move_L9 o x1 x2 x3 Q n_9) s17 (x4_9 + 1))))
def fX3_move (s0 : sg_M) (o : Int) (x1 : Int) (x2 : Int) (x3 : Int) (Q : sg_M → Prop) : Prop := ((1 ≤ x3 → (∃ n19 : Nat, fX3_move_L9 o x1 x2 x3 Q n19 s0 1)) ∧ (¬ (1 ≤ x3) → Q s0))
set_option maxHeartbeats 4000000 in
set_option maxRecDepth 100000 in
theorem CX3_move {l : Launch} {G : sg_G} {La : sg_L} {s0 : sg_M} {o : Int} (to : sg_O La o 3) {x1 : Int} (r1 : sg_R x1) {x2 : Int} (r2 : sg_R x2) {x3 : Int} (r3 : sg_R x3) {Q : sg_M → Prop} (hf : fX3_move s0 o x1 x2 x3 Q) : sg_C l G yX3_move cX3_move 5 (none) 2 0 0 La s0 [sg_r o, sg_i x1, sg_i x2, sg_i x3] (sg_HV La Q) := by
  refine sg_body (by decide +kernel) (Nat.le_of_ble_eq_true rfl) ?_
  intro p e s m args below meth c F hnm
  unfold fX3_move at hf
  show sg_W p l e (sg_rm 2 0 0) s m args below meth c (MQ below (sg_Q (none) G La s.heap.size (sg_HV La Q)) args s 0 0 (sg_A La s.heap.size)) 5 G (sg_A La s.heap.size) La s0 0 0 0 [(0, sg_r o), (1, sg_i x1), (2, sg_i x2), (3, sg_i x3)] []
  refine gw_iload_n F 3 rfl rfl dX3_move_0 ?_
  refine gw_iconst F dX3_move_1 ?_
  refine gw_icmp_ge F (tgt := 6) dX3_move_2 (by decide) r3 (by decide) (fun c1 => ?_) (fun c1 => ?_)
  · have hf := hf.1 c1
    refine gw_iconst F dX3_move_6 ?_
    refine gw_istore F (by decide) rfl dX3_move_7 ?_
    have L9 : ∀ n_9 : Nat, ∀ (s_9 : sg_M) (x4_9 : Int), sg_R x4_9 → fX3_move_L9 o x1 x2 x3 Q n_9 s_9 x4_9 → sg_W p l e (sg_rm 2 0 0) s m args below meth c (MQ below (sg_Q (none) G La s.heap.size (sg_HV La Q)) args s 0 0 (sg_A La s.heap.size)) 5 G (sg_A La s.heap.size) La s_9 0 0 9 [(0, sg_r o), (1, sg_i x1), (2, sg_i x2), (3, sg_i x3), (4, sg_i x4_9)] [] := by
      intro n_9
      induction n_9 with
      | zero => intro s_9 x4_9 r4_9 hf; exact hf.elim
      | succ n_9 ih =>
        intro s_9 x4_9 r4_9 hf
        unfold fX3_move_L9 at hf
        refine gw_iload F 4 rfl dX3_move_9 ?_
        refine gw_iload_n F 3 rfl rfl dX3_move_11 ?_
        refine gw_icmp_gt F (tgt := 57) dX3_move_12 (by decide) r4_9 r3 (fun c2 => ?_) (fun c2 => ?_)
        · have hf := hf.1 c2
          refine gw_aload_n F 0 rfl rfl to.1 dX3_move_57 ?_
          refine gw_iload_n F 1 rfl rfl dX3_move_58 ?_
          obtain ⟨s3, e4⟩ : ∃ z : sg_M, z = sg_up s_9 o 3 x1 := ⟨_, rfl⟩
          have hf := hf s3 e4
          refine gw_put0 F to (by decide) rfl sg_lay_RX3 (j := 3) (by decide) r1 e4 tyX3_ok nmX3 rfl (tyX3_ok 3 (by decide)) rfl (host := "") (.inl kw_182) dX3_move_59 ?_
          refine gw_aload_n F 0 rfl rfl to.1 dX3_move_62 ?_
          refine gw_iload_n F 2 rfl rfl dX3_move_63 ?_
          obtain ⟨s5, e6⟩ : ∃ z : sg_M, z = sg_up s3 o 4 x2 := ⟨_, rfl⟩
          have hf := hf s5 e6
          refine gw_put0 F to (by decide) rfl sg_lay_RX3 (j := 4) (by decide) r2 e6 tyX3_ok nmX3 rfl (tyX3_ok 4 (by decide)) rfl (host := "") (.inl kw_183) dX3_move_64 ?_
          exact gr_HV F hf (by decide) (by decide) dX3_move_67
        · have hf := hf.2 c2
          refine gw_aload_n F 0 rfl rfl to.1 dX3_move_15 ?_
          refine gw_aload_n F 0 rfl rfl to.1 dX3_move_16 ?_
          refine gw_get0 F to (by decide) rfl sg_lay_RX3 (j := 3) (by decide) rfl (host := "") (.inl kw_182) dX3_move_17 (fun h7 => ?_)
          refine gw_iload_n F 1 rfl rfl dX3_move_20 ?_
          refine gw_aload_n F 0 rfl rfl to.1 dX3_move_21 ?_
          refine gw_get0 F to (by decide) rfl sg_lay_RX3 (j := 3) (by decide) rfl (host := "") (.inl kw_182) dX3_move_22 (fun h8 => ?_)
          refine gw_isub F rfl dX3_move_25 ?_
          refine gw_iload F 4 rfl dX3_move_26 ?_
          refine gw_imul F rfl dX3_move_28 ?_
          refine gw_iload_n F 3 rfl rfl dX3_move_29 ?_
          obtain ⟨g9, hf⟩ := hf
          obtain ⟨g10, hf⟩ := hf
          refine gw_idiv F g9 r3 g10 rfl dX3_move_30 ?_
          refine gw_iadd F rfl dX3_move_31 ?_
          refine gw_aload_n F 0 rfl rfl to.1 dX3_move_32 ?_
          refine gw_get0 F to (by decide) rfl sg_lay_RX3 (j := 4) (by decide) rfl (host := "") (.inl kw_183) dX3_move_33 (fun h11 => ?_)
          refine gw_iload_n F 2 rfl rfl dX3_move_36 ?_
          refine gw_aload_n F 0 rfl rfl to.1 dX3_move_37 ?_
          refine gw_get0 F to (by decide) rfl sg_lay_RX3 (j := 4) (by decide) rfl (host := "") (.inl kw_183) dX3_move_38 (fun h12 => ?_)
          refine gw_isub F rfl dX3_move_41 ?_
          refine gw_iload F 4 rfl dX3_move_42 ?_
          refine gw_imul F rfl dX3_move_44 ?_
          refine gw_iload_n F 3 rfl rfl dX3_move_45 ?_
          obtain ⟨g13, hf⟩ := hf
          obtain ⟨g14, hf⟩ := hf
          refine gw_idiv F g13 r3 g14 rfl dX3_move_46 ?_
          refine gw_iadd F rfl dX3_move_47 ?_
          obtain ⟨g15, hf⟩ := hf
          obtain ⟨g16, hf⟩ := hf
          refine gk_HV F (gc_V F (S := []) (As := [sg_i ((s_9 o 3) + (Int.tdiv ((x1 - (s_9 o 3)) * x4_9) x3)), sg_i ((s_9 o 4) + (Int.tdiv ((x2 - (s_9 o 4)) * x4_9) x3))]) (T := TX3) (N := 5) (CX3_pass to g15 g16 hf) to (by decide) rfl kw_629 kw_95 kw_627 kw_628 kw_17 hcX3_pass ⟨by decide, by decide⟩ rfl rfl (Nat.le_of_ble_eq_true rfl) ⟨by decide, by decide⟩ dX3_move_48) (fun s17 hf => ?_)
          refine gw_iinc F (z := (x4_9 + 1)) 4 rfl (by omega) (by decide) rfl dX3_move_51 ?_
          refine gw_goto F (tgt := 9) dX3_move_54 (by decide) ?_
          obtain ⟨g18, hf⟩ := hf
          refine gw_sub [1, 2, 3, 4, 0] rfl ?_
          exact ih s17 (x4_9 + 1) g18 hf
    obtain ⟨n19, hf⟩ := hf
    refine gw_sub [1, 2, 3, 4, 0] rfl ?_
    refine L9   n19 s0 1 (by decide) hf
  · have hf := hf.2 c1
    exact gr_HV F hf (by decide) (by decide) dX3_move_5

theorem dX11_keep_0 : decode cX11_keep 0 = .ok (.iload_n 1, 1) := by decide +kernel
theorem dX11_keep_1 : decode cX11_keep 1 = .ok (.ifCond .lt 8, 3) := by decide +kernel
theorem dX11_keep_4 : decode cX11_keep 4 = .ok (.iload_n 1, 1) := by decide +kernel
theorem dX11_keep_5 : decode cX11_keep 5 = .ok (.iconst 4, 1) := by decide +kernel
theorem dX11_keep_6 : decode cX11_keep 6 = .ok (.if_icmp .lt 5, 3) := by decide +kernel
theorem dX11_keep_9 : decode cX11_keep 9 = .ok (.iconst 0, 1) := by decide +kernel
theorem dX11_keep_10 : decode cX11_keep 10 = .ok (.ireturn, 1) := by decide +kernel
theorem dX11_keep_11 : decode cX11_keep 11 = .ok (.aload_n 0, 1) := by decide +kernel
theorem dX11_keep_12 : decode cX11_keep 12 = .ok (.getfield 39, 3) := by decide +kernel
theorem dX11_keep_15 : decode cX11_keep 15 = .ok (.getfield 300, 3) := by decide +kernel
theorem dX11_keep_18 : decode cX11_keep 18 = .ok (.iload_n 1, 1) := by decide +kernel
theorem dX11_keep_19 : decode cX11_keep 19 = .ok (.aload_n 0, 1) := by decide +kernel
theorem dX11_keep_20 : decode cX11_keep 20 = .ok (.getfield 39, 3) := by decide +kernel
theorem dX11_keep_23 : decode cX11_keep 23 = .ok (.getfield 112, 3) := by decide +kernel
theorem dX11_keep_26 : decode cX11_keep 26 = .ok (.aastore, 1) := by decide +kernel
theorem dX11_keep_27 : decode cX11_keep 27 = .ok (.iconst 1, 1) := by decide +kernel
theorem dX11_keep_28 : decode cX11_keep 28 = .ok (.ireturn, 1) := by decide +kernel
theorem hcX11_keep : yX11_keep.cls ≠ "java/lang/invoke/MethodHandle" ∧ yX11_keep.cls ≠ "java/lang/invoke/VarHandle" ∧ (parseMethodDescriptor yX11_keep.desc).map (fun d => d.parameters.length) = some 1 := ⟨by decide +kernel, by decide +kernel, by decide +kernel⟩
def fX11_keep (s0 : sg_M) (x1 : Int) (Q : Int → sg_M → Prop) : Prop := ((x1 < 0 → Q 0 s0) ∧ (¬ (x1 < 0) → ((x1 < 4 → (0 ≤ x1 ∧ x1 < 4) ∧ ∀ s8 : sg_M, s8 = sg_up s0 25 x1 (s0 4 0) → Q 1 s8) ∧ (¬ (x1 < 4) → Q 0 s0))))
set_option maxHeartbeats 4000000 in
set_option maxRecDepth 100000 in
theorem CX11_keep {l : Launch} {G : sg_G} {La : sg_L} {s0 : sg_M} (hst : sg_St La) {x1 : Int} (r1 : sg_R x1) {Q : Int → sg_M → Prop} (hf : fX11_keep s0 x1 Q) : sg_C l G yX11_keep cX11_keep 2 (some .boolean) 1 0 0 La s0 [sg_r 0, sg_i x1] (sg_HZ La Q) := by
  refine sg_body (by decide +kernel) (Nat.le_of_ble_eq_true rfl) ?_
  intro p e s m args below meth c F hnm
  unfold fX11_keep at hf
  show sg_W p l e (sg_rm 1 0 0) s m args below meth c (MQ below (sg_Q (some .boolean) G La s.heap.size (sg_HZ La Q)) args s 0 0 (sg_A La s.heap.size)) 2 G (sg_A La s.heap.size) La s0 0 0 0 [(0, sg_r 0), (1, sg_i x1)] []
  refine gw_iload_n F 1 rfl rfl dX11_keep_0 ?_
  refine gw_if_lt F (tgt := 9) dX11_keep_1 (by decide) r1 (fun c1 => ?_) (fun c1 => ?_)
  · have hf := hf.1 c1
    refine gw_iconst F dX11_keep_9 ?_
    exact gr_HZ F (by decide) hf (by decide) (by decide) dX11_keep_10
  · have hf := hf.2 c1
    refine gw_iload_n F 1 rfl rfl dX11_keep_4 ?_
    refine gw_iconst F dX11_keep_5 ?_
    refine gw_icmp_lt F (tgt := 11) dX11_keep_6 (by decide) r1 (by decide) (fun c2 => ?_) (fun c2 => ?_)
    · have hf := hf.1 c2
      refine gw_aload_n F 0 rfl rfl (by decide) dX11_keep_11 ?_
      refine gw_get7 F (so_0 hst) (by decide) rfl sg_lay_RX11 (j := 2) (by decide) (o1 := 4) (by first | rfl | omega) rfl (host := "") (.inl kw_328) dX11_keep_12 (fun h3 => ?_)
      refine gw_get7 F (so_4 hst) (by decide) rfl sg_lay_RX7 (j := 4) (by decide) (o1 := 25) (by first | rfl | omega) rfl (.inr kw_242) dX11_keep_15 (fun h4 => ?_)
      refine gw_iload_n F 1 rfl rfl dX11_keep_18 ?_
      refine gw_aload_n F 0 rfl rfl (by decide) dX11_keep_19 ?_
      refine gw_get7 F (so_0 hst) (by decide) rfl sg_lay_RX11 (j := 2) (by decide) (o1 := 4) (by first | rfl | omega) rfl (host := "") (.inl kw_328) dX11_keep_20 (fun h5 => ?_)
      refine gw_get4 F (so_4 hst) (by decide) rfl sg_lay_RX7 (j := 0) (by decide) rfl (.inr kw_234) dX11_keep_23 (fun h6 => ?_)
      obtain ⟨⟨b70, b71⟩, hf⟩ := hf
      obtain ⟨s8, e9⟩ : ∃ z : sg_M, z = sg_up s0 25 x1 (s0 4 0) := ⟨_, rfl⟩
      have hf := hf s8 e9
      refine gw_aastBN F (n := 4) (so_25 hst) (by decide) (by decide) (by decide) b70 b71 h6 e9 dX11_keep_26 ?_
      refine gw_iconst F dX11_keep_27 ?_
      exact gr_HZ F (by decide) hf (by decide) (by decide) dX11_keep_28
    · have hf := hf.2 c2
      refine gw_iconst F dX11_keep_9 ?_
      exact gr_HZ F (by decide) hf (by decide) (by decide) dX11_keep_10

theorem dX5_compares_0 : decode cX5_compares 0 = .ok (.aload_n 0, 1) := by decide +kernel
theorem dX5_compares_1 : decode cX5_compares 1 = .ok (.getfield 23, 3) := by decide +kernel
theorem dX5_compares_4 : decode cX5_compares 4 = .ok (.iload_n 2, 1) := by decide +kernel
theorem dX5_compares_5 : decode cX5_compares 5 = .ok (.invokevirtual 115, 3) := by decide +kernel
theorem dX5_compares_8 : decode cX5_compares 8 = .ok (.istore_n 3, 1) := by decide +kernel
theorem dX5_compares_9 : decode cX5_compares 9 = .ok (.aload_n 0, 1) := by decide +kernel
theorem dX5_compares_10 : decode cX5_compares 10 = .ok (.getfield 20, 3) := by decide +kernel
theorem dX5_compares_13 : decode cX5_compares 13 = .ok (.iload_n 2, 1) := by decide +kernel
theorem dX5_compares_14 : decode cX5_compares 14 = .ok (.invokevirtual 115, 3) := by decide +kernel
theorem dX5_compares_17 : decode cX5_compares 17 = .ok (.bipush 60, 2) := by decide +kernel
theorem dX5_compares_19 : decode cX5_compares 19 = .ok (.if_icmp .ne 14, 3) := by decide +kernel
theorem dX5_compares_22 : decode cX5_compares 22 = .ok (.iload_n 1, 1) := by decide +kernel
theorem dX5_compares_23 : decode cX5_compares 23 = .ok (.iload_n 3, 1) := by decide +kernel
theorem dX5_compares_24 : decode cX5_compares 24 = .ok (.if_icmp .ge 7, 3) := by decide +kernel
theorem dX5_compares_27 : decode cX5_compares 27 = .ok (.iconst 1, 1) := by decide +kernel
theorem dX5_compares_28 : decode cX5_compares 28 = .ok (.goto 4, 3) := by decide +kernel
theorem dX5_compares_31 : decode cX5_compares 31 = .ok (.iconst 0, 1) := by decide +kernel
theorem dX5_compares_32 : decode cX5_compares 32 = .ok (.ireturn, 1) := by decide +kernel
theorem dX5_compares_33 : decode cX5_compares 33 = .ok (.aload_n 0, 1) := by decide +kernel
theorem dX5_compares_34 : decode cX5_compares 34 = .ok (.getfield 20, 3) := by decide +kernel
theorem dX5_compares_37 : decode cX5_compares 37 = .ok (.iload_n 2, 1) := by decide +kernel
theorem dX5_compares_38 : decode cX5_compares 38 = .ok (.invokevirtual 115, 3) := by decide +kernel
theorem dX5_compares_41 : decode cX5_compares 41 = .ok (.bipush 62, 2) := by decide +kernel
theorem dX5_compares_43 : decode cX5_compares 43 = .ok (.if_icmp .ne 16, 3) := by decide +kernel
theorem dX5_compares_46 : decode cX5_compares 46 = .ok (.iload_n 1, 1) := by decide +kernel
theorem dX5_compares_47 : decode cX5_compares 47 = .ok (.iload_n 3, 1) := by decide +kernel
theorem dX5_compares_48 : decode cX5_compares 48 = .ok (.if_icmp .le 7, 3) := by decide +kernel
theorem dX5_compares_51 : decode cX5_compares 51 = .ok (.iconst 1, 1) := by decide +kernel
theorem dX5_compares_52 : decode cX5_compares 52 = .ok (.goto 17, 3) := by decide +kernel
theorem dX5_compares_55 : decode cX5_compares 55 = .ok (.iconst 0, 1) := by decide +kernel
theorem dX5_compares_56 : decode cX5_compares 56 = .ok (.goto 13, 3) := by decide +kernel
theorem dX5_compares_59 : decode cX5_compares 59 = .ok (.iload_n 1, 1) := by decide +kernel
theorem dX5_compares_60 : decode cX5_compares 60 = .ok (.iload_n 3, 1) := by decide +kernel
theorem dX5_compares_61 : decode cX5_compares 61 = .ok (.if_icmp .ne 7, 3) := by decide +kernel
theorem dX5_compares_64 : decode cX5_compares 64 = .ok (.iconst 1, 1) := by decide +kernel
theorem dX5_compares_65 : decode cX5_compares 65 = .ok (.goto 4, 3) := by decide +kernel
theorem dX5_compares_68 : decode cX5_compares 68 = .ok (.iconst 0, 1) := by decide +kernel
theorem dX5_compares_69 : decode cX5_compares 69 = .ok (.ireturn, 1) := by decide +kernel
theorem hcX5_compares : yX5_compares.cls ≠ "java/lang/invoke/MethodHandle" ∧ yX5_compares.cls ≠ "java/lang/invoke/VarHandle" ∧ (parseMethodDescriptor yX5_compares.desc).map (fun d => d.parameters.length) = some 2 := ⟨by decide +kernel, by decide +kernel, by decide +kernel⟩
def fX5_compares (La : sg_L) (s0 : sg_M) (o : Int) (x1 : Int) (x2 : Int) (Q : Int → Prop) : Prop := fX4_at La s0 (o + 5) x2 (fun u2 => fX4_at La s0 (o + 3) x2 (fun u5 => ((u5 ≠ 60 → fX4_at La s0 (o + 3) x2 (fun u9 => ((u9 ≠ 62 → ((x1 ≠ u2 → Q 0) ∧ (x1 = u2 → Q 1))) ∧ (u9 = 62 → ((x1 ≤ u2 → Q 0) ∧ (¬ (x1 ≤ u2) → Q 1)))))) ∧ (u5 = 60 → ((u2 ≤ x1 → Q 0) ∧ (¬ (u2 ≤ x1) → Q 1))))))
set_option maxHeartbeats 4000000 in
set_option maxRecDepth 100000 in
theorem CX5_compares {l : Launch} {G : sg_G} {La : sg_L} {s0 : sg_M} {o : Int} (to : sg_O La o 5) {x1 : Int} (r1 : sg_R x1) {x2 : Int} (r2 : sg_R x2) {Q : Int → Prop} (hf : fX5_compares La s0 o x1 x2 Q) : sg_C l G yX5_compares cX5_compares 4 (some .boolean) 2 0 0 La s0 [sg_r o, sg_i x1, sg_i x2] (sg_PZ La s0 Q) := by
  refine sg_body (by decide +kernel) (Nat.le_of_ble_eq_true rfl) ?_
  intro p e s m args below meth c F hnm
  unfold fX5_compares at hf
  show sg_W p l e (sg_rm 2 0 0) s m args below meth c (MQ below (sg_Q (some .boolean) G La s.heap.size (sg_PZ La s0 Q)) args s 0 0 (sg_A La s.heap.size)) 4 G (sg_A La s.heap.size) La s0 0 0 0 [(0, sg_r o), (1, sg_i x1), (2, sg_i x2)] []
  refine gw_aload_n F 0 rfl rfl to.1 dX5_compares_0 ?_
  refine gw_get3 F to (by decide) rfl sg_lay_RX5 (j := 2) (by decide) (o1 := (o + 5)) (by first | rfl | omega) rfl (host := "") (.inl kw_209) dX5_compares_1 (fun h1 => ?_)
  refine gw_iload_n F 2 rfl rfl dX5_compares_4 ?_
  refine gk_PI F (gc_V F (S := []) (As := [sg_i x2]) (T := TX4) (N := 3) (CX4_at (sg_O_of h1 (by decide)) r2 hf) (sg_O_of h1 (by decide)) (by decide) rfl kw_546 kw_97 kw_847 kw_544 kw_545 hcX4_at ⟨by decide, by decide⟩ rfl rfl (Nat.le_of_ble_eq_true rfl) ⟨by decide, by decide⟩ dX5_compares_5) (fun u2 h3 hf => ?_)
  refine gw_istore_n F rfl (by decide) rfl dX5_compares_8 ?_
  refine gw_aload_n F 1 rfl rfl to.1 dX5_compares_9 ?_
  refine gw_get3 F to (by decide) rfl sg_lay_RX5 (j := 1) (by decide) (o1 := (o + 3)) (by first | rfl | omega) rfl (host := "") (.inl kw_208) dX5_compares_10 (fun h4 => ?_)
  refine gw_iload_n F 3 rfl rfl dX5_compares_13 ?_
  refine gk_PI F (gc_V F (S := []) (As := [sg_i x2]) (T := TX4) (N := 3) (CX4_at (sg_O_of h4 (by decide)) r2 hf) (sg_O_of h4 (by decide)) (by decide) rfl kw_546 kw_97 kw_847 kw_544 kw_545 hcX4_at ⟨by decide, by decide⟩ rfl rfl (Nat.le_of_ble_eq_true rfl) ⟨by decide, by decide⟩ dX5_compares_14) (fun u5 h6 hf => ?_)
  refine gw_bipush F rfl dX5_compares_17 ?_
  refine gw_icmp_ne F (tgt := 33) dX5_compares_19 (by decide) h6 (by decide) (fun c7 => ?_) (fun c7 => ?_)
  · have hf := hf.1 c7
    refine gw_aload_n F 1 rfl rfl to.1 dX5_compares_33 ?_
    refine gw_get3 F to (by decide) rfl sg_lay_RX5 (j := 1) (by decide) (o1 := (o + 3)) (by first | rfl | omega) rfl (host := "") (.inl kw_208) dX5_compares_34 (fun h8 => ?_)
    refine gw_iload_n F 3 rfl rfl dX5_compares_37 ?_
    refine gk_PI F (gc_V F (S := []) (As := [sg_i x2]) (T := TX4) (N := 3) (CX4_at (sg_O_of h8 (by decide)) r2 hf) (sg_O_of h8 (by decide)) (by decide) rfl kw_546 kw_97 kw_847 kw_544 kw_545 hcX4_at ⟨by decide, by decide⟩ rfl rfl (Nat.le_of_ble_eq_true rfl) ⟨by decide, by decide⟩ dX5_compares_38) (fun u9 h10 hf => ?_)
    refine gw_bipush F rfl dX5_compares_41 ?_
    refine gw_icmp_ne F (tgt := 59) dX5_compares_43 (by decide) h10 (by decide) (fun c11 => ?_) (fun c11 => ?_)
    · have hf := hf.1 c11
      refine gw_iload_n F 2 rfl rfl dX5_compares_59 ?_
      refine gw_iload_n F 0 rfl rfl dX5_compares_60 ?_
      refine gw_icmp_ne F (tgt := 68) dX5_compares_61 (by decide) r1 h3 (fun c12 => ?_) (fun c12 => ?_)
      · have hf := hf.1 c12
        refine gw_iconst F dX5_compares_68 ?_
        exact gr_PZ F (by decide) hf (by decide) (by decide) dX5_compares_69
      · have hf := hf.2 c12
        refine gw_iconst F dX5_compares_64 ?_
        refine gw_goto F (tgt := 69) dX5_compares_65 (by decide) ?_
        exact gr_PZ F (by decide) hf (by decide) (by decide) dX5_compares_69
    · have hf := hf.2 c11
      refine gw_iload_n F 2 rfl rfl dX5_compares_46 ?_
      refine gw_iload_n F 0 rfl rfl dX5_compares_47 ?_
      refine gw_icmp_le F (tgt := 55) dX5_compares_48 (by decide) r1 h3 (fun c13 => ?_) (fun c13 => ?_)
      · have hf := hf.1 c13
        refine gw_iconst F dX5_compares_55 ?_
        refine gw_goto F (tgt := 69) dX5_compares_56 (by decide) ?_
        exact gr_PZ F (by decide) hf (by decide) (by decide) dX5_compares_69
      · have hf := hf.2 c13
        refine gw_iconst F dX5_compares_51 ?_
        refine gw_goto F (tgt := 69) dX5_compares_52 (by decide) ?_
        exact gr_PZ F (by decide) hf (by decide) (by decide) dX5_compares_69
  · have hf := hf.2 c7
    refine gw_iload_n F 2 rfl rfl dX5_compares_22 ?_
    refine gw_iload_n F 0 rfl rfl dX5_compares_23 ?_
    refine gw_icmp_ge F (tgt := 31) dX5_compares_24 (by decide) r1 h3 (fun c14 => ?_) (fun c14 => ?_)
    · have hf := hf.1 c14
      refine gw_iconst F dX5_compares_31 ?_
      exact gr_PZ F (by decide) hf (by decide) (by decide) dX5_compares_32
    · have hf := hf.2 c14
      refine gw_iconst F dX5_compares_27 ?_
      refine gw_goto F (tgt := 32) dX5_compares_28 (by decide) ?_
      exact gr_PZ F (by decide) hf (by decide) (by decide) dX5_compares_32

theorem dX8_byteAt_0 : decode cX8_byteAt 0 = .ok (.iload_n 1, 1) := by decide +kernel
theorem dX8_byteAt_1 : decode cX8_byteAt 1 = .ok (.ifCond .lt 20, 3) := by decide +kernel
theorem dX8_byteAt_4 : decode cX8_byteAt 4 = .ok (.iload_n 1, 1) := by decide +kernel
theorem dX8_byteAt_5 : decode cX8_byteAt 5 = .ok (.aload_n 0, 1) := by decide +kernel
theorem dX8_byteAt_6 : decode cX8_byteAt 6 = .ok (.getfield 15, 3) := by decide +kernel
theorem dX8_byteAt_9 : decode cX8_byteAt 9 = .ok (.if_icmp .ge 12, 3) := by decide +kernel
theorem dX8_byteAt_12 : decode cX8_byteAt 12 = .ok (.iload_n 1, 1) := by decide +kernel
theorem dX8_byteAt_13 : decode cX8_byteAt 13 = .ok (.aload_n 0, 1) := by decide +kernel
theorem dX8_byteAt_14 : decode cX8_byteAt 14 = .ok (.getfield 9, 3) := by decide +kernel
theorem dX8_byteAt_17 : decode cX8_byteAt 17 = .ok (.arraylength, 1) := by decide +kernel
theorem dX8_byteAt_18 : decode cX8_byteAt 18 = .ok (.if_icmp .lt 7, 3) := by decide +kernel
theorem dX8_byteAt_21 : decode cX8_byteAt 21 = .ok (.iconst (-1), 1) := by decide +kernel
theorem dX8_byteAt_22 : decode cX8_byteAt 22 = .ok (.goto 9, 3) := by decide +kernel
theorem dX8_byteAt_25 : decode cX8_byteAt 25 = .ok (.aload_n 0, 1) := by decide +kernel
theorem dX8_byteAt_26 : decode cX8_byteAt 26 = .ok (.getfield 9, 3) := by decide +kernel
theorem dX8_byteAt_29 : decode cX8_byteAt 29 = .ok (.iload_n 1, 1) := by decide +kernel
theorem dX8_byteAt_30 : decode cX8_byteAt 30 = .ok (.iaload, 1) := by decide +kernel
theorem dX8_byteAt_31 : decode cX8_byteAt 31 = .ok (.ireturn, 1) := by decide +kernel
theorem hcX8_byteAt : yX8_byteAt.cls ≠ "java/lang/invoke/MethodHandle" ∧ yX8_byteAt.cls ≠ "java/lang/invoke/VarHandle" ∧ (parseMethodDescriptor yX8_byteAt.desc).map (fun d => d.parameters.length) = some 1 := ⟨by decide +kernel, by decide +kernel, by decide +kernel⟩
def fX8_byteAt (s0 : sg_M) (x1 : Int) (Q : Int → Prop) : Prop := ((x1 < 0 → Q (-1)) ∧ (¬ (x1 < 0) → (((s0 1 1) ≤ x1 → Q (-1)) ∧ (¬ ((s0 1 1) ≤ x1) → sg_R 540 ∧ ((x1 < 540 → (0 ≤ x1 ∧ x1 < 540) ∧ Q (s0 2 x1)) ∧ (¬ (x1 < 540) → Q (-1)))))))
set_option maxHeartbeats 4000000 in
set_option maxRecDepth 100000 in
theorem CX8_byteAt {l : Launch} {G : sg_G} {La : sg_L} {s0 : sg_M} (hst : sg_St La) {x1 : Int} (r1 : sg_R x1) {Q : Int → Prop} (hf : fX8_byteAt s0 x1 Q) : sg_C l G yX8_byteAt cX8_byteAt 2 (some .int) 1 0 0 La s0 [sg_r 1, sg_i x1] (sg_PI La s0 Q) := by
  refine sg_body (by decide +kernel) (Nat.le_of_ble_eq_true rfl) ?_
  intro p e s m args below meth c F hnm
  unfold fX8_byteAt at hf
  show sg_W p l e (sg_rm 1 0 0) s m args below meth c (MQ below (sg_Q (some .int) G La s.heap.size (sg_PI La s0 Q)) args s 0 0 (sg_A La s.heap.size)) 2 G (sg_A La s.heap.size) La s0 0 0 0 [(0, sg_r 1), (1, sg_i x1)] []
  refine gw_iload_n F 1 rfl rfl dX8_byteAt_0 ?_
  refine gw_if_lt F (tgt := 21) dX8_byteAt_1 (by decide) r1 (fun c1 => ?_) (fun c1 => ?_)
  · have hf := hf.1 c1
    refine gw_iconst F dX8_byteAt_21 ?_
    refine gw_goto F (tgt := 31) dX8_byteAt_22 (by decide) ?_
    exact gr_PI F (by decide) hf (by decide) (by decide) dX8_byteAt_31
  · have hf := hf.2 c1
    refine gw_iload_n F 1 rfl rfl dX8_byteAt_4 ?_
    refine gw_aload_n F 0 rfl rfl (by decide) dX8_byteAt_5 ?_
    refine gw_get0 F (so_1 hst) (by decide) rfl sg_lay_RX8 (j := 1) (by decide) rfl (host := "") (.inl kw_127) dX8_byteAt_6 (fun h2 => ?_)
    refine gw_icmp_ge F (tgt := 21) dX8_byteAt_9 (by decide) r1 h2 (fun c3 => ?_) (fun c3 => ?_)
    · have hf := hf.1 c3
      refine gw_iconst F dX8_byteAt_21 ?_
      refine gw_goto F (tgt := 31) dX8_byteAt_22 (by decide) ?_
      exact gr_PI F (by decide) hf (by decide) (by decide) dX8_byteAt_31
    · have hf := hf.2 c3
      refine gw_iload_n F 1 rfl rfl dX8_byteAt_12 ?_
      refine gw_aload_n F 0 rfl rfl (by decide) dX8_byteAt_13 ?_
      refine gw_get3 F (so_1 hst) (by decide) rfl sg_lay_RX8 (j := 0) (by decide) (o1 := 2) (by first | rfl | omega) rfl (host := "") (.inl kw_126) dX8_byteAt_14 (fun h4 => ?_)
      refine gw_alen F (sa_2 hst) dX8_byteAt_17 ?_
      obtain ⟨g5, hf⟩ := hf
      refine gw_icmp_lt F (tgt := 25) dX8_byteAt_18 (by decide) r1 g5 (fun c6 => ?_) (fun c6 => ?_)
      · have hf := hf.1 c6
        refine gw_aload_n F 0 rfl rfl (by decide) dX8_byteAt_25 ?_
        refine gw_get3 F (so_1 hst) (by decide) rfl sg_lay_RX8 (j := 0) (by decide) (o1 := 2) (by first | rfl | omega) rfl (host := "") (.inl kw_126) dX8_byteAt_26 (fun h7 => ?_)
        refine gw_iload_n F 1 rfl rfl dX8_byteAt_29 ?_
        obtain ⟨⟨b80, b81⟩, hf⟩ := hf
        refine gw_iald F (sa_2 hst) b80 b81 dX8_byteAt_30 (fun h9 => ?_)
        exact gr_PI F h9 hf (by decide) (by decide) dX8_byteAt_31
      · have hf := hf.2 c6
        refine gw_iconst F dX8_byteAt_21 ?_
        refine gw_goto F (tgt := 31) dX8_byteAt_22 (by decide) ?_
        exact gr_PI F (by decide) hf (by decide) (by decide) dX8_byteAt_31

theorem dX9_isBlank_0 : decode cX9_isBlank 0 = .ok (.iload_n 0, 1) := by decide +kernel
theorem dX9_isBlank_1 : decode cX9_isBlank 1 = .ok (.bipush 32, 2) := by decide +kernel
theorem dX9_isBlank_3 : decode cX9_isBlank 3 = .ok (.if_icmp .eq 9, 3) := by decide +kernel
theorem dX9_isBlank_6 : decode cX9_isBlank 6 = .ok (.iload_n 0, 1) := by decide +kernel
theorem dX9_isBlank_7 : decode cX9_isBlank 7 = .ok (.bipush 10, 2) := by decide +kernel
theorem dX9_isBlank_9 : decode cX9_isBlank 9 = .ok (.if_icmp .ne 7, 3) := by decide +kernel
theorem dX9_isBlank_12 : decode cX9_isBlank 12 = .ok (.iconst 1, 1) := by decide +kernel
theorem dX9_isBlank_13 : decode cX9_isBlank 13 = .ok (.goto 4, 3) := by decide +kernel
theorem dX9_isBlank_16 : decode cX9_isBlank 16 = .ok (.iconst 0, 1) := by decide +kernel
theorem dX9_isBlank_17 : decode cX9_isBlank 17 = .ok (.ireturn, 1) := by decide +kernel
theorem hcX9_isBlank : yX9_isBlank.cls ≠ "java/lang/invoke/MethodHandle" ∧ yX9_isBlank.cls ≠ "java/lang/invoke/VarHandle" ∧ (parseMethodDescriptor yX9_isBlank.desc).map (fun d => d.parameters.length) = some 1 := ⟨by decide +kernel, by decide +kernel, by decide +kernel⟩
def fX9_isBlank (x0 : Int) (Q : Int → Prop) : Prop := ((x0 = 32 → Q 1) ∧ (¬ (x0 = 32) → ((x0 ≠ 10 → Q 0) ∧ (x0 = 10 → Q 1))))
set_option maxHeartbeats 4000000 in
set_option maxRecDepth 100000 in
theorem CX9_isBlank {l : Launch} {G : sg_G} {La : sg_L} {s0 : sg_M} {x0 : Int} (r0 : sg_R x0) {Q : Int → Prop} (hf : fX9_isBlank x0 Q) : sg_C l G yX9_isBlank cX9_isBlank 1 (some .boolean) 1 0 0 La s0 [sg_i x0] (sg_PZ La s0 Q) := by
  refine sg_body (by decide +kernel) (Nat.le_of_ble_eq_true rfl) ?_
  intro p e s m args below meth c F hnm
  unfold fX9_isBlank at hf
  show sg_W p l e (sg_rm 1 0 0) s m args below meth c (MQ below (sg_Q (some .boolean) G La s.heap.size (sg_PZ La s0 Q)) args s 0 0 (sg_A La s.heap.size)) 1 G (sg_A La s.heap.size) La s0 0 0 0 [(0, sg_i x0)] []
  refine gw_iload_n F 0 rfl rfl dX9_isBlank_0 ?_
  refine gw_bipush F rfl dX9_isBlank_1 ?_
  refine gw_icmp_eq F (tgt := 12) dX9_isBlank_3 (by decide) r0 (by decide) (fun c1 => ?_) (fun c1 => ?_)
  · have hf := hf.1 c1
    refine gw_iconst F dX9_isBlank_12 ?_
    refine gw_goto F (tgt := 17) dX9_isBlank_13 (by decide) ?_
    exact gr_PZ F (by decide) hf (by decide) (by decide) dX9_isBlank_17
  · have hf := hf.2 c1
    refine gw_iload_n F 0 rfl rfl dX9_isBlank_6 ?_
    refine gw_bipush F rfl dX9_isBlank_7 ?_
    refine gw_icmp_ne F (tgt := 16) dX9_isBlank_9 (by decide) r0 (by decide) (fun c2 => ?_) (fun c2 => ?_)
    · have hf := hf.1 c2
      refine gw_iconst F dX9_isBlank_16 ?_
      exact gr_PZ F (by decide) hf (by decide) (by decide) dX9_isBlank_17
    · have hf := hf.2 c2
      refine gw_iconst F dX9_isBlank_12 ?_
      refine gw_goto F (tgt := 17) dX9_isBlank_13 (by decide) ?_
      exact gr_PZ F (by decide) hf (by decide) (by decide) dX9_isBlank_17

theorem dX9_isOfRun_0 : decode cX9_isOfRun 0 = .ok (.iload_n 0, 1) := by decide +kernel
theorem dX9_isOfRun_1 : decode cX9_isOfRun 1 = .ok (.bipush 97, 2) := by decide +kernel
theorem dX9_isOfRun_3 : decode cX9_isOfRun 3 = .ok (.if_icmp .lt 9, 3) := by decide +kernel
theorem dX9_isOfRun_6 : decode cX9_isOfRun 6 = .ok (.iload_n 0, 1) := by decide +kernel
theorem dX9_isOfRun_7 : decode cX9_isOfRun 7 = .ok (.bipush 122, 2) := by decide +kernel
theorem dX9_isOfRun_9 : decode cX9_isOfRun 9 = .ok (.if_icmp .le 15, 3) := by decide +kernel
theorem dX9_isOfRun_12 : decode cX9_isOfRun 12 = .ok (.iload_n 0, 1) := by decide +kernel
theorem dX9_isOfRun_13 : decode cX9_isOfRun 13 = .ok (.bipush 48, 2) := by decide +kernel
theorem dX9_isOfRun_15 : decode cX9_isOfRun 15 = .ok (.if_icmp .lt 13, 3) := by decide +kernel
theorem dX9_isOfRun_18 : decode cX9_isOfRun 18 = .ok (.iload_n 0, 1) := by decide +kernel
theorem dX9_isOfRun_19 : decode cX9_isOfRun 19 = .ok (.bipush 57, 2) := by decide +kernel
theorem dX9_isOfRun_21 : decode cX9_isOfRun 21 = .ok (.if_icmp .gt 7, 3) := by decide +kernel
theorem dX9_isOfRun_24 : decode cX9_isOfRun 24 = .ok (.iconst 1, 1) := by decide +kernel
theorem dX9_isOfRun_25 : decode cX9_isOfRun 25 = .ok (.goto 4, 3) := by decide +kernel
theorem dX9_isOfRun_28 : decode cX9_isOfRun 28 = .ok (.iconst 0, 1) := by decide +kernel
theorem dX9_isOfRun_29 : decode cX9_isOfRun 29 = .ok (.ireturn, 1) := by decide +kernel
theorem hcX9_isOfRun : yX9_isOfRun.cls ≠ "java/lang/invoke/MethodHandle" ∧ yX9_isOfRun.cls ≠ "java/lang/invoke/VarHandle" ∧ (parseMethodDescriptor yX9_isOfRun.desc).map (fun d => d.parameters.length) = some 1 := ⟨by decide +kernel, by decide +kernel, by decide +kernel⟩
def fX9_isOfRun_j12 (x0 : Int) (Q : Int → Prop)  : Prop := ((x0 < 48 → Q 0) ∧ (¬ (x0 < 48) → ((57 < x0 → Q 0) ∧ (¬ (57 < x0) → Q 1))))
def fX9_isOfRun (x0 : Int) (Q : Int → Prop) : Prop := ((x0 < 97 → (fX9_isOfRun_j12 x0 Q)) ∧ (¬ (x0 < 97) → ((x0 ≤ 122 → Q 1) ∧ (¬ (x0 ≤ 122) → (fX9_isOfRun_j12 x0 Q)))))
set_option maxHeartbeats 4000000 in
set_option maxRecDepth 100000 in
theorem CX9_isOfRun {l : Launch} {G : sg_G} {La : sg_L} {s0 : sg_M} {x0 : Int} (r0 : sg_R x0) {Q : Int → Prop} (hf : fX9_isOfRun x0 Q) : sg_C l G yX9_isOfRun cX9_isOfRun 1 (some .boolean) 1 0 0 La s0 [sg_i x0] (sg_PZ La s0 Q) := by
  refine sg_body (by decide +kernel) (Nat.le_of_ble_eq_true rfl) ?_
  intro p e s m args below meth c F hnm
  unfold fX9_isOfRun at hf
  show sg_W p l e (sg_rm 1 0 0) s m args below meth c (MQ below (sg_Q (some .boolean) G La s.heap.size (sg_PZ La s0 Q)) args s 0 0 (sg_A La s.heap.size)) 1 G (sg_A La s.heap.size) La s0 0 0 0 [(0, sg_i x0)] []
  refine gw_iload_n F 0 rfl rfl dX9_isOfRun_0 ?_
  refine gw_bipush F rfl dX9_isOfRun_1 ?_
  have J12 : (fX9_isOfRun_j12 x0 Q) → sg_W p l e (sg_rm 1 0 0) s m args below meth c (MQ below (sg_Q (some .boolean) G La s.heap.size (sg_PZ La s0 Q)) args s 0 0 (sg_A La s.heap.size)) 1 G (sg_A La s.heap.size) La s0 0 0 12 [(0, sg_i x0)] [] := by
    intro hf
    unfold fX9_isOfRun_j12 at hf
    refine gw_iload_n F 0 rfl rfl dX9_isOfRun_12 ?_
    refine gw_bipush F rfl dX9_isOfRun_13 ?_
    refine gw_icmp_lt F (tgt := 28) dX9_isOfRun_15 (by decide) r0 (by decide) (fun c1 => ?_) (fun c1 => ?_)
    · have hf := hf.1 c1
      refine gw_iconst F dX9_isOfRun_28 ?_
      exact gr_PZ F (by decide) hf (by decide) (by decide) dX9_isOfRun_29
    · have hf := hf.2 c1
      refine gw_iload_n F 0 rfl rfl dX9_isOfRun_18 ?_
      refine gw_bipush F rfl dX9_isOfRun_19 ?_
      refine gw_icmp_gt F (tgt := 28) dX9_isOfRun_21 (by decide) r0 (by decide) (fun c2 => ?_) (fun c2 => ?_)
      · have hf := hf.1 c2
        refine gw_iconst F dX9_isOfRun_28 ?_
        exact gr_PZ F (by decide) hf (by decide) (by decide) dX9_isOfRun_29
      · have hf := hf.2 c2
        refine gw_iconst F dX9_isOfRun_24 ?_
        refine gw_goto F (tgt := 29) dX9_isOfRun_25 (by decide) ?_
        exact gr_PZ F (by decide) hf (by decide) (by decide) dX9_isOfRun_29
  refine gw_icmp_lt F (tgt := 12) dX9_isOfRun_3 (by decide) r0 (by decide) (fun c3 => ?_) (fun c3 => ?_)
  · have hf := hf.1 c3
    refine gw_sub [0] rfl ?_
    exact J12  hf
  · have hf := hf.2 c3
    refine gw_iload_n F 0 rfl rfl dX9_isOfRun_6 ?_
    refine gw_bipush F rfl dX9_isOfRun_7 ?_
    refine gw_icmp_le F (tgt := 24) dX9_isOfRun_9 (by decide) r0 (by decide) (fun c4 => ?_) (fun c4 => ?_)
    · have hf := hf.1 c4
      refine gw_iconst F dX9_isOfRun_24 ?_
      refine gw_goto F (tgt := 29) dX9_isOfRun_25 (by decide) ?_
      exact gr_PZ F (by decide) hf (by decide) (by decide) dX9_isOfRun_29
    · have hf := hf.2 c4
      refine gw_sub [0] rfl ?_
      exact J12  hf

theorem dX9_isSignByte_0 : decode cX9_isSignByte 0 = .ok (.iload_n 0, 1) := by decide +kernel
theorem dX9_isSignByte_1 : decode cX9_isSignByte 1 = .ok (.bipush 59, 2) := by decide +kernel
theorem dX9_isSignByte_3 : decode cX9_isSignByte 3 = .ok (.if_icmp .eq 33, 3) := by decide +kernel
theorem dX9_isSignByte_6 : decode cX9_isSignByte 6 = .ok (.iload_n 0, 1) := by decide +kernel
theorem dX9_isSignByte_7 : decode cX9_isSignByte 7 = .ok (.bipush 45, 2) := by decide +kernel
theorem dX9_isSignByte_9 : decode cX9_isSignByte 9 = .ok (.if_icmp .eq 27, 3) := by decide +kernel
theorem dX9_isSignByte_12 : decode cX9_isSignByte 12 = .ok (.iload_n 0, 1) := by decide +kernel
theorem dX9_isSignByte_13 : decode cX9_isSignByte 13 = .ok (.bipush 60, 2) := by decide +kernel
theorem dX9_isSignByte_15 : decode cX9_isSignByte 15 = .ok (.if_icmp .lt 9, 3) := by decide +kernel
theorem dX9_isSignByte_18 : decode cX9_isSignByte 18 = .ok (.iload_n 0, 1) := by decide +kernel
theorem dX9_isSignByte_19 : decode cX9_isSignByte 19 = .ok (.bipush 62, 2) := by decide +kernel
theorem dX9_isSignByte_21 : decode cX9_isSignByte 21 = .ok (.if_icmp .le 15, 3) := by decide +kernel
theorem dX9_isSignByte_24 : decode cX9_isSignByte 24 = .ok (.iload_n 0, 1) := by decide +kernel
theorem dX9_isSignByte_25 : decode cX9_isSignByte 25 = .ok (.bipush 40, 2) := by decide +kernel
theorem dX9_isSignByte_27 : decode cX9_isSignByte 27 = .ok (.if_icmp .eq 9, 3) := by decide +kernel
theorem dX9_isSignByte_30 : decode cX9_isSignByte 30 = .ok (.iload_n 0, 1) := by decide +kernel
theorem dX9_isSignByte_31 : decode cX9_isSignByte 31 = .ok (.bipush 41, 2) := by decide +kernel
theorem dX9_isSignByte_33 : decode cX9_isSignByte 33 = .ok (.if_icmp .ne 7, 3) := by decide +kernel
theorem dX9_isSignByte_36 : decode cX9_isSignByte 36 = .ok (.iconst 1, 1) := by decide +kernel
theorem dX9_isSignByte_37 : decode cX9_isSignByte 37 = .ok (.goto 4, 3) := by decide +kernel
theorem dX9_isSignByte_40 : decode cX9_isSignByte 40 = .ok (.iconst 0, 1) := by decide +kernel
theorem dX9_isSignByte_41 : decode cX9_isSignByte 41 = .ok (.ireturn, 1) := by decide +kernel
theorem hcX9_isSignByte : yX9_isSignByte.cls ≠ "java/lang/invoke/MethodHandle" ∧ yX9_isSignByte.cls ≠ "java/lang/invoke/VarHandle" ∧ (parseMethodDescriptor yX9_isSignByte.desc).map (fun d => d.parameters.length) = some 1 := ⟨by decide +kernel, by decide +kernel, by decide +kernel⟩
def fX9_isSignByte_j24 (x0 : Int) (Q : Int → Prop)  : Prop := ((x0 = 40 → Q 1) ∧ (¬ (x0 = 40) → ((x0 ≠ 41 → Q 0) ∧ (x0 = 41 → Q 1))))
def fX9_isSignByte (x0 : Int) (Q : Int → Prop) : Prop := ((x0 = 59 → Q 1) ∧ (¬ (x0 = 59) → ((x0 = 45 → Q 1) ∧ (¬ (x0 = 45) → ((x0 < 60 → (fX9_isSignByte_j24 x0 Q)) ∧ (¬ (x0 < 60) → ((x0 ≤ 62 → Q 1) ∧ (¬ (x0 ≤ 62) → (fX9_isSignByte_j24 x0 Q)))))))))
set_option maxHeartbeats 4000000 in
set_option maxRecDepth 100000 in
theorem CX9_isSignByte {l : Launch} {G : sg_G} {La : sg_L} {s0 : sg_M} {x0 : Int} (r0 : sg_R x0) {Q : Int → Prop} (hf : fX9_isSignByte x0 Q) : sg_C l G yX9_isSignByte cX9_isSignByte 1 (some .boolean) 1 0 0 La s0 [sg_i x0] (sg_PZ La s0 Q) := by
  refine sg_body (by decide +kernel) (Nat.le_of_ble_eq_true rfl) ?_
  intro p e s m args below meth c F hnm
  unfold fX9_isSignByte at hf
  show sg_W p l e (sg_rm 1 0 0) s m args below meth c (MQ below (sg_Q (some .boolean) G La s.heap.size (sg_PZ La s0 Q)) args s 0 0 (sg_A La s.heap.size)) 1 G (sg_A La s.heap.size) La s0 0 0 0 [(0, sg_i x0)] []
  refine gw_iload_n F 0 rfl rfl dX9_isSignByte_0 ?_
  refine gw_bipush F rfl dX9_isSignByte_1 ?_
  refine gw_icmp_eq F (tgt := 36) dX9_isSignByte_3 (by decide) r0 (by decide) (fun c1 => ?_) (fun c1 => ?_)
  · have hf := hf.1 c1
    refine gw_iconst F dX9_isSignByte_36 ?_
    refine gw_goto F (tgt := 41) dX9_isSignByte_37 (by decide) ?_
    exact gr_PZ F (by decide) hf (by decide) (by decide) dX9_isSignByte_41
  · have hf := hf.2 c1
    refine gw_iload_n F 0 rfl rfl dX9_isSignByte_6 ?_
    refine gw_bipush F rfl dX9_isSignByte_7 ?_
    refine gw_icmp_eq F (tgt := 36) dX9_isSignByte_9 (by decide) r0 (by decide) (fun c2 => ?_) (fun c2 => ?_)
    · have hf := hf.1 c2
      refine gw_iconst F dX9_isSignByte_36 ?_
      refine gw_goto F (tgt := 41) dX9_isSignByte_37 (by decide) ?_
      exact gr_PZ F (by decide) hf (by decide) (by decide) dX9_isSignByte_41
    · have hf := hf.2 c2
      refine gw_iload_n F 0 rfl rfl dX9_isSignByte_12 ?_
      refine gw_bipush F rfl dX9_isSignByte_13 ?_
      have J24 : (fX9_isSignByte_j24 x0 Q) → sg_W p l e (sg_rm 1 0 0) s m args below meth c (MQ below (sg_Q (some .boolean) G La s.heap.size (sg_PZ La s0 Q)) args s 0 0 (sg_A La s.heap.size)) 1 G (sg_A La s.heap.size) La s0 0 0 24 [(0, sg_i x0)] [] := by
        intro hf
        unfold fX9_isSignByte_j24 at hf
        refine gw_iload_n F 0 rfl rfl dX9_isSignByte_24 ?_
        refine gw_bipush F rfl dX9_isSignByte_25 ?_
        refine gw_icmp_eq F (tgt := 36) dX9_isSignByte_27 (by decide) r0 (by decide) (fun c3 => ?_) (fun c3 => ?_)
        · have hf := hf.1 c3
          refine gw_iconst F dX9_isSignByte_36 ?_
          refine gw_goto F (tgt := 41) dX9_isSignByte_37 (by decide) ?_
          exact gr_PZ F (by decide) hf (by decide) (by decide) dX9_isSignByte_41
        · have hf := hf.2 c3
          refine gw_iload_n F 0 rfl rfl dX9_isSignByte_30 ?_
          refine gw_bipush F rfl dX9_isSignByte_31 ?_
          refine gw_icmp_ne F (tgt := 40) dX9_isSignByte_33 (by decide) r0 (by decide) (fun c4 => ?_) (fun c4 => ?_)
          · have hf := hf.1 c4
            refine gw_iconst F dX9_isSignByte_40 ?_
            exact gr_PZ F (by decide) hf (by decide) (by decide) dX9_isSignByte_41
          · have hf := hf.2 c4
            refine gw_iconst F dX9_isSignByte_36 ?_
            refine gw_goto F (tgt := 41) dX9_isSignByte_37 (by decide) ?_
            exact gr_PZ F (by decide) hf (by decide) (by decide) dX9_isSignByte_41
      refine gw_icmp_lt F (tgt := 24) dX9_isSignByte_15 (by decide) r0 (by decide) (fun c5 => ?_) (fun c5 => ?_)
      · have hf := hf.1 c5
        refine gw_sub [0] rfl ?_
        exact J24  hf
      · have hf := hf.2 c5
        refine gw_iload_n F 0 rfl rfl dX9_isSignByte_18 ?_
        refine gw_bipush F rfl dX9_isSignByte_19 ?_
        refine gw_icmp_le F (tgt := 36) dX9_isSignByte_21 (by decide) r0 (by decide) (fun c6 => ?_) (fun c6 => ?_)
        · have hf := hf.1 c6
          refine gw_iconst F dX9_isSignByte_36 ?_
          refine gw_goto F (tgt := 41) dX9_isSignByte_37 (by decide) ?_
          exact gr_PZ F (by decide) hf (by decide) (by decide) dX9_isSignByte_41
        · have hf := hf.2 c6
          refine gw_sub [0] rfl ?_
          exact J24  hf

theorem dX9_kindOfRun_0 : decode cX9_kindOfRun 0 = .ok (.iload_n 0, 1) := by decide +kernel
theorem dX9_kindOfRun_1 : decode cX9_kindOfRun 1 = .ok (.ifCond .ne 10, 3) := by decide +kernel
theorem dX9_kindOfRun_4 : decode cX9_kindOfRun 4 = .ok (.iload_n 1, 1) := by decide +kernel
theorem dX9_kindOfRun_5 : decode cX9_kindOfRun 5 = .ok (.iconst 4, 1) := by decide +kernel
theorem dX9_kindOfRun_6 : decode cX9_kindOfRun 6 = .ok (.if_icmp .gt 5, 3) := by decide +kernel
theorem dX9_kindOfRun_9 : decode cX9_kindOfRun 9 = .ok (.iconst 2, 1) := by decide +kernel
theorem dX9_kindOfRun_10 : decode cX9_kindOfRun 10 = .ok (.ireturn, 1) := by decide +kernel
theorem dX9_kindOfRun_11 : decode cX9_kindOfRun 11 = .ok (.iload_n 1, 1) := by decide +kernel
theorem dX9_kindOfRun_12 : decode cX9_kindOfRun 12 = .ok (.ifCond .ne 13, 3) := by decide +kernel
theorem dX9_kindOfRun_15 : decode cX9_kindOfRun 15 = .ok (.iload_n 0, 1) := by decide +kernel
theorem dX9_kindOfRun_16 : decode cX9_kindOfRun 16 = .ok (.bipush 6, 2) := by decide +kernel
theorem dX9_kindOfRun_18 : decode cX9_kindOfRun 18 = .ok (.if_icmp .gt 7, 3) := by decide +kernel
theorem dX9_kindOfRun_21 : decode cX9_kindOfRun 21 = .ok (.iconst 1, 1) := by decide +kernel
theorem dX9_kindOfRun_22 : decode cX9_kindOfRun 22 = .ok (.goto 4, 3) := by decide +kernel
theorem dX9_kindOfRun_25 : decode cX9_kindOfRun 25 = .ok (.iconst 4, 1) := by decide +kernel
theorem dX9_kindOfRun_26 : decode cX9_kindOfRun 26 = .ok (.ireturn, 1) := by decide +kernel
theorem hcX9_kindOfRun : yX9_kindOfRun.cls ≠ "java/lang/invoke/MethodHandle" ∧ yX9_kindOfRun.cls ≠ "java/lang/invoke/VarHandle" ∧ (parseMethodDescriptor yX9_kindOfRun.desc).map (fun d => d.parameters.length) = some 2 := ⟨by decide +kernel, by decide +kernel, by decide +kernel⟩
def fX9_kindOfRun_j11 (x0 : Int) (x1 : Int) (Q : Int → Prop)  : Prop := ((x1 ≠ 0 → Q 4) ∧ (x1 = 0 → ((6 < x0 → Q 4) ∧ (¬ (6 < x0) → Q 1))))
def fX9_kindOfRun (x0 : Int) (x1 : Int) (Q : Int → Prop) : Prop := ((x0 ≠ 0 → (fX9_kindOfRun_j11 x0 x1 Q)) ∧ (x0 = 0 → ((4 < x1 → (fX9_kindOfRun_j11 x0 x1 Q)) ∧ (¬ (4 < x1) → Q 2))))
set_option maxHeartbeats 4000000 in
set_option maxRecDepth 100000 in
theorem CX9_kindOfRun {l : Launch} {G : sg_G} {La : sg_L} {s0 : sg_M} {x0 : Int} (r0 : sg_R x0) {x1 : Int} (r1 : sg_R x1) {Q : Int → Prop} (hf : fX9_kindOfRun x0 x1 Q) : sg_C l G yX9_kindOfRun cX9_kindOfRun 2 (some .int) 1 0 0 La s0 [sg_i x0, sg_i x1] (sg_PI La s0 Q) := by
  refine sg_body (by decide +kernel) (Nat.le_of_ble_eq_true rfl) ?_
  intro p e s m args below meth c F hnm
  unfold fX9_kindOfRun at hf
  show sg_W p l e (sg_rm 1 0 0) s m args below meth c (MQ below (sg_Q (some .int) G La s.heap.size (sg_PI La s0 Q)) args s 0 0 (sg_A La s.heap.size)) 2 G (sg_A La s.heap.size) La s0 0 0 0 [(0, sg_i x0), (1, sg_i x1)] []
  refine gw_iload_n F 0 rfl rfl dX9_kindOfRun_0 ?_
  have J11 : (fX9_kindOfRun_j11 x0 x1 Q) → sg_W p l e (sg_rm 1 0 0) s m args below meth c (MQ below (sg_Q (some .int) G La s.heap.size (sg_PI La s0 Q)) args s 0 0 (sg_A La s.heap.size)) 2 G (sg_A La s.heap.size) La s0 0 0 11 [(0, sg_i x0), (1, sg_i x1)] [] := by
    intro hf
    unfold fX9_kindOfRun_j11 at hf
    refine gw_iload_n F 1 rfl rfl dX9_kindOfRun_11 ?_
    refine gw_if_ne F (tgt := 25) dX9_kindOfRun_12 (by decide) r1 (fun c1 => ?_) (fun c1 => ?_)
    · have hf := hf.1 c1
      refine gw_iconst F dX9_kindOfRun_25 ?_
      exact gr_PI F (by decide) hf (by decide) (by decide) dX9_kindOfRun_26
    · have hf := hf.2 c1
      refine gw_iload_n F 0 rfl rfl dX9_kindOfRun_15 ?_
      refine gw_bipush F rfl dX9_kindOfRun_16 ?_
      refine gw_icmp_gt F (tgt := 25) dX9_kindOfRun_18 (by decide) r0 (by decide) (fun c2 => ?_) (fun c2 => ?_)
      · have hf := hf.1 c2
        refine gw_iconst F dX9_kindOfRun_25 ?_
        exact gr_PI F (by decide) hf (by decide) (by decide) dX9_kindOfRun_26
      · have hf := hf.2 c2
        refine gw_iconst F dX9_kindOfRun_21 ?_
        refine gw_goto F (tgt := 26) dX9_kindOfRun_22 (by decide) ?_
        exact gr_PI F (by decide) hf (by decide) (by decide) dX9_kindOfRun_26
  refine gw_if_ne F (tgt := 11) dX9_kindOfRun_1 (by decide) r0 (fun c3 => ?_) (fun c3 => ?_)
  · have hf := hf.1 c3
    refine gw_sub [0, 1] rfl ?_
    exact J11  hf
  · have hf := hf.2 c3
    refine gw_iload_n F 1 rfl rfl dX9_kindOfRun_4 ?_
    refine gw_iconst F dX9_kindOfRun_5 ?_
    refine gw_icmp_gt F (tgt := 11) dX9_kindOfRun_6 (by decide) r1 (by decide) (fun c4 => ?_) (fun c4 => ?_)
    · have hf := hf.1 c4
      refine gw_sub [0, 1] rfl ?_
      exact J11  hf
    · have hf := hf.2 c4
      refine gw_iconst F dX9_kindOfRun_9 ?_
      exact gr_PI F (by decide) hf (by decide) (by decide) dX9_kindOfRun_10

theorem dX9_advance_0 : decode cX9_advance 0 = .ok (.aload_n 0, 1) := by decide +kernel
theorem dX9_advance_1 : decode cX9_advance 1 = .ok (.aload_n 0, 1) := by decide +kernel
theorem dX9_advance_2 : decode cX9_advance 2 = .ok (.getfield 19, 3) := by decide +kernel
theorem dX9_advance_5 : decode cX9_advance 5 = .ok (.putfield 16, 3) := by decide +kernel
theorem dX9_advance_8 : decode cX9_advance 8 = .ok (.aload_n 0, 1) := by decide +kernel
theorem dX9_advance_9 : decode cX9_advance 9 = .ok (.getfield 16, 3) := by decide +kernel
theorem dX9_advance_12 : decode cX9_advance 12 = .ok (.aload_n 0, 1) := by decide +kernel
theorem dX9_advance_13 : decode cX9_advance 13 = .ok (.getfield 7, 3) := by decide +kernel
theorem dX9_advance_16 : decode cX9_advance 16 = .ok (.if_icmp .ge 33, 3) := by decide +kernel
theorem dX9_advance_19 : decode cX9_advance 19 = .ok (.aload_n 0, 1) := by decide +kernel
theorem dX9_advance_20 : decode cX9_advance 20 = .ok (.getfield 31, 3) := by decide +kernel
theorem dX9_advance_23 : decode cX9_advance 23 = .ok (.aload_n 0, 1) := by decide +kernel
theorem dX9_advance_24 : decode cX9_advance 24 = .ok (.getfield 16, 3) := by decide +kernel
theorem dX9_advance_27 : decode cX9_advance 27 = .ok (.invokevirtual 38, 3) := by decide +kernel
theorem dX9_advance_30 : decode cX9_advance 30 = .ok (.invokestatic 44, 3) := by decide +kernel
theorem dX9_advance_33 : decode cX9_advance 33 = .ok (.ifCond .eq 16, 3) := by decide +kernel
theorem dX9_advance_36 : decode cX9_advance 36 = .ok (.aload_n 0, 1) := by decide +kernel
theorem dX9_advance_37 : decode cX9_advance 37 = .ok (.dup, 1) := by decide +kernel
theorem dX9_advance_38 : decode cX9_advance 38 = .ok (.getfield 16, 3) := by decide +kernel
theorem dX9_advance_41 : decode cX9_advance 41 = .ok (.iconst 1, 1) := by decide +kernel
theorem dX9_advance_42 : decode cX9_advance 42 = .ok (.iadd, 1) := by decide +kernel
theorem dX9_advance_43 : decode cX9_advance 43 = .ok (.putfield 16, 3) := by decide +kernel
theorem dX9_advance_46 : decode cX9_advance 46 = .ok (.goto (-38), 3) := by decide +kernel
theorem dX9_advance_49 : decode cX9_advance 49 = .ok (.iconst 0, 1) := by decide +kernel
theorem dX9_advance_50 : decode cX9_advance 50 = .ok (.istore_n 1, 1) := by decide +kernel
theorem dX9_advance_51 : decode cX9_advance 51 = .ok (.iconst 0, 1) := by decide +kernel
theorem dX9_advance_52 : decode cX9_advance 52 = .ok (.istore_n 2, 1) := by decide +kernel
theorem dX9_advance_53 : decode cX9_advance 53 = .ok (.aload_n 0, 1) := by decide +kernel
theorem dX9_advance_54 : decode cX9_advance 54 = .ok (.iconst 0, 1) := by decide +kernel
theorem dX9_advance_55 : decode cX9_advance 55 = .ok (.putfield 22, 3) := by decide +kernel
theorem dX9_advance_58 : decode cX9_advance 58 = .ok (.aload_n 0, 1) := by decide +kernel
theorem dX9_advance_59 : decode cX9_advance 59 = .ok (.aload_n 0, 1) := by decide +kernel
theorem dX9_advance_60 : decode cX9_advance 60 = .ok (.getfield 16, 3) := by decide +kernel
theorem dX9_advance_63 : decode cX9_advance 63 = .ok (.putfield 19, 3) := by decide +kernel
theorem dX9_advance_66 : decode cX9_advance 66 = .ok (.aload_n 0, 1) := by decide +kernel
theorem dX9_advance_67 : decode cX9_advance 67 = .ok (.getfield 19, 3) := by decide +kernel
theorem dX9_advance_70 : decode cX9_advance 70 = .ok (.aload_n 0, 1) := by decide +kernel
theorem dX9_advance_71 : decode cX9_advance 71 = .ok (.getfield 31, 3) := by decide +kernel
theorem dX9_advance_74 : decode cX9_advance 74 = .ok (.getfield 48, 3) := by decide +kernel
theorem dX9_advance_77 : decode cX9_advance 77 = .ok (.if_icmp .ge 88, 3) := by decide +kernel
theorem dX9_advance_80 : decode cX9_advance 80 = .ok (.aload_n 0, 1) := by decide +kernel
theorem dX9_advance_81 : decode cX9_advance 81 = .ok (.getfield 31, 3) := by decide +kernel
theorem dX9_advance_84 : decode cX9_advance 84 = .ok (.aload_n 0, 1) := by decide +kernel
theorem dX9_advance_85 : decode cX9_advance 85 = .ok (.getfield 19, 3) := by decide +kernel
theorem dX9_advance_88 : decode cX9_advance 88 = .ok (.invokevirtual 38, 3) := by decide +kernel
theorem dX9_advance_91 : decode cX9_advance 91 = .ok (.invokestatic 51, 3) := by decide +kernel
theorem dX9_advance_94 : decode cX9_advance 94 = .ok (.ifCond .eq 71, 3) := by decide +kernel
theorem dX9_advance_97 : decode cX9_advance 97 = .ok (.aload_n 0, 1) := by decide +kernel
theorem dX9_advance_98 : decode cX9_advance 98 = .ok (.getfield 31, 3) := by decide +kernel
theorem dX9_advance_101 : decode cX9_advance 101 = .ok (.aload_n 0, 1) := by decide +kernel
theorem dX9_advance_102 : decode cX9_advance 102 = .ok (.getfield 19, 3) := by decide +kernel
theorem dX9_advance_105 : decode cX9_advance 105 = .ok (.invokevirtual 38, 3) := by decide +kernel
theorem dX9_advance_108 : decode cX9_advance 108 = .ok (.istore_n 3, 1) := by decide +kernel
theorem dX9_advance_109 : decode cX9_advance 109 = .ok (.iload_n 3, 1) := by decide +kernel
theorem dX9_advance_110 : decode cX9_advance 110 = .ok (.bipush 97, 2) := by decide +kernel
theorem dX9_advance_112 : decode cX9_advance 112 = .ok (.if_icmp .lt 9, 3) := by decide +kernel
theorem dX9_advance_115 : decode cX9_advance 115 = .ok (.iinc 1 1, 3) := by decide +kernel
theorem dX9_advance_118 : decode cX9_advance 118 = .ok (.goto 34, 3) := by decide +kernel
theorem dX9_advance_121 : decode cX9_advance 121 = .ok (.iinc 2 1, 3) := by decide +kernel
theorem dX9_advance_124 : decode cX9_advance 124 = .ok (.aload_n 0, 1) := by decide +kernel
theorem dX9_advance_125 : decode cX9_advance 125 = .ok (.iload_n 2, 1) := by decide +kernel
theorem dX9_advance_126 : decode cX9_advance 126 = .ok (.iconst 4, 1) := by decide +kernel
theorem dX9_advance_127 : decode cX9_advance 127 = .ok (.if_icmp .gt 18, 3) := by decide +kernel
theorem dX9_advance_130 : decode cX9_advance 130 = .ok (.aload_n 0, 1) := by decide +kernel
theorem dX9_advance_131 : decode cX9_advance 131 = .ok (.getfield 22, 3) := by decide +kernel
theorem dX9_advance_134 : decode cX9_advance 134 = .ok (.bipush 10, 2) := by decide +kernel
theorem dX9_advance_136 : decode cX9_advance 136 = .ok (.imul, 1) := by decide +kernel
theorem dX9_advance_137 : decode cX9_advance 137 = .ok (.iload_n 3, 1) := by decide +kernel
theorem dX9_advance_138 : decode cX9_advance 138 = .ok (.iadd, 1) := by decide +kernel
theorem dX9_advance_139 : decode cX9_advance 139 = .ok (.bipush 48, 2) := by decide +kernel
theorem dX9_advance_141 : decode cX9_advance 141 = .ok (.isub, 1) := by decide +kernel
theorem dX9_advance_142 : decode cX9_advance 142 = .ok (.goto 7, 3) := by decide +kernel
theorem dX9_advance_145 : decode cX9_advance 145 = .ok (.aload_n 0, 1) := by decide +kernel
theorem dX9_advance_146 : decode cX9_advance 146 = .ok (.getfield 22, 3) := by decide +kernel
theorem dX9_advance_149 : decode cX9_advance 149 = .ok (.putfield 22, 3) := by decide +kernel
theorem dX9_advance_152 : decode cX9_advance 152 = .ok (.aload_n 0, 1) := by decide +kernel
theorem dX9_advance_153 : decode cX9_advance 153 = .ok (.dup, 1) := by decide +kernel
theorem dX9_advance_154 : decode cX9_advance 154 = .ok (.getfield 19, 3) := by decide +kernel
theorem dX9_advance_157 : decode cX9_advance 157 = .ok (.iconst 1, 1) := by decide +kernel
theorem dX9_advance_158 : decode cX9_advance 158 = .ok (.iadd, 1) := by decide +kernel
theorem dX9_advance_159 : decode cX9_advance 159 = .ok (.putfield 19, 3) := by decide +kernel
theorem dX9_advance_162 : decode cX9_advance 162 = .ok (.goto (-96), 3) := by decide +kernel
theorem dX9_advance_165 : decode cX9_advance 165 = .ok (.aload_n 0, 1) := by decide +kernel
theorem dX9_advance_166 : decode cX9_advance 166 = .ok (.getfield 16, 3) := by decide +kernel
theorem dX9_advance_169 : decode cX9_advance 169 = .ok (.aload_n 0, 1) := by decide +kernel
theorem dX9_advance_170 : decode cX9_advance 170 = .ok (.getfield 7, 3) := by decide +kernel
theorem dX9_advance_173 : decode cX9_advance 173 = .ok (.if_icmp .lt 33, 3) := by decide +kernel
theorem dX9_advance_176 : decode cX9_advance 176 = .ok (.aload_n 0, 1) := by decide +kernel
theorem dX9_advance_177 : decode cX9_advance 177 = .ok (.getfield 31, 3) := by decide +kernel
theorem dX9_advance_180 : decode cX9_advance 180 = .ok (.getfield 48, 3) := by decide +kernel
theorem dX9_advance_183 : decode cX9_advance 183 = .ok (.aload_n 0, 1) := by decide +kernel
theorem dX9_advance_184 : decode cX9_advance 184 = .ok (.getfield 7, 3) := by decide +kernel
theorem dX9_advance_187 : decode cX9_advance 187 = .ok (.if_icmp .le 19, 3) := by decide +kernel
theorem dX9_advance_190 : decode cX9_advance 190 = .ok (.aload_n 0, 1) := by decide +kernel
theorem dX9_advance_191 : decode cX9_advance 191 = .ok (.aload_n 0, 1) := by decide +kernel
theorem dX9_advance_192 : decode cX9_advance 192 = .ok (.getfield 7, 3) := by decide +kernel
theorem dX9_advance_195 : decode cX9_advance 195 = .ok (.putfield 16, 3) := by decide +kernel
theorem dX9_advance_198 : decode cX9_advance 198 = .ok (.aload_n 0, 1) := by decide +kernel
theorem dX9_advance_199 : decode cX9_advance 199 = .ok (.iconst 4, 1) := by decide +kernel
theorem dX9_advance_200 : decode cX9_advance 200 = .ok (.putfield 13, 3) := by decide +kernel
theorem dX9_advance_203 : decode cX9_advance 203 = .ok (.goto 103, 3) := by decide +kernel
theorem dX9_advance_206 : decode cX9_advance 206 = .ok (.aload_n 0, 1) := by decide +kernel
theorem dX9_advance_207 : decode cX9_advance 207 = .ok (.getfield 16, 3) := by decide +kernel
theorem dX9_advance_210 : decode cX9_advance 210 = .ok (.aload_n 0, 1) := by decide +kernel
theorem dX9_advance_211 : decode cX9_advance 211 = .ok (.getfield 31, 3) := by decide +kernel
theorem dX9_advance_214 : decode cX9_advance 214 = .ok (.getfield 48, 3) := by decide +kernel
theorem dX9_advance_217 : decode cX9_advance 217 = .ok (.if_icmp .lt 22, 3) := by decide +kernel
theorem dX9_advance_220 : decode cX9_advance 220 = .ok (.aload_n 0, 1) := by decide +kernel
theorem dX9_advance_221 : decode cX9_advance 221 = .ok (.aload_n 0, 1) := by decide +kernel
theorem dX9_advance_222 : decode cX9_advance 222 = .ok (.getfield 31, 3) := by decide +kernel
theorem dX9_advance_225 : decode cX9_advance 225 = .ok (.getfield 48, 3) := by decide +kernel
theorem dX9_advance_228 : decode cX9_advance 228 = .ok (.putfield 16, 3) := by decide +kernel
theorem dX9_advance_231 : decode cX9_advance 231 = .ok (.aload_n 0, 1) := by decide +kernel
theorem dX9_advance_232 : decode cX9_advance 232 = .ok (.iconst 0, 1) := by decide +kernel
theorem dX9_advance_233 : decode cX9_advance 233 = .ok (.putfield 13, 3) := by decide +kernel
theorem dX9_advance_236 : decode cX9_advance 236 = .ok (.goto 70, 3) := by decide +kernel
theorem dX9_advance_239 : decode cX9_advance 239 = .ok (.aload_n 0, 1) := by decide +kernel
theorem dX9_advance_240 : decode cX9_advance 240 = .ok (.getfield 19, 3) := by decide +kernel
theorem dX9_advance_243 : decode cX9_advance 243 = .ok (.aload_n 0, 1) := by decide +kernel
theorem dX9_advance_244 : decode cX9_advance 244 = .ok (.getfield 16, 3) := by decide +kernel
theorem dX9_advance_247 : decode cX9_advance 247 = .ok (.if_icmp .le 15, 3) := by decide +kernel
theorem dX9_advance_250 : decode cX9_advance 250 = .ok (.aload_n 0, 1) := by decide +kernel
theorem dX9_advance_251 : decode cX9_advance 251 = .ok (.iload_n 1, 1) := by decide +kernel
theorem dX9_advance_252 : decode cX9_advance 252 = .ok (.iload_n 2, 1) := by decide +kernel
theorem dX9_advance_253 : decode cX9_advance 253 = .ok (.invokestatic 54, 3) := by decide +kernel
theorem dX9_advance_256 : decode cX9_advance 256 = .ok (.putfield 13, 3) := by decide +kernel
theorem dX9_advance_259 : decode cX9_advance 259 = .ok (.goto 47, 3) := by decide +kernel
theorem dX9_advance_262 : decode cX9_advance 262 = .ok (.aload_n 0, 1) := by decide +kernel
theorem dX9_advance_263 : decode cX9_advance 263 = .ok (.aload_n 0, 1) := by decide +kernel
theorem dX9_advance_264 : decode cX9_advance 264 = .ok (.getfield 31, 3) := by decide +kernel
theorem dX9_advance_267 : decode cX9_advance 267 = .ok (.aload_n 0, 1) := by decide +kernel
theorem dX9_advance_268 : decode cX9_advance 268 = .ok (.getfield 16, 3) := by decide +kernel
theorem dX9_advance_271 : decode cX9_advance 271 = .ok (.invokevirtual 38, 3) := by decide +kernel
theorem dX9_advance_274 : decode cX9_advance 274 = .ok (.putfield 22, 3) := by decide +kernel
theorem dX9_advance_277 : decode cX9_advance 277 = .ok (.aload_n 0, 1) := by decide +kernel
theorem dX9_advance_278 : decode cX9_advance 278 = .ok (.aload_n 0, 1) := by decide +kernel
theorem dX9_advance_279 : decode cX9_advance 279 = .ok (.getfield 22, 3) := by decide +kernel
theorem dX9_advance_282 : decode cX9_advance 282 = .ok (.invokestatic 58, 3) := by decide +kernel
theorem dX9_advance_285 : decode cX9_advance 285 = .ok (.ifCond .eq 7, 3) := by decide +kernel
theorem dX9_advance_288 : decode cX9_advance 288 = .ok (.iconst 3, 1) := by decide +kernel
theorem dX9_advance_289 : decode cX9_advance 289 = .ok (.goto 4, 3) := by decide +kernel
theorem dX9_advance_292 : decode cX9_advance 292 = .ok (.iconst 4, 1) := by decide +kernel
theorem dX9_advance_293 : decode cX9_advance 293 = .ok (.putfield 13, 3) := by decide +kernel
theorem dX9_advance_296 : decode cX9_advance 296 = .ok (.aload_n 0, 1) := by decide +kernel
theorem dX9_advance_297 : decode cX9_advance 297 = .ok (.aload_n 0, 1) := by decide +kernel
theorem dX9_advance_298 : decode cX9_advance 298 = .ok (.getfield 16, 3) := by decide +kernel
theorem dX9_advance_301 : decode cX9_advance 301 = .ok (.iconst 1, 1) := by decide +kernel
theorem dX9_advance_302 : decode cX9_advance 302 = .ok (.iadd, 1) := by decide +kernel
theorem dX9_advance_303 : decode cX9_advance 303 = .ok (.putfield 19, 3) := by decide +kernel
theorem dX9_advance_306 : decode cX9_advance 306 = .ok (.return_, 1) := by decide +kernel
theorem hcX9_advance : yX9_advance.cls ≠ "java/lang/invoke/MethodHandle" ∧ yX9_advance.cls ≠ "java/lang/invoke/VarHandle" ∧ (parseMethodDescriptor yX9_advance.desc).map (fun d => d.parameters.length) = some 0 := ⟨by decide +kernel, by decide +kernel, by decide +kernel⟩
def fX9_advance_L8  (k49 : sg_M → Prop) : Nat → sg_M → Prop
  | 0, _ => False
  | n_8 + 1, s_8 => (((s_8 3 1) ≤ (s_8 3 3) → k49 s_8) ∧ (¬ ((s_8 3 1) ≤ (s_8 3 3)) → fX8_byteAt s_8 (s_8 3 3) (fun u9 => fX9_isBlank u9 (fun u11 => ((u11 = 0 → k49 s_8) ∧ (¬ (u11 = 0) → sg_R ((s_8 3 3) + 1) ∧ ∀ s16 : sg_M, s16 = sg_up s_8 3 3 ((s_8 3 3) + 1) → (fX9_advance_L8  k49 n_8) s16))))))
def fX9_advance_j152  (k66 : sg_M → Int → Int → Prop) (s_152 : sg_M) (x1_152 : Int) (x2_152 : Int) : Prop := sg_R ((s_152 3 4) + 1) ∧ ∀ s41 : sg_M, s41 = sg_up s_152 3 4 ((s_152 3 4) + 1) → k66 s41 x1_152 x2_152
def fX9_advance_j149 (s_66 : sg_M) (x1_66 : Int) (x2_66 : Int) (k152 : sg_M → Int → Int → Prop) (y0_149 : Int) : Prop := ∀ s44 : sg_M, s44 = sg_up s_66 3 5 y0_149 → sg_R (x2_66 + 1) ∧ k152 s44 x1_66 (x2_66 + 1)
def fX9_advance_L66  (k165 : sg_M → Int → Int → Prop) : Nat → sg_M → Int → Int → Prop
  | 0, _, _, _ => False
  | n_66 + 1, s_66, x1_66, x2_66 => (((s_66 1 1) ≤ (s_66 3 4) → k165 s_66 x1_66 x2_66) ∧ (¬ ((s_66 1 1) ≤ (s_66 3 4)) → fX8_byteAt s_66 (s_66 3 4) (fun u30 => fX9_isOfRun u30 (fun u32 => ((u32 = 0 → k165 s_66 x1_66 x2_66) ∧ (¬ (u32 = 0) → fX8_byteAt s_66 (s_66 3 4) (fun u37 => ((u37 < 97 → sg_R (x2_66 + 1) ∧ ((4 < (x2_66 + 1) → (fX9_advance_j149 s_66 x1_66 x2_66 (fX9_advance_j152  (fX9_advance_L66  k165 n_66))) (s_66 3 5)) ∧ (¬ (4 < (x2_66 + 1)) → sg_R ((((s_66 3 5) * 10) + u37) - 48) ∧ (fX9_advance_j149 s_66 x1_66 x2_66 (fX9_advance_j152  (fX9_advance_L66  k165 n_66))) ((((s_66 3 5) * 10) + u37) - 48)))) ∧ (¬ (u37 < 97) → sg_R (x1_66 + 1) ∧ (fX9_advance_j152  (fX9_advance_L66  k165 n_66)) s_66 (x1_66 + 1) x2_66)))))))))
def fX9_advance_j206 (s_165e66 : sg_M) (x1_165e66 : Int) (x2_165e66 : Int) (Q : sg_M → Prop)  : Prop := (((s_165e66 3 3) < (s_165e66 1 1) → (((s_165e66 3 4) ≤ (s_165e66 3 3) → fX8_byteAt s_165e66 (s_165e66 3 3) (fun u65 => ∀ s67 : sg_M, s67 = sg_up s_165e66 3 5 u65 → fX9_isSignByte (s67 3 5) (fun u70 => ((u70 = 0 → ∀ s73 : sg_M, s73 = sg_up s67 3 2 4 → sg_R ((s73 3 3) + 1) ∧ ∀ s77 : sg_M, s77 = sg_up s73 3 4 ((s73 3 3) + 1) → Q s77) ∧ (¬ (u70 = 0) → ∀ s79 : sg_M, s79 = sg_up s67 3 2 3 → sg_R ((s79 3 3) + 1) ∧ ∀ s83 : sg_M, s83 = sg_up s79 3 4 ((s79 3 3) + 1) → Q s83))))) ∧ (¬ ((s_165e66 3 4) ≤ (s_165e66 3 3)) → fX9_kindOfRun x1_165e66 x2_165e66 (fun u85 => ∀ s87 : sg_M, s87 = sg_up s_165e66 3 2 u85 → Q s87)))) ∧ (¬ ((s_165e66 3 3) < (s_165e66 1 1)) → ∀ s91 : sg_M, s91 = sg_up s_165e66 3 3 (s_165e66 1 1) → ∀ s93 : sg_M, s93 = sg_up s91 3 2 0 → Q s93))
def fX9_advance (s0 : sg_M) (Q : sg_M → Prop) : Prop := ∀ s2 : sg_M, s2 = sg_up s0 3 3 (s0 3 4) → (∃ n18 : Nat, fX9_advance_L8  (fun s_49e8 => ∀ s19 : sg_M, s19 = sg_up s_49e8 3 5 0 → ∀ s22 : sg_M, s22 = sg_up s19 3 4 (s19 3 3) → (∃ n53 : Nat, fX9_advance_L66  (fun s_165e66 x1_165e66 x2_165e66 => (((s_165e66 3 3) < (s_165e66 3 1) → (fX9_advance_j206 s_165e66 x1_165e66 x2_165e66 Q)) ∧ (¬ ((s_165e66 3 3) < (s_165e66 3 1)) → (((s_165e66 1 1) ≤ (s_165e66 3 1) → (fX9_advance_j206 s_165e66 x1_165e66 x2_165e66 Q)) ∧ (¬ ((s_165e66 1 1) ≤ (s_165e66 3 1)) → ∀ s101 : sg_M, s101 = sg_up s_165e66 3 3 (s_165e66 3 1) → ∀ s103 : sg_M, s103 = sg_up s101 3 2 4 → Q s103))))) n53 s22 0 0)) n18 s2)
set_option maxHeartbeats 4000000 in
set_option maxRecDepth 100000 in
theorem CX9_advance {l : Launch} {G : sg_G} {La : sg_L} {s0 : sg_M} (hst : sg_St La) {Q : sg_M → Prop} (hf : fX9_advance s0 Q) : sg_C l G yX9_advance cX9_advance 4 (none) 2 0 0 La s0 [sg_r 3] (sg_HV La Q) := by
  refine sg_body (by decide +kernel) (Nat.le_of_ble_eq_true rfl) ?_
  intro p e s m args below meth c F hnm
  unfold fX9_advance at hf
  show sg_W p l e (sg_rm 2 0 0) s m args below meth c (MQ below (sg_Q (none) G La s.heap.size (sg_HV La Q)) args s 0 0 (sg_A La s.heap.size)) 4 G (sg_A La s.heap.size) La s0 0 0 0 [(0, sg_r 3)] []
  refine gw_aload_n F 0 rfl rfl (by decide) dX9_advance_0 ?_
  refine gw_aload_n F 0 rfl rfl (by decide) dX9_advance_1 ?_
  refine gw_get0 F (so_3 hst) (by decide) rfl sg_lay_RX9 (j := 4) (by decide) rfl (host := "") (.inl kw_142) dX9_advance_2 (fun h1 => ?_)
  obtain ⟨s2, e3⟩ : ∃ z : sg_M, z = sg_up s0 3 3 (s0 3 4) := ⟨_, rfl⟩
  have hf := hf s2 e3
  refine gw_put0 F (so_3 hst) (by decide) rfl sg_lay_RX9 (j := 3) (by decide) h1 e3 tyX9_ok nmX9 rfl (tyX9_ok 3 (by decide)) rfl (host := "") (.inl kw_141) dX9_advance_5 ?_
  have L8 : ∀ (k49 : sg_M → Prop) (hk49 : ∀ (s_49e8 : sg_M), k49 s_49e8 → sg_W p l e (sg_rm 2 0 0) s m args below meth c (MQ below (sg_Q (none) G La s.heap.size (sg_HV La Q)) args s 0 0 (sg_A La s.heap.size)) 4 G (sg_A La s.heap.size) La s_49e8 0 0 49 [(0, sg_r 3)] []), ∀ n_8 : Nat, ∀ (s_8 : sg_M), fX9_advance_L8  k49 n_8 s_8 → sg_W p l e (sg_rm 2 0 0) s m args below meth c (MQ below (sg_Q (none) G La s.heap.size (sg_HV La Q)) args s 0 0 (sg_A La s.heap.size)) 4 G (sg_A La s.heap.size) La s_8 0 0 8 [(0, sg_r 3)] [] := by
    intro k49 hk49 n_8
    induction n_8 with
    | zero => intro s_8 hf; exact hf.elim
    | succ n_8 ih =>
      intro s_8 hf
      unfold fX9_advance_L8 at hf
      refine gw_aload_n F 0 rfl rfl (by decide) dX9_advance_8 ?_
      refine gw_get0 F (so_3 hst) (by decide) rfl sg_lay_RX9 (j := 3) (by decide) rfl (host := "") (.inl kw_141) dX9_advance_9 (fun h4 => ?_)
      refine gw_aload_n F 0 rfl rfl (by decide) dX9_advance_12 ?_
      refine gw_get0 F (so_3 hst) (by decide) rfl sg_lay_RX9 (j := 1) (by decide) rfl (host := "") (.inl kw_139) dX9_advance_13 (fun h5 => ?_)
      refine gw_icmp_ge F (tgt := 49) dX9_advance_16 (by decide) h4 h5 (fun c6 => ?_) (fun c6 => ?_)
      · have hf := hf.1 c6
        refine gw_sub [0] rfl ?_
        exact hk49 s_8 hf
      · have hf := hf.2 c6
        refine gw_aload_n F 0 rfl rfl (by decide) dX9_advance_19 ?_
        refine gw_get7 F (so_3 hst) (by decide) rfl sg_lay_RX9 (j := 0) (by decide) (o1 := 1) (by first | rfl | omega) rfl (host := "") (.inl kw_138) dX9_advance_20 (fun h7 => ?_)
        refine gw_aload_n F 0 rfl rfl (by decide) dX9_advance_23 ?_
        refine gw_get0 F (so_3 hst) (by decide) rfl sg_lay_RX9 (j := 3) (by decide) rfl (host := "") (.inl kw_141) dX9_advance_24 (fun h8 => ?_)
        refine gk_PI F (gc_V F (S := []) (As := [sg_i (s_8 3 3)]) (T := TX8) (N := 2) (CX8_byteAt hst h8 hf) (so_1 hst) (by decide) rfl kw_372 kw_91 kw_369 kw_370 kw_371 hcX8_byteAt ⟨by decide, by decide⟩ rfl rfl (Nat.le_of_ble_eq_true rfl) ⟨by decide, by decide⟩ dX9_advance_27) (fun u9 h10 hf => ?_)
        refine gk_PZ F (gc_S F (S := []) (As := [sg_i u9]) (CX9_isBlank h10 hf) kw_375 kw_92 kw_373 kw_374 hcX9_isBlank ⟨by decide, by decide⟩ rfl rfl (Nat.le_of_ble_eq_true rfl) ⟨by decide, by decide⟩ dX9_advance_30) (fun u11 h12 hf => ?_)
        refine gw_if_eq F (tgt := 49) dX9_advance_33 (by decide) (sg_B_R h12) (fun c13 => ?_) (fun c13 => ?_)
        · have hf := hf.1 c13
          refine gw_sub [0] rfl ?_
          exact hk49 s_8 hf
        · have hf := hf.2 c13
          refine gw_aload_n F 0 rfl rfl (by decide) dX9_advance_36 ?_
          refine gw_dup F rfl dX9_advance_37 ?_
          refine gw_get0 F (so_3 hst) (by decide) rfl sg_lay_RX9 (j := 3) (by decide) rfl (host := "") (.inl kw_141) dX9_advance_38 (fun h14 => ?_)
          refine gw_iconst F dX9_advance_41 ?_
          refine gw_iadd F rfl dX9_advance_42 ?_
          obtain ⟨g15, hf⟩ := hf
          obtain ⟨s16, e17⟩ : ∃ z : sg_M, z = sg_up s_8 3 3 ((s_8 3 3) + 1) := ⟨_, rfl⟩
          have hf := hf s16 e17
          refine gw_put0 F (so_3 hst) (by decide) rfl sg_lay_RX9 (j := 3) (by decide) g15 e17 tyX9_ok nmX9 rfl (tyX9_ok 3 (by decide)) rfl (host := "") (.inl kw_141) dX9_advance_43 ?_
          refine gw_goto F (tgt := 8) dX9_advance_46 (by decide) ?_
          refine gw_sub [0] rfl ?_
          exact ih s16 hf
  obtain ⟨n18, hf⟩ := hf
  refine gw_sub [0] rfl ?_
  refine L8 _ (fun s_49e8 hf => ?_) n18 s2 hf
  refine gw_iconst F dX9_advance_49 ?_
  refine gw_istore_n F rfl (by decide) rfl dX9_advance_50 ?_
  refine gw_iconst F dX9_advance_51 ?_
  refine gw_istore_n F rfl (by decide) rfl dX9_advance_52 ?_
  refine gw_aload_n F 2 rfl rfl (by decide) dX9_advance_53 ?_
  refine gw_iconst F dX9_advance_54 ?_
  obtain ⟨s19, e20⟩ : ∃ z : sg_M, z = sg_up s_49e8 3 5 0 := ⟨_, rfl⟩
  have hf := hf s19 e20
  refine gw_put0 F (so_3 hst) (by decide) rfl sg_lay_RX9 (j := 5) (by decide) (by decide) e20 tyX9_ok nmX9 rfl (tyX9_ok 5 (by decide)) rfl (host := "") (.inl kw_143) dX9_advance_55 ?_
  refine gw_aload_n F 2 rfl rfl (by decide) dX9_advance_58 ?_
  refine gw_aload_n F 2 rfl rfl (by decide) dX9_advance_59 ?_
  refine gw_get0 F (so_3 hst) (by decide) rfl sg_lay_RX9 (j := 3) (by decide) rfl (host := "") (.inl kw_141) dX9_advance_60 (fun h21 => ?_)
  obtain ⟨s22, e23⟩ : ∃ z : sg_M, z = sg_up s19 3 4 (s19 3 3) := ⟨_, rfl⟩
  have hf := hf s22 e23
  refine gw_put0 F (so_3 hst) (by decide) rfl sg_lay_RX9 (j := 4) (by decide) h21 e23 tyX9_ok nmX9 rfl (tyX9_ok 4 (by decide)) rfl (host := "") (.inl kw_142) dX9_advance_63 ?_
  have L66 : ∀ (k165 : sg_M → Int → Int → Prop) (hk165 : ∀ (s_165e66 : sg_M) (x1_165e66 : Int) (x2_165e66 : Int), sg_R x1_165e66 → sg_R x2_165e66 → k165 s_165e66 x1_165e66 x2_165e66 → sg_W p l e (sg_rm 2 0 0) s m args below meth c (MQ below (sg_Q (none) G La s.heap.size (sg_HV La Q)) args s 0 0 (sg_A La s.heap.size)) 4 G (sg_A La s.heap.size) La s_165e66 0 0 165 [(0, sg_r 3), (1, sg_i x1_165e66), (2, sg_i x2_165e66)] []), ∀ n_66 : Nat, ∀ (s_66 : sg_M) (x1_66 : Int) (x2_66 : Int), sg_R x1_66 → sg_R x2_66 → fX9_advance_L66  k165 n_66 s_66 x1_66 x2_66 → sg_W p l e (sg_rm 2 0 0) s m args below meth c (MQ below (sg_Q (none) G La s.heap.size (sg_HV La Q)) args s 0 0 (sg_A La s.heap.size)) 4 G (sg_A La s.heap.size) La s_66 0 0 66 [(0, sg_r 3), (1, sg_i x1_66), (2, sg_i x2_66)] [] := by
    intro k165 hk165 n_66
    induction n_66 with
    | zero => intro s_66 x1_66 x2_66 r1_66 r2_66 hf; exact hf.elim
    | succ n_66 ih =>
      intro s_66 x1_66 x2_66 r1_66 r2_66 hf
      unfold fX9_advance_L66 at hf
      refine gw_aload_n F 0 rfl rfl (by decide) dX9_advance_66 ?_
      refine gw_get0 F (so_3 hst) (by decide) rfl sg_lay_RX9 (j := 4) (by decide) rfl (host := "") (.inl kw_142) dX9_advance_67 (fun h24 => ?_)
      refine gw_aload_n F 0 rfl rfl (by decide) dX9_advance_70 ?_
      refine gw_get7 F (so_3 hst) (by decide) rfl sg_lay_RX9 (j := 0) (by decide) (o1 := 1) (by first | rfl | omega) rfl (host := "") (.inl kw_138) dX9_advance_71 (fun h25 => ?_)
      refine gw_get0 F (so_1 hst) (by decide) rfl sg_lay_RX8 (j := 1) (by decide) rfl (.inr kw_130) dX9_advance_74 (fun h26 => ?_)
      refine gw_icmp_ge F (tgt := 165) dX9_advance_77 (by decide) h24 h26 (fun c27 => ?_) (fun c27 => ?_)
      · have hf := hf.1 c27
        refine gw_sub [0, 1, 2] rfl ?_
        exact hk165 s_66 x1_66 x2_66 r1_66 r2_66 hf
      · have hf := hf.2 c27
        refine gw_aload_n F 0 rfl rfl (by decide) dX9_advance_80 ?_
        refine gw_get7 F (so_3 hst) (by decide) rfl sg_lay_RX9 (j := 0) (by decide) (o1 := 1) (by first | rfl | omega) rfl (host := "") (.inl kw_138) dX9_advance_81 (fun h28 => ?_)
        refine gw_aload_n F 0 rfl rfl (by decide) dX9_advance_84 ?_
        refine gw_get0 F (so_3 hst) (by decide) rfl sg_lay_RX9 (j := 4) (by decide) rfl (host := "") (.inl kw_142) dX9_advance_85 (fun h29 => ?_)
        refine gk_PI F (gc_V F (S := []) (As := [sg_i (s_66 3 4)]) (T := TX8) (N := 2) (CX8_byteAt hst h29 hf) (so_1 hst) (by decide) rfl kw_372 kw_91 kw_369 kw_370 kw_371 hcX8_byteAt ⟨by decide, by decide⟩ rfl rfl (Nat.le_of_ble_eq_true rfl) ⟨by decide, by decide⟩ dX9_advance_88) (fun u30 h31 hf => ?_)
        refine gk_PZ F (gc_S F (S := []) (As := [sg_i u30]) (CX9_isOfRun h31 hf) kw_378 kw_92 kw_376 kw_377 hcX9_isOfRun ⟨by decide, by decide⟩ rfl rfl (Nat.le_of_ble_eq_true rfl) ⟨by decide, by decide⟩ dX9_advance_91) (fun u32 h33 hf => ?_)
        refine gw_if_eq F (tgt := 165) dX9_advance_94 (by decide) (sg_B_R h33) (fun c34 => ?_) (fun c34 => ?_)
        · have hf := hf.1 c34
          refine gw_sub [0, 1, 2] rfl ?_
          exact hk165 s_66 x1_66 x2_66 r1_66 r2_66 hf
        · have hf := hf.2 c34
          refine gw_aload_n F 0 rfl rfl (by decide) dX9_advance_97 ?_
          refine gw_get7 F (so_3 hst) (by decide) rfl sg_lay_RX9 (j := 0) (by decide) (o1 := 1) (by first | rfl | omega) rfl (host := "") (.inl kw_138) dX9_advance_98 (fun h35 => ?_)
          refine gw_aload_n F 0 rfl rfl (by decide) dX9_advance_101 ?_
          refine gw_get0 F (so_3 hst) (by decide) rfl sg_lay_RX9 (j := 4) (by decide) rfl (host := "") (.inl kw_142) dX9_advance_102 (fun h36 => ?_)
          refine gk_PI F (gc_V F (S := []) (As := [sg_i (s_66 3 4)]) (T := TX8) (N := 2) (CX8_byteAt hst h36 hf) (so_1 hst) (by decide) rfl kw_372 kw_91 kw_369 kw_370 kw_371 hcX8_byteAt ⟨by decide, by decide⟩ rfl rfl (Nat.le_of_ble_eq_true rfl) ⟨by decide, by decide⟩ dX9_advance_105) (fun u37 h38 hf => ?_)
          refine gw_istore_n F rfl (by decide) rfl dX9_advance_108 ?_
          refine gw_iload_n F 0 rfl rfl dX9_advance_109 ?_
          refine gw_bipush F rfl dX9_advance_110 ?_
          have J152 : ∀ (s_152 : sg_M) (x1_152 : Int) (x2_152 : Int), sg_R x1_152 → sg_R x2_152 → (fX9_advance_j152  (fX9_advance_L66  k165 n_66)) s_152 x1_152 x2_152 → sg_W p l e (sg_rm 2 0 0) s m args below meth c (MQ below (sg_Q (none) G La s.heap.size (sg_HV La Q)) args s 0 0 (sg_A La s.heap.size)) 4 G (sg_A La s.heap.size) La s_152 0 0 152 [(0, sg_r 3), (1, sg_i x1_152), (2, sg_i x2_152)] [] := by
            intro s_152 x1_152 x2_152 r1_152 r2_152 hf
            unfold fX9_advance_j152 at hf
            refine gw_aload_n F 0 rfl rfl (by decide) dX9_advance_152 ?_
            refine gw_dup F rfl dX9_advance_153 ?_
            refine gw_get0 F (so_3 hst) (by decide) rfl sg_lay_RX9 (j := 4) (by decide) rfl (host := "") (.inl kw_142) dX9_advance_154 (fun h39 => ?_)
            refine gw_iconst F dX9_advance_157 ?_
            refine gw_iadd F rfl dX9_advance_158 ?_
            obtain ⟨g40, hf⟩ := hf
            obtain ⟨s41, e42⟩ : ∃ z : sg_M, z = sg_up s_152 3 4 ((s_152 3 4) + 1) := ⟨_, rfl⟩
            have hf := hf s41 e42
            refine gw_put0 F (so_3 hst) (by decide) rfl sg_lay_RX9 (j := 4) (by decide) g40 e42 tyX9_ok nmX9 rfl (tyX9_ok 4 (by decide)) rfl (host := "") (.inl kw_142) dX9_advance_159 ?_
            refine gw_goto F (tgt := 66) dX9_advance_162 (by decide) ?_
            refine gw_sub [0, 1, 2] rfl ?_
            exact ih s41 x1_152 x2_152 r1_152 r2_152 hf
          refine gw_icmp_lt F (tgt := 121) dX9_advance_112 (by decide) h38 (by decide) (fun c43 => ?_) (fun c43 => ?_)
          · have hf := hf.1 c43
            refine gw_iinc F (z := (x2_66 + 1)) 3 rfl (by omega) (by decide) rfl dX9_advance_121 ?_
            refine gw_aload_n F 2 rfl rfl (by decide) dX9_advance_124 ?_
            refine gw_iload_n F 0 rfl rfl dX9_advance_125 ?_
            refine gw_iconst F dX9_advance_126 ?_
            have J149 : ∀ (y0_149 : Int), sg_R y0_149 → (fX9_advance_j149 s_66 x1_66 x2_66 (fX9_advance_j152  (fX9_advance_L66  k165 n_66))) y0_149 → sg_W p l e (sg_rm 2 0 0) s m args below meth c (MQ below (sg_Q (none) G La s.heap.size (sg_HV La Q)) args s 0 0 (sg_A La s.heap.size)) 4 G (sg_A La s.heap.size) La s_66 0 0 149 [(0, sg_r 3), (1, sg_i x1_66), (2, sg_i (x2_66 + 1))] [sg_i y0_149, sg_r 3] := by
              intro y0_149 ry0_149 hf
              unfold fX9_advance_j149 at hf
              obtain ⟨s44, e45⟩ : ∃ z : sg_M, z = sg_up s_66 3 5 y0_149 := ⟨_, rfl⟩
              have hf := hf s44 e45
              refine gw_put0 F (so_3 hst) (by decide) rfl sg_lay_RX9 (j := 5) (by decide) ry0_149 e45 tyX9_ok nmX9 rfl (tyX9_ok 5 (by decide)) rfl (host := "") (.inl kw_143) dX9_advance_149 ?_
              obtain ⟨g46, hf⟩ := hf
              refine gw_sub [0, 1, 2] rfl ?_
              exact J152 s44 x1_66 (x2_66 + 1) r1_66 g46 hf
            obtain ⟨g47, hf⟩ := hf
            refine gw_icmp_gt F (tgt := 145) dX9_advance_127 (by decide) g47 (by decide) (fun c48 => ?_) (fun c48 => ?_)
            · have hf := hf.1 c48
              refine gw_aload_n F 2 rfl rfl (by decide) dX9_advance_145 ?_
              refine gw_get0 F (so_3 hst) (by decide) rfl sg_lay_RX9 (j := 5) (by decide) rfl (host := "") (.inl kw_143) dX9_advance_146 (fun h49 => ?_)
              refine gw_sub [2, 3, 0] rfl ?_
              exact J149 (s_66 3 5) h49 hf
            · have hf := hf.2 c48
              refine gw_aload_n F 2 rfl rfl (by decide) dX9_advance_130 ?_
              refine gw_get0 F (so_3 hst) (by decide) rfl sg_lay_RX9 (j := 5) (by decide) rfl (host := "") (.inl kw_143) dX9_advance_131 (fun h50 => ?_)
              refine gw_bipush F rfl dX9_advance_134 ?_
              refine gw_imul F rfl dX9_advance_136 ?_
              refine gw_iload_n F 1 rfl rfl dX9_advance_137 ?_
              refine gw_iadd F rfl dX9_advance_138 ?_
              refine gw_bipush F rfl dX9_advance_139 ?_
              refine gw_isub F rfl dX9_advance_141 ?_
              refine gw_goto F (tgt := 149) dX9_advance_142 (by decide) ?_
              obtain ⟨g51, hf⟩ := hf
              refine gw_sub [2, 3, 0] rfl ?_
              exact J149 ((((s_66 3 5) * 10) + u37) - 48) g51 hf
          · have hf := hf.2 c43
            refine gw_iinc F (z := (x1_66 + 1)) 2 rfl (by omega) (by decide) rfl dX9_advance_115 ?_
            refine gw_goto F (tgt := 152) dX9_advance_118 (by decide) ?_
            obtain ⟨g52, hf⟩ := hf
            refine gw_sub [2, 0, 3] rfl ?_
            exact J152 s_66 (x1_66 + 1) x2_66 g52 r2_66 hf
  obtain ⟨n53, hf⟩ := hf
  refine gw_sub [2, 1, 0] rfl ?_
  refine L66 _ (fun s_165e66 x1_165e66 x2_165e66 r1_165e66 r2_165e66 hf => ?_) n53 s22 0 0 (by decide) (by decide) hf
  refine gw_aload_n F 0 rfl rfl (by decide) dX9_advance_165 ?_
  refine gw_get0 F (so_3 hst) (by decide) rfl sg_lay_RX9 (j := 3) (by decide) rfl (host := "") (.inl kw_141) dX9_advance_166 (fun h54 => ?_)
  refine gw_aload_n F 0 rfl rfl (by decide) dX9_advance_169 ?_
  refine gw_get0 F (so_3 hst) (by decide) rfl sg_lay_RX9 (j := 1) (by decide) rfl (host := "") (.inl kw_139) dX9_advance_170 (fun h55 => ?_)
  have J206 : (fX9_advance_j206 s_165e66 x1_165e66 x2_165e66 Q) → sg_W p l e (sg_rm 2 0 0) s m args below meth c (MQ below (sg_Q (none) G La s.heap.size (sg_HV La Q)) args s 0 0 (sg_A La s.heap.size)) 4 G (sg_A La s.heap.size) La s_165e66 0 0 206 [(0, sg_r 3), (1, sg_i x1_165e66), (2, sg_i x2_165e66)] [] := by
    intro hf
    unfold fX9_advance_j206 at hf
    refine gw_aload_n F 0 rfl rfl (by decide) dX9_advance_206 ?_
    refine gw_get0 F (so_3 hst) (by decide) rfl sg_lay_RX9 (j := 3) (by decide) rfl (host := "") (.inl kw_141) dX9_advance_207 (fun h56 => ?_)
    refine gw_aload_n F 0 rfl rfl (by decide) dX9_advance_210 ?_
    refine gw_get7 F (so_3 hst) (by decide) rfl sg_lay_RX9 (j := 0) (by decide) (o1 := 1) (by first | rfl | omega) rfl (host := "") (.inl kw_138) dX9_advance_211 (fun h57 => ?_)
    refine gw_get0 F (so_1 hst) (by decide) rfl sg_lay_RX8 (j := 1) (by decide) rfl (.inr kw_130) dX9_advance_214 (fun h58 => ?_)
    refine gw_icmp_lt F (tgt := 239) dX9_advance_217 (by decide) h56 h58 (fun c59 => ?_) (fun c59 => ?_)
    · have hf := hf.1 c59
      refine gw_aload_n F 0 rfl rfl (by decide) dX9_advance_239 ?_
      refine gw_get0 F (so_3 hst) (by decide) rfl sg_lay_RX9 (j := 4) (by decide) rfl (host := "") (.inl kw_142) dX9_advance_240 (fun h60 => ?_)
      refine gw_aload_n F 0 rfl rfl (by decide) dX9_advance_243 ?_
      refine gw_get0 F (so_3 hst) (by decide) rfl sg_lay_RX9 (j := 3) (by decide) rfl (host := "") (.inl kw_141) dX9_advance_244 (fun h61 => ?_)
      refine gw_icmp_le F (tgt := 262) dX9_advance_247 (by decide) h60 h61 (fun c62 => ?_) (fun c62 => ?_)
      · have hf := hf.1 c62
        refine gw_aload_n F 0 rfl rfl (by decide) dX9_advance_262 ?_
        refine gw_aload_n F 0 rfl rfl (by decide) dX9_advance_263 ?_
        refine gw_get7 F (so_3 hst) (by decide) rfl sg_lay_RX9 (j := 0) (by decide) (o1 := 1) (by first | rfl | omega) rfl (host := "") (.inl kw_138) dX9_advance_264 (fun h63 => ?_)
        refine gw_aload_n F 0 rfl rfl (by decide) dX9_advance_267 ?_
        refine gw_get0 F (so_3 hst) (by decide) rfl sg_lay_RX9 (j := 3) (by decide) rfl (host := "") (.inl kw_141) dX9_advance_268 (fun h64 => ?_)
        refine gk_PI F (gc_V F (S := [sg_r 3]) (As := [sg_i (s_165e66 3 3)]) (T := TX8) (N := 2) (CX8_byteAt hst h64 hf) (so_1 hst) (by decide) rfl kw_372 kw_91 kw_369 kw_370 kw_371 hcX8_byteAt ⟨by decide, by decide⟩ rfl rfl (Nat.le_of_ble_eq_true rfl) ⟨by decide, by decide⟩ dX9_advance_271) (fun u65 h66 hf => ?_)
        obtain ⟨s67, e68⟩ : ∃ z : sg_M, z = sg_up s_165e66 3 5 u65 := ⟨_, rfl⟩
        have hf := hf s67 e68
        refine gw_put0 F (so_3 hst) (by decide) rfl sg_lay_RX9 (j := 5) (by decide) h66 e68 tyX9_ok nmX9 rfl (tyX9_ok 5 (by decide)) rfl (host := "") (.inl kw_143) dX9_advance_274 ?_
        refine gw_aload_n F 0 rfl rfl (by decide) dX9_advance_277 ?_
        refine gw_aload_n F 0 rfl rfl (by decide) dX9_advance_278 ?_
        refine gw_get0 F (so_3 hst) (by decide) rfl sg_lay_RX9 (j := 5) (by decide) rfl (host := "") (.inl kw_143) dX9_advance_279 (fun h69 => ?_)
        refine gk_PZ F (gc_S F (S := [sg_r 3]) (As := [sg_i (s67 3 5)]) (CX9_isSignByte h69 hf) kw_384 kw_92 kw_382 kw_383 hcX9_isSignByte ⟨by decide, by decide⟩ rfl rfl (Nat.le_of_ble_eq_true rfl) ⟨by decide, by decide⟩ dX9_advance_282) (fun u70 h71 hf => ?_)
        refine gw_if_eq F (tgt := 292) dX9_advance_285 (by decide) (sg_B_R h71) (fun c72 => ?_) (fun c72 => ?_)
        · have hf := hf.1 c72
          refine gw_iconst F dX9_advance_292 ?_
          obtain ⟨s73, e74⟩ : ∃ z : sg_M, z = sg_up s67 3 2 4 := ⟨_, rfl⟩
          have hf := hf s73 e74
          refine gw_put0 F (so_3 hst) (by decide) rfl sg_lay_RX9 (j := 2) (by decide) (by decide) e74 tyX9_ok nmX9 rfl (tyX9_ok 2 (by decide)) rfl (host := "") (.inl kw_140) dX9_advance_293 ?_
          refine gw_aload_n F 0 rfl rfl (by decide) dX9_advance_296 ?_
          refine gw_aload_n F 0 rfl rfl (by decide) dX9_advance_297 ?_
          refine gw_get0 F (so_3 hst) (by decide) rfl sg_lay_RX9 (j := 3) (by decide) rfl (host := "") (.inl kw_141) dX9_advance_298 (fun h75 => ?_)
          refine gw_iconst F dX9_advance_301 ?_
          refine gw_iadd F rfl dX9_advance_302 ?_
          obtain ⟨g76, hf⟩ := hf
          obtain ⟨s77, e78⟩ : ∃ z : sg_M, z = sg_up s73 3 4 ((s73 3 3) + 1) := ⟨_, rfl⟩
          have hf := hf s77 e78
          refine gw_put0 F (so_3 hst) (by decide) rfl sg_lay_RX9 (j := 4) (by decide) g76 e78 tyX9_ok nmX9 rfl (tyX9_ok 4 (by decide)) rfl (host := "") (.inl kw_142) dX9_advance_303 ?_
          exact gr_HV F hf (by decide) (by decide) dX9_advance_306
        · have hf := hf.2 c72
          refine gw_iconst F dX9_advance_288 ?_
          refine gw_goto F (tgt := 293) dX9_advance_289 (by decide) ?_
          obtain ⟨s79, e80⟩ : ∃ z : sg_M, z = sg_up s67 3 2 3 := ⟨_, rfl⟩
          have hf := hf s79 e80
          refine gw_put0 F (so_3 hst) (by decide) rfl sg_lay_RX9 (j := 2) (by decide) (by decide) e80 tyX9_ok nmX9 rfl (tyX9_ok 2 (by decide)) rfl (host := "") (.inl kw_140) dX9_advance_293 ?_
          refine gw_aload_n F 0 rfl rfl (by decide) dX9_advance_296 ?_
          refine gw_aload_n F 0 rfl rfl (by decide) dX9_advance_297 ?_
          refine gw_get0 F (so_3 hst) (by decide) rfl sg_lay_RX9 (j := 3) (by decide) rfl (host := "") (.inl kw_141) dX9_advance_298 (fun h81 => ?_)
          refine gw_iconst F dX9_advance_301 ?_
          refine gw_iadd F rfl dX9_advance_302 ?_
          obtain ⟨g82, hf⟩ := hf
          obtain ⟨s83, e84⟩ : ∃ z : sg_M, z = sg_up s79 3 4 ((s79 3 3) + 1) := ⟨_, rfl⟩
          have hf := hf s83 e84
          refine gw_put0 F (so_3 hst) (by decide) rfl sg_lay_RX9 (j := 4) (by decide) g82 e84 tyX9_ok nmX9 rfl (tyX9_ok 4 (by decide)) rfl (host := "") (.inl kw_142) dX9_advance_303 ?_
          exact gr_HV F hf (by decide) (by decide) dX9_advance_306
      · have hf := hf.2 c62
        refine gw_aload_n F 0 rfl rfl (by decide) dX9_advance_250 ?_
        refine gw_iload_n F 1 rfl rfl dX9_advance_251 ?_
        refine gw_iload_n F 2 rfl rfl dX9_advance_252 ?_
        refine gk_PI F (gc_S F (S := [sg_r 3]) (As := [sg_i x1_165e66, sg_i x2_165e66]) (CX9_kindOfRun r1_165e66 r2_165e66 hf) kw_381 kw_92 kw_379 kw_380 hcX9_kindOfRun ⟨by decide, by decide⟩ rfl rfl (Nat.le_of_ble_eq_true rfl) ⟨by decide, by decide⟩ dX9_advance_253) (fun u85 h86 hf => ?_)
        obtain ⟨s87, e88⟩ : ∃ z : sg_M, z = sg_up s_165e66 3 2 u85 := ⟨_, rfl⟩
        have hf := hf s87 e88
        refine gw_put0 F (so_3 hst) (by decide) rfl sg_lay_RX9 (j := 2) (by decide) h86 e88 tyX9_ok nmX9 rfl (tyX9_ok 2 (by decide)) rfl (host := "") (.inl kw_140) dX9_advance_256 ?_
        refine gw_goto F (tgt := 306) dX9_advance_259 (by decide) ?_
        exact gr_HV F hf (by decide) (by decide) dX9_advance_306
    · have hf := hf.2 c59
      refine gw_aload_n F 0 rfl rfl (by decide) dX9_advance_220 ?_
      refine gw_aload_n F 0 rfl rfl (by decide) dX9_advance_221 ?_
      refine gw_get7 F (so_3 hst) (by decide) rfl sg_lay_RX9 (j := 0) (by decide) (o1 := 1) (by first | rfl | omega) rfl (host := "") (.inl kw_138) dX9_advance_222 (fun h89 => ?_)
      refine gw_get0 F (so_1 hst) (by decide) rfl sg_lay_RX8 (j := 1) (by decide) rfl (.inr kw_130) dX9_advance_225 (fun h90 => ?_)
      obtain ⟨s91, e92⟩ : ∃ z : sg_M, z = sg_up s_165e66 3 3 (s_165e66 1 1) := ⟨_, rfl⟩
      have hf := hf s91 e92
      refine gw_put0 F (so_3 hst) (by decide) rfl sg_lay_RX9 (j := 3) (by decide) h90 e92 tyX9_ok nmX9 rfl (tyX9_ok 3 (by decide)) rfl (host := "") (.inl kw_141) dX9_advance_228 ?_
      refine gw_aload_n F 0 rfl rfl (by decide) dX9_advance_231 ?_
      refine gw_iconst F dX9_advance_232 ?_
      obtain ⟨s93, e94⟩ : ∃ z : sg_M, z = sg_up s91 3 2 0 := ⟨_, rfl⟩
      have hf := hf s93 e94
      refine gw_put0 F (so_3 hst) (by decide) rfl sg_lay_RX9 (j := 2) (by decide) (by decide) e94 tyX9_ok nmX9 rfl (tyX9_ok 2 (by decide)) rfl (host := "") (.inl kw_140) dX9_advance_233 ?_
      refine gw_goto F (tgt := 306) dX9_advance_236 (by decide) ?_
      exact gr_HV F hf (by decide) (by decide) dX9_advance_306
  refine gw_icmp_lt F (tgt := 206) dX9_advance_173 (by decide) h54 h55 (fun c95 => ?_) (fun c95 => ?_)
  · have hf := hf.1 c95
    refine gw_sub [0, 1, 2] rfl ?_
    exact J206  hf
  · have hf := hf.2 c95
    refine gw_aload_n F 0 rfl rfl (by decide) dX9_advance_176 ?_
    refine gw_get7 F (so_3 hst) (by decide) rfl sg_lay_RX9 (j := 0) (by decide) (o1 := 1) (by first | rfl | omega) rfl (host := "") (.inl kw_138) dX9_advance_177 (fun h96 => ?_)
    refine gw_get0 F (so_1 hst) (by decide) rfl sg_lay_RX8 (j := 1) (by decide) rfl (.inr kw_130) dX9_advance_180 (fun h97 => ?_)
    refine gw_aload_n F 0 rfl rfl (by decide) dX9_advance_183 ?_
    refine gw_get0 F (so_3 hst) (by decide) rfl sg_lay_RX9 (j := 1) (by decide) rfl (host := "") (.inl kw_139) dX9_advance_184 (fun h98 => ?_)
    refine gw_icmp_le F (tgt := 206) dX9_advance_187 (by decide) h97 h98 (fun c99 => ?_) (fun c99 => ?_)
    · have hf := hf.1 c99
      refine gw_sub [0, 1, 2] rfl ?_
      exact J206  hf
    · have hf := hf.2 c99
      refine gw_aload_n F 0 rfl rfl (by decide) dX9_advance_190 ?_
      refine gw_aload_n F 0 rfl rfl (by decide) dX9_advance_191 ?_
      refine gw_get0 F (so_3 hst) (by decide) rfl sg_lay_RX9 (j := 1) (by decide) rfl (host := "") (.inl kw_139) dX9_advance_192 (fun h100 => ?_)
      obtain ⟨s101, e102⟩ : ∃ z : sg_M, z = sg_up s_165e66 3 3 (s_165e66 3 1) := ⟨_, rfl⟩
      have hf := hf s101 e102
      refine gw_put0 F (so_3 hst) (by decide) rfl sg_lay_RX9 (j := 3) (by decide) h100 e102 tyX9_ok nmX9 rfl (tyX9_ok 3 (by decide)) rfl (host := "") (.inl kw_141) dX9_advance_195 ?_
      refine gw_aload_n F 0 rfl rfl (by decide) dX9_advance_198 ?_
      refine gw_iconst F dX9_advance_199 ?_
      obtain ⟨s103, e104⟩ : ∃ z : sg_M, z = sg_up s101 3 2 4 := ⟨_, rfl⟩
      have hf := hf s103 e104
      refine gw_put0 F (so_3 hst) (by decide) rfl sg_lay_RX9 (j := 2) (by decide) (by decide) e104 tyX9_ok nmX9 rfl (tyX9_ok 2 (by decide)) rfl (host := "") (.inl kw_140) dX9_advance_200 ?_
      refine gw_goto F (tgt := 306) dX9_advance_203 (by decide) ?_
      exact gr_HV F hf (by decide) (by decide) dX9_advance_306

theorem dX4_copyFrom_0 : decode cX4_copyFrom 0 = .ok (.aload_n 0, 1) := by decide +kernel
theorem dX4_copyFrom_1 : decode cX4_copyFrom 1 = .ok (.invokevirtual 29, 3) := by decide +kernel
theorem dX4_copyFrom_4 : decode cX4_copyFrom 4 = .ok (.iconst 0, 1) := by decide +kernel
theorem dX4_copyFrom_5 : decode cX4_copyFrom 5 = .ok (.istore_n 2, 1) := by decide +kernel
theorem dX4_copyFrom_6 : decode cX4_copyFrom 6 = .ok (.iload_n 2, 1) := by decide +kernel
theorem dX4_copyFrom_7 : decode cX4_copyFrom 7 = .ok (.aload_n 1, 1) := by decide +kernel
theorem dX4_copyFrom_8 : decode cX4_copyFrom 8 = .ok (.getfield 9, 3) := by decide +kernel
theorem dX4_copyFrom_11 : decode cX4_copyFrom 11 = .ok (.if_icmp .ge 18, 3) := by decide +kernel
theorem dX4_copyFrom_14 : decode cX4_copyFrom 14 = .ok (.aload_n 0, 1) := by decide +kernel
theorem dX4_copyFrom_15 : decode cX4_copyFrom 15 = .ok (.aload_n 1, 1) := by decide +kernel
theorem dX4_copyFrom_16 : decode cX4_copyFrom 16 = .ok (.iload_n 2, 1) := by decide +kernel
theorem dX4_copyFrom_17 : decode cX4_copyFrom 17 = .ok (.invokevirtual 32, 3) := by decide +kernel
theorem dX4_copyFrom_20 : decode cX4_copyFrom 20 = .ok (.invokevirtual 36, 3) := by decide +kernel
theorem dX4_copyFrom_23 : decode cX4_copyFrom 23 = .ok (.iinc 2 1, 3) := by decide +kernel
theorem dX4_copyFrom_26 : decode cX4_copyFrom 26 = .ok (.goto (-20), 3) := by decide +kernel
theorem dX4_copyFrom_29 : decode cX4_copyFrom 29 = .ok (.return_, 1) := by decide +kernel
theorem hcX4_copyFrom : yX4_copyFrom.cls ≠ "java/lang/invoke/MethodHandle" ∧ yX4_copyFrom.cls ≠ "java/lang/invoke/VarHandle" ∧ (parseMethodDescriptor yX4_copyFrom.desc).map (fun d => d.parameters.length) = some 1 := ⟨by decide +kernel, by decide +kernel, by decide +kernel⟩
def fX4_copyFrom_L6 (La : sg_L) (o : Int) (o1 : Int) (Q : sg_M → Prop) : Nat → sg_M → Int → Prop
  | 0, _, _ => False
  | n_6 + 1, s_6, x2_6 => (((s_6 o1 1) ≤ x2_6 → Q s_6) ∧ (¬ ((s_6 o1 1) ≤ x2_6) → fX4_at La s_6 o1 x2_6 (fun u4 => fX4_add La s_6 o u4 (fun s6 => sg_R (x2_6 + 1) ∧ (fX4_copyFrom_L6 La o o1 Q n_6) s6 (x2_6 + 1)))))
def fX4_copyFrom (La : sg_L) (s0 : sg_M) (o : Int) (o1 : Int) (Q : sg_M → Prop) : Prop := fX4_clear s0 o (fun s1 => (∃ n8 : Nat, fX4_copyFrom_L6 La o o1 Q n8 s1 0))
set_option maxHeartbeats 4000000 in
set_option maxRecDepth 100000 in
theorem CX4_copyFrom {l : Launch} {G : sg_G} {La : sg_L} {s0 : sg_M} {o : Int} (to : sg_O La o 4) {o1 : Int} (t1 : sg_O La o1 4) {Q : sg_M → Prop} (hf : fX4_copyFrom La s0 o o1 Q) : sg_C l G yX4_copyFrom cX4_copyFrom 3 (none) 2 0 0 La s0 [sg_r o, sg_r o1] (sg_HV La Q) := by
  refine sg_body (by decide +kernel) (Nat.le_of_ble_eq_true rfl) ?_
  intro p e s m args below meth c F hnm
  unfold fX4_copyFrom at hf
  show sg_W p l e (sg_rm 2 0 0) s m args below meth c (MQ below (sg_Q (none) G La s.heap.size (sg_HV La Q)) args s 0 0 (sg_A La s.heap.size)) 3 G (sg_A La s.heap.size) La s0 0 0 0 [(0, sg_r o), (1, sg_r o1)] []
  refine gw_aload_n F 0 rfl rfl to.1 dX4_copyFrom_0 ?_
  refine gk_HV F (gc_V F (S := []) (As := []) (T := TX4) (N := 3) (CX4_clear to hf) to (by decide) rfl kw_531 kw_97 kw_870 kw_529 kw_530 hcX4_clear ⟨by decide, by decide⟩ rfl rfl (Nat.le_of_ble_eq_true rfl) ⟨by decide, by decide⟩ dX4_copyFrom_1) (fun s1 hf => ?_)
  refine gw_iconst F dX4_copyFrom_4 ?_
  refine gw_istore_n F rfl (by decide) rfl dX4_copyFrom_5 ?_
  have L6 : ∀ n_6 : Nat, ∀ (s_6 : sg_M) (x2_6 : Int), sg_R x2_6 → fX4_copyFrom_L6 La o o1 Q n_6 s_6 x2_6 → sg_W p l e (sg_rm 2 0 0) s m args below meth c (MQ below (sg_Q (none) G La s.heap.size (sg_HV La Q)) args s 0 0 (sg_A La s.heap.size)) 3 G (sg_A La s.heap.size) La s_6 0 0 6 [(0, sg_r o), (1, sg_r o1), (2, sg_i x2_6)] [] := by
    intro n_6
    induction n_6 with
    | zero => intro s_6 x2_6 r2_6 hf; exact hf.elim
    | succ n_6 ih =>
      intro s_6 x2_6 r2_6 hf
      unfold fX4_copyFrom_L6 at hf
      refine gw_iload_n F 2 rfl rfl dX4_copyFrom_6 ?_
      refine gw_aload_n F 1 rfl rfl t1.1 dX4_copyFrom_7 ?_
      refine gw_get0 F t1 (by decide) rfl sg_lay_RX4 (j := 1) (by decide) rfl (host := "") (.inl kw_200) dX4_copyFrom_8 (fun h2 => ?_)
      refine gw_icmp_ge F (tgt := 29) dX4_copyFrom_11 (by decide) r2_6 h2 (fun c3 => ?_) (fun c3 => ?_)
      · have hf := hf.1 c3
        exact gr_HV F hf (by decide) (by decide) dX4_copyFrom_29
      · have hf := hf.2 c3
        refine gw_aload_n F 0 rfl rfl to.1 dX4_copyFrom_14 ?_
        refine gw_aload_n F 1 rfl rfl t1.1 dX4_copyFrom_15 ?_
        refine gw_iload_n F 2 rfl rfl dX4_copyFrom_16 ?_
        refine gk_PI F (gc_V F (S := [sg_r o]) (As := [sg_i x2_6]) (T := TX4) (N := 3) (CX4_at t1 r2_6 hf) t1 (by decide) rfl kw_546 kw_97 kw_871 kw_544 kw_545 hcX4_at ⟨by decide, by decide⟩ rfl rfl (Nat.le_of_ble_eq_true rfl) ⟨by decide, by decide⟩ dX4_copyFrom_17) (fun u4 h5 hf => ?_)
        refine gk_HV F (gc_V F (S := []) (As := [sg_i u4]) (T := TX4) (N := 3) (CX4_add to h5 hf) to (by decide) rfl kw_538 kw_97 kw_872 kw_536 kw_537 hcX4_add ⟨by decide, by decide⟩ rfl rfl (Nat.le_of_ble_eq_true rfl) ⟨by decide, by decide⟩ dX4_copyFrom_20) (fun s6 hf => ?_)
        refine gw_iinc F (z := (x2_6 + 1)) 2 rfl (by omega) (by decide) rfl dX4_copyFrom_23 ?_
        refine gw_goto F (tgt := 6) dX4_copyFrom_26 (by decide) ?_
        obtain ⟨g7, hf⟩ := hf
        refine gw_sub [1, 2, 0] rfl ?_
        exact ih s6 (x2_6 + 1) g7 hf
  obtain ⟨n8, hf⟩ := hf
  refine gw_sub [1, 2, 0] rfl ?_
  refine L6   n8 s1 0 (by decide) hf

theorem dX11_isBend_0 : decode cX11_isBend 0 = .ok (.iload_n 0, 1) := by decide +kernel
theorem dX11_isBend_1 : decode cX11_isBend 1 = .ok (.sipush (-9999), 3) := by decide +kernel
theorem dX11_isBend_4 : decode cX11_isBend 4 = .ok (.if_icmp .lt 28, 3) := by decide +kernel
theorem dX11_isBend_7 : decode cX11_isBend 7 = .ok (.iload_n 0, 1) := by decide +kernel
theorem dX11_isBend_8 : decode cX11_isBend 8 = .ok (.sipush 9999, 3) := by decide +kernel
theorem dX11_isBend_11 : decode cX11_isBend 11 = .ok (.if_icmp .gt 21, 3) := by decide +kernel
theorem dX11_isBend_14 : decode cX11_isBend 14 = .ok (.iload_n 1, 1) := by decide +kernel
theorem dX11_isBend_15 : decode cX11_isBend 15 = .ok (.sipush (-9999), 3) := by decide +kernel
theorem dX11_isBend_18 : decode cX11_isBend 18 = .ok (.if_icmp .lt 14, 3) := by decide +kernel
theorem dX11_isBend_21 : decode cX11_isBend 21 = .ok (.iload_n 1, 1) := by decide +kernel
theorem dX11_isBend_22 : decode cX11_isBend 22 = .ok (.sipush 9999, 3) := by decide +kernel
theorem dX11_isBend_25 : decode cX11_isBend 25 = .ok (.if_icmp .gt 7, 3) := by decide +kernel
theorem dX11_isBend_28 : decode cX11_isBend 28 = .ok (.iconst 1, 1) := by decide +kernel
theorem dX11_isBend_29 : decode cX11_isBend 29 = .ok (.goto 4, 3) := by decide +kernel
theorem dX11_isBend_32 : decode cX11_isBend 32 = .ok (.iconst 0, 1) := by decide +kernel
theorem dX11_isBend_33 : decode cX11_isBend 33 = .ok (.ireturn, 1) := by decide +kernel
theorem hcX11_isBend : yX11_isBend.cls ≠ "java/lang/invoke/MethodHandle" ∧ yX11_isBend.cls ≠ "java/lang/invoke/VarHandle" ∧ (parseMethodDescriptor yX11_isBend.desc).map (fun d => d.parameters.length) = some 2 := ⟨by decide +kernel, by decide +kernel, by decide +kernel⟩
def fX11_isBend (x0 : Int) (x1 : Int) (Q : Int → Prop) : Prop := ((x0 < (-9999) → Q 0) ∧ (¬ (x0 < (-9999)) → ((9999 < x0 → Q 0) ∧ (¬ (9999 < x0) → ((x1 < (-9999) → Q 0) ∧ (¬ (x1 < (-9999)) → ((9999 < x1 → Q 0) ∧ (¬ (9999 < x1) → Q 1))))))))
set_option maxHeartbeats 4000000 in
set_option maxRecDepth 100000 in
theorem CX11_isBend {l : Launch} {G : sg_G} {La : sg_L} {s0 : sg_M} {x0 : Int} (r0 : sg_R x0) {x1 : Int} (r1 : sg_R x1) {Q : Int → Prop} (hf : fX11_isBend x0 x1 Q) : sg_C l G yX11_isBend cX11_isBend 2 (some .boolean) 1 0 0 La s0 [sg_i x0, sg_i x1] (sg_PZ La s0 Q) := by
  refine sg_body (by decide +kernel) (Nat.le_of_ble_eq_true rfl) ?_
  intro p e s m args below meth c F hnm
  unfold fX11_isBend at hf
  show sg_W p l e (sg_rm 1 0 0) s m args below meth c (MQ below (sg_Q (some .boolean) G La s.heap.size (sg_PZ La s0 Q)) args s 0 0 (sg_A La s.heap.size)) 2 G (sg_A La s.heap.size) La s0 0 0 0 [(0, sg_i x0), (1, sg_i x1)] []
  refine gw_iload_n F 0 rfl rfl dX11_isBend_0 ?_
  refine gw_sipush F rfl dX11_isBend_1 ?_
  refine gw_icmp_lt F (tgt := 32) dX11_isBend_4 (by decide) r0 (by decide) (fun c1 => ?_) (fun c1 => ?_)
  · have hf := hf.1 c1
    refine gw_iconst F dX11_isBend_32 ?_
    exact gr_PZ F (by decide) hf (by decide) (by decide) dX11_isBend_33
  · have hf := hf.2 c1
    refine gw_iload_n F 0 rfl rfl dX11_isBend_7 ?_
    refine gw_sipush F rfl dX11_isBend_8 ?_
    refine gw_icmp_gt F (tgt := 32) dX11_isBend_11 (by decide) r0 (by decide) (fun c2 => ?_) (fun c2 => ?_)
    · have hf := hf.1 c2
      refine gw_iconst F dX11_isBend_32 ?_
      exact gr_PZ F (by decide) hf (by decide) (by decide) dX11_isBend_33
    · have hf := hf.2 c2
      refine gw_iload_n F 1 rfl rfl dX11_isBend_14 ?_
      refine gw_sipush F rfl dX11_isBend_15 ?_
      refine gw_icmp_lt F (tgt := 32) dX11_isBend_18 (by decide) r1 (by decide) (fun c3 => ?_) (fun c3 => ?_)
      · have hf := hf.1 c3
        refine gw_iconst F dX11_isBend_32 ?_
        exact gr_PZ F (by decide) hf (by decide) (by decide) dX11_isBend_33
      · have hf := hf.2 c3
        refine gw_iload_n F 1 rfl rfl dX11_isBend_21 ?_
        refine gw_sipush F rfl dX11_isBend_22 ?_
        refine gw_icmp_gt F (tgt := 32) dX11_isBend_25 (by decide) r1 (by decide) (fun c4 => ?_) (fun c4 => ?_)
        · have hf := hf.1 c4
          refine gw_iconst F dX11_isBend_32 ?_
          exact gr_PZ F (by decide) hf (by decide) (by decide) dX11_isBend_33
        · have hf := hf.2 c4
          refine gw_iconst F dX11_isBend_28 ?_
          refine gw_goto F (tgt := 33) dX11_isBend_29 (by decide) ?_
          exact gr_PZ F (by decide) hf (by decide) (by decide) dX11_isBend_33

theorem dX11_place_0 : decode cX11_place 0 = .ok (.iload_n 1, 1) := by decide +kernel
theorem dX11_place_1 : decode cX11_place 1 = .ok (.iload_n 2, 1) := by decide +kernel
theorem dX11_place_2 : decode cX11_place 2 = .ok (.invokestatic 158, 3) := by decide +kernel
theorem dX11_place_5 : decode cX11_place 5 = .ok (.ifCond .ne 5, 3) := by decide +kernel
theorem dX11_place_8 : decode cX11_place 8 = .ok (.iconst (-1), 1) := by decide +kernel
theorem dX11_place_9 : decode cX11_place 9 = .ok (.ireturn, 1) := by decide +kernel
theorem dX11_place_10 : decode cX11_place 10 = .ok (.aload_n 0, 1) := by decide +kernel
theorem dX11_place_11 : decode cX11_place 11 = .ok (.getfield 54, 3) := by decide +kernel
theorem dX11_place_14 : decode cX11_place 14 = .ok (.aload_n 0, 1) := by decide +kernel
theorem dX11_place_15 : decode cX11_place 15 = .ok (.getfield 39, 3) := by decide +kernel
theorem dX11_place_18 : decode cX11_place 18 = .ok (.getfield 112, 3) := by decide +kernel
theorem dX11_place_21 : decode cX11_place 21 = .ok (.iload_n 1, 1) := by decide +kernel
theorem dX11_place_22 : decode cX11_place 22 = .ok (.iload_n 2, 1) := by decide +kernel
theorem dX11_place_23 : decode cX11_place 23 = .ok (.invokevirtual 171, 3) := by decide +kernel
theorem dX11_place_26 : decode cX11_place 26 = .ok (.iload_n 3, 1) := by decide +kernel
theorem dX11_place_27 : decode cX11_place 27 = .ok (.iconst (-1), 1) := by decide +kernel
theorem dX11_place_28 : decode cX11_place 28 = .ok (.if_icmp .ne 16, 3) := by decide +kernel
theorem dX11_place_31 : decode cX11_place 31 = .ok (.aload_n 0, 1) := by decide +kernel
theorem dX11_place_32 : decode cX11_place 32 = .ok (.getfield 54, 3) := by decide +kernel
theorem dX11_place_35 : decode cX11_place 35 = .ok (.getfield 178, 3) := by decide +kernel
theorem dX11_place_38 : decode cX11_place 38 = .ok (.getfield 181, 3) := by decide +kernel
theorem dX11_place_41 : decode cX11_place 41 = .ok (.goto 14, 3) := by decide +kernel
theorem dX11_place_44 : decode cX11_place 44 = .ok (.aload_n 0, 1) := by decide +kernel
theorem dX11_place_45 : decode cX11_place 45 = .ok (.getfield 54, 3) := by decide +kernel
theorem dX11_place_48 : decode cX11_place 48 = .ok (.getfield 178, 3) := by decide +kernel
theorem dX11_place_51 : decode cX11_place 51 = .ok (.iload_n 3, 1) := by decide +kernel
theorem dX11_place_52 : decode cX11_place 52 = .ok (.invokevirtual 182, 3) := by decide +kernel
theorem dX11_place_55 : decode cX11_place 55 = .ok (.ireturn, 1) := by decide +kernel
theorem hcX11_place : yX11_place.cls ≠ "java/lang/invoke/MethodHandle" ∧ yX11_place.cls ≠ "java/lang/invoke/VarHandle" ∧ (parseMethodDescriptor yX11_place.desc).map (fun d => d.parameters.length) = some 3 := ⟨by decide +kernel, by decide +kernel, by decide +kernel⟩
def fX11_place (La : sg_L) (s0 : sg_M) (x1 : Int) (x2 : Int) (x3 : Int) (Q : Int → sg_M → Prop) : Prop := fX11_isBend x1 x2 (fun u1 => ((u1 ≠ 0 → (0 ≤ (s0 4 0)) ∧ fX0_bendTo La s0 (s0 4 0) x1 x2 (fun s9 => ((x3 ≠ (-1) → fX4_at La s9 35 x3 (fun u13 => Q u13 s9)) ∧ (x3 = (-1) → Q (s9 35 1) s9)))) ∧ (u1 = 0 → Q (-1) s0)))
set_option maxHeartbeats 4000000 in
set_option maxRecDepth 100000 in
theorem CX11_place {l : Launch} {G : sg_G} {La : sg_L} {s0 : sg_M} (hst : sg_St La) {x1 : Int} (r1 : sg_R x1) {x2 : Int} (r2 : sg_R x2) {x3 : Int} (r3 : sg_R x3) {Q : Int → sg_M → Prop} (hf : fX11_place La s0 x1 x2 x3 Q) : sg_C l G yX11_place cX11_place 4 (some .int) 5 0 0 La s0 [sg_r 0, sg_i x1, sg_i x2, sg_i x3] (sg_HI La Q) := by
  refine sg_body (by decide +kernel) (Nat.le_of_ble_eq_true rfl) ?_
  intro p e s m args below meth c F hnm
  unfold fX11_place at hf
  show sg_W p l e (sg_rm 5 0 0) s m args below meth c (MQ below (sg_Q (some .int) G La s.heap.size (sg_HI La Q)) args s 0 0 (sg_A La s.heap.size)) 4 G (sg_A La s.heap.size) La s0 0 0 0 [(0, sg_r 0), (1, sg_i x1), (2, sg_i x2), (3, sg_i x3)] []
  refine gw_iload_n F 1 rfl rfl dX11_place_0 ?_
  refine gw_iload_n F 2 rfl rfl dX11_place_1 ?_
  refine gk_PZ F (gc_S F (S := []) (As := [sg_i x1, sg_i x2]) (CX11_isBend r1 r2 hf) kw_502 kw_90 kw_500 kw_501 hcX11_isBend ⟨by decide, by decide⟩ rfl rfl (Nat.le_of_ble_eq_true rfl) ⟨by decide, by decide⟩ dX11_place_2) (fun u1 h2 hf => ?_)
  refine gw_if_ne F (tgt := 10) dX11_place_5 (by decide) (sg_B_R h2) (fun c3 => ?_) (fun c3 => ?_)
  · have hf := hf.1 c3
    refine gw_aload_n F 0 rfl rfl (by decide) dX11_place_10 ?_
    refine gw_get7 F (so_0 hst) (by decide) rfl sg_lay_RX11 (j := 5) (by decide) (o1 := 32) (by first | rfl | omega) rfl (host := "") (.inl kw_331) dX11_place_11 (fun h4 => ?_)
    refine gw_aload_n F 0 rfl rfl (by decide) dX11_place_14 ?_
    refine gw_get7 F (so_0 hst) (by decide) rfl sg_lay_RX11 (j := 2) (by decide) (o1 := 4) (by first | rfl | omega) rfl (host := "") (.inl kw_328) dX11_place_15 (fun h5 => ?_)
    refine gw_get4 F (so_4 hst) (by decide) rfl sg_lay_RX7 (j := 0) (by decide) rfl (.inr kw_234) dX11_place_18 (fun h6 => ?_)
    refine gw_iload_n F 1 rfl rfl dX11_place_21 ?_
    refine gw_iload_n F 2 rfl rfl dX11_place_22 ?_
    obtain ⟨g7, hf⟩ := hf
    have t8 := sg_nn h6 g7
    refine gk_HV F (gc_V F (S := []) (As := [sg_r (s0 4 0), sg_i x1, sg_i x2]) (T := TX0) (N := 11) (CX0_bendTo hst t8 r1 r2 hf) (so_32 hst) (by decide) rfl kw_506 kw_100 kw_503 kw_504 kw_505 hcX0_bendTo ⟨by decide, by decide⟩ rfl rfl (Nat.le_of_ble_eq_true rfl) ⟨by decide, by decide⟩ dX11_place_23) (fun s9 hf => ?_)
    refine gw_iload_n F 3 rfl rfl dX11_place_26 ?_
    refine gw_iconst F dX11_place_27 ?_
    refine gw_icmp_ne F (tgt := 44) dX11_place_28 (by decide) r3 (by decide) (fun c10 => ?_) (fun c10 => ?_)
    · have hf := hf.1 c10
      refine gw_aload_n F 0 rfl rfl (by decide) dX11_place_44 ?_
      refine gw_get7 F (so_0 hst) (by decide) rfl sg_lay_RX11 (j := 5) (by decide) (o1 := 32) (by first | rfl | omega) rfl (host := "") (.inl kw_331) dX11_place_45 (fun h11 => ?_)
      refine gw_get3 F (so_32 hst) (by decide) rfl sg_lay_RX0 (j := 2) (by decide) (o1 := 35) (by first | rfl | omega) rfl (.inr kw_255) dX11_place_48 (fun h12 => ?_)
      refine gw_iload_n F 3 rfl rfl dX11_place_51 ?_
      refine gk_PI F (gc_V F (S := []) (As := [sg_i x3]) (T := TX4) (N := 3) (CX4_at (so_35 hst) r3 hf) (so_35 hst) (by decide) rfl kw_546 kw_97 kw_543 kw_544 kw_545 hcX4_at ⟨by decide, by decide⟩ rfl rfl (Nat.le_of_ble_eq_true rfl) ⟨by decide, by decide⟩ dX11_place_52) (fun u13 h14 hf => ?_)
      exact gr_HI F h14 hf (by decide) (by decide) dX11_place_55
    · have hf := hf.2 c10
      refine gw_aload_n F 0 rfl rfl (by decide) dX11_place_31 ?_
      refine gw_get7 F (so_0 hst) (by decide) rfl sg_lay_RX11 (j := 5) (by decide) (o1 := 32) (by first | rfl | omega) rfl (host := "") (.inl kw_331) dX11_place_32 (fun h15 => ?_)
      refine gw_get3 F (so_32 hst) (by decide) rfl sg_lay_RX0 (j := 2) (by decide) (o1 := 35) (by first | rfl | omega) rfl (.inr kw_255) dX11_place_35 (fun h16 => ?_)
      refine gw_get0 F (so_35 hst) (by decide) rfl sg_lay_RX4 (j := 1) (by decide) rfl (.inr kw_204) dX11_place_38 (fun h17 => ?_)
      refine gw_goto F (tgt := 55) dX11_place_41 (by decide) ?_
      exact gr_HI F h17 hf (by decide) (by decide) dX11_place_55
  · have hf := hf.2 c3
    refine gw_iconst F dX11_place_8 ?_
    exact gr_HI F (by decide) hf (by decide) (by decide) dX11_place_9

theorem dX11_evenAt_0 : decode cX11_evenAt 0 = .ok (.aload_n 0, 1) := by decide +kernel
theorem dX11_evenAt_1 : decode cX11_evenAt 1 = .ok (.getfield 87, 3) := by decide +kernel
theorem dX11_evenAt_4 : decode cX11_evenAt 4 = .ok (.iload_n 1, 1) := by decide +kernel
theorem dX11_evenAt_5 : decode cX11_evenAt 5 = .ok (.invokevirtual 182, 3) := by decide +kernel
theorem dX11_evenAt_8 : decode cX11_evenAt 8 = .ok (.ireturn, 1) := by decide +kernel
theorem hcX11_evenAt : yX11_evenAt.cls ≠ "java/lang/invoke/MethodHandle" ∧ yX11_evenAt.cls ≠ "java/lang/invoke/VarHandle" ∧ (parseMethodDescriptor yX11_evenAt.desc).map (fun d => d.parameters.length) = some 1 := ⟨by decide +kernel, by decide +kernel, by decide +kernel⟩
def fX11_evenAt (La : sg_L) (s0 : sg_M) (x1 : Int) (Q : Int → Prop) : Prop := fX4_at La s0 54 x1 (fun u2 => Q u2)
set_option maxHeartbeats 4000000 in
set_option maxRecDepth 100000 in
theorem CX11_evenAt {l : Launch} {G : sg_G} {La : sg_L} {s0 : sg_M} (hst : sg_St La) {x1 : Int} (r1 : sg_R x1) {Q : Int → Prop} (hf : fX11_evenAt La s0 x1 Q) : sg_C l G yX11_evenAt cX11_evenAt 2 (some .int) 2 0 0 La s0 [sg_r 0, sg_i x1] (sg_PI La s0 Q) := by
  refine sg_body (by decide +kernel) (Nat.le_of_ble_eq_true rfl) ?_
  intro p e s m args below meth c F hnm
  unfold fX11_evenAt at hf
  show sg_W p l e (sg_rm 2 0 0) s m args below meth c (MQ below (sg_Q (some .int) G La s.heap.size (sg_PI La s0 Q)) args s 0 0 (sg_A La s.heap.size)) 2 G (sg_A La s.heap.size) La s0 0 0 0 [(0, sg_r 0), (1, sg_i x1)] []
  refine gw_aload_n F 0 rfl rfl (by decide) dX11_evenAt_0 ?_
  refine gw_get7 F (so_0 hst) (by decide) rfl sg_lay_RX11 (j := 11) (by decide) (o1 := 54) (by first | rfl | omega) rfl (host := "") (.inl kw_337) dX11_evenAt_1 (fun h1 => ?_)
  refine gw_iload_n F 1 rfl rfl dX11_evenAt_4 ?_
  refine gk_PI F (gc_V F (S := []) (As := [sg_i x1]) (T := TX4) (N := 3) (CX4_at (so_54 hst) r1 hf) (so_54 hst) (by decide) rfl kw_546 kw_97 kw_543 kw_544 kw_545 hcX4_at ⟨by decide, by decide⟩ rfl rfl (Nat.le_of_ble_eq_true rfl) ⟨by decide, by decide⟩ dX11_evenAt_5) (fun u2 h3 hf => ?_)
  exact gr_PI F h3 hf (by decide) (by decide) dX11_evenAt_8

theorem dX9_isSign_0 : decode cX9_isSign 0 = .ok (.aload_n 0, 1) := by decide +kernel
theorem dX9_isSign_1 : decode cX9_isSign 1 = .ok (.getfield 25, 3) := by decide +kernel
theorem dX9_isSign_4 : decode cX9_isSign 4 = .ok (.ifCond .ne 23, 3) := by decide +kernel
theorem dX9_isSign_7 : decode cX9_isSign 7 = .ok (.aload_n 0, 1) := by decide +kernel
theorem dX9_isSign_8 : decode cX9_isSign 8 = .ok (.getfield 13, 3) := by decide +kernel
theorem dX9_isSign_11 : decode cX9_isSign 11 = .ok (.iconst 3, 1) := by decide +kernel
theorem dX9_isSign_12 : decode cX9_isSign 12 = .ok (.if_icmp .ne 15, 3) := by decide +kernel
theorem dX9_isSign_15 : decode cX9_isSign 15 = .ok (.aload_n 0, 1) := by decide +kernel
theorem dX9_isSign_16 : decode cX9_isSign 16 = .ok (.getfield 22, 3) := by decide +kernel
theorem dX9_isSign_19 : decode cX9_isSign 19 = .ok (.iload_n 1, 1) := by decide +kernel
theorem dX9_isSign_20 : decode cX9_isSign 20 = .ok (.if_icmp .ne 7, 3) := by decide +kernel
theorem dX9_isSign_23 : decode cX9_isSign 23 = .ok (.iconst 1, 1) := by decide +kernel
theorem dX9_isSign_24 : decode cX9_isSign 24 = .ok (.goto 4, 3) := by decide +kernel
theorem dX9_isSign_27 : decode cX9_isSign 27 = .ok (.iconst 0, 1) := by decide +kernel
theorem dX9_isSign_28 : decode cX9_isSign 28 = .ok (.ireturn, 1) := by decide +kernel
theorem hcX9_isSign : yX9_isSign.cls ≠ "java/lang/invoke/MethodHandle" ∧ yX9_isSign.cls ≠ "java/lang/invoke/VarHandle" ∧ (parseMethodDescriptor yX9_isSign.desc).map (fun d => d.parameters.length) = some 1 := ⟨by decide +kernel, by decide +kernel, by decide +kernel⟩
def fX9_isSign (s0 : sg_M) (x1 : Int) (Q : Int → Prop) : Prop := (((s0 3 6) ≠ 0 → Q 0) ∧ ((s0 3 6) = 0 → (((s0 3 2) ≠ 3 → Q 0) ∧ ((s0 3 2) = 3 → (((s0 3 5) ≠ x1 → Q 0) ∧ ((s0 3 5) = x1 → Q 1))))))
set_option maxHeartbeats 4000000 in
set_option maxRecDepth 100000 in
theorem CX9_isSign {l : Launch} {G : sg_G} {La : sg_L} {s0 : sg_M} (hst : sg_St La) {x1 : Int} (r1 : sg_R x1) {Q : Int → Prop} (hf : fX9_isSign s0 x1 Q) : sg_C l G yX9_isSign cX9_isSign 2 (some .boolean) 1 0 0 La s0 [sg_r 3, sg_i x1] (sg_PZ La s0 Q) := by
  refine sg_body (by decide +kernel) (Nat.le_of_ble_eq_true rfl) ?_
  intro p e s m args below meth c F hnm
  unfold fX9_isSign at hf
  show sg_W p l e (sg_rm 1 0 0) s m args below meth c (MQ below (sg_Q (some .boolean) G La s.heap.size (sg_PZ La s0 Q)) args s 0 0 (sg_A La s.heap.size)) 2 G (sg_A La s.heap.size) La s0 0 0 0 [(0, sg_r 3), (1, sg_i x1)] []
  refine gw_aload_n F 0 rfl rfl (by decide) dX9_isSign_0 ?_
  refine gw_get0 F (so_3 hst) (by decide) rfl sg_lay_RX9 (j := 6) (by decide) rfl (host := "") (.inl kw_144) dX9_isSign_1 (fun h1 => ?_)
  refine gw_if_ne F (tgt := 27) dX9_isSign_4 (by decide) h1 (fun c2 => ?_) (fun c2 => ?_)
  · have hf := hf.1 c2
    refine gw_iconst F dX9_isSign_27 ?_
    exact gr_PZ F (by decide) hf (by decide) (by decide) dX9_isSign_28
  · have hf := hf.2 c2
    refine gw_aload_n F 0 rfl rfl (by decide) dX9_isSign_7 ?_
    refine gw_get0 F (so_3 hst) (by decide) rfl sg_lay_RX9 (j := 2) (by decide) rfl (host := "") (.inl kw_140) dX9_isSign_8 (fun h3 => ?_)
    refine gw_iconst F dX9_isSign_11 ?_
    refine gw_icmp_ne F (tgt := 27) dX9_isSign_12 (by decide) h3 (by decide) (fun c4 => ?_) (fun c4 => ?_)
    · have hf := hf.1 c4
      refine gw_iconst F dX9_isSign_27 ?_
      exact gr_PZ F (by decide) hf (by decide) (by decide) dX9_isSign_28
    · have hf := hf.2 c4
      refine gw_aload_n F 0 rfl rfl (by decide) dX9_isSign_15 ?_
      refine gw_get0 F (so_3 hst) (by decide) rfl sg_lay_RX9 (j := 5) (by decide) rfl (host := "") (.inl kw_143) dX9_isSign_16 (fun h5 => ?_)
      refine gw_iload_n F 1 rfl rfl dX9_isSign_19 ?_
      refine gw_icmp_ne F (tgt := 27) dX9_isSign_20 (by decide) h5 r1 (fun c6 => ?_) (fun c6 => ?_)
      · have hf := hf.1 c6
        refine gw_iconst F dX9_isSign_27 ?_
        exact gr_PZ F (by decide) hf (by decide) (by decide) dX9_isSign_28
      · have hf := hf.2 c6
        refine gw_iconst F dX9_isSign_23 ?_
        refine gw_goto F (tgt := 28) dX9_isSign_24 (by decide) ?_
        exact gr_PZ F (by decide) hf (by decide) (by decide) dX9_isSign_28

theorem dX2_copyFrom_0 : decode cX2_copyFrom 0 = .ok (.aload_n 0, 1) := by decide +kernel
theorem dX2_copyFrom_1 : decode cX2_copyFrom 1 = .ok (.getfield 14, 3) := by decide +kernel
theorem dX2_copyFrom_4 : decode cX2_copyFrom 4 = .ok (.aload_n 1, 1) := by decide +kernel
theorem dX2_copyFrom_5 : decode cX2_copyFrom 5 = .ok (.getfield 14, 3) := by decide +kernel
theorem dX2_copyFrom_8 : decode cX2_copyFrom 8 = .ok (.invokevirtual 30, 3) := by decide +kernel
theorem dX2_copyFrom_11 : decode cX2_copyFrom 11 = .ok (.aload_n 0, 1) := by decide +kernel
theorem dX2_copyFrom_12 : decode cX2_copyFrom 12 = .ok (.getfield 20, 3) := by decide +kernel
theorem dX2_copyFrom_15 : decode cX2_copyFrom 15 = .ok (.aload_n 1, 1) := by decide +kernel
theorem dX2_copyFrom_16 : decode cX2_copyFrom 16 = .ok (.getfield 20, 3) := by decide +kernel
theorem dX2_copyFrom_19 : decode cX2_copyFrom 19 = .ok (.invokevirtual 30, 3) := by decide +kernel
theorem dX2_copyFrom_22 : decode cX2_copyFrom 22 = .ok (.aload_n 0, 1) := by decide +kernel
theorem dX2_copyFrom_23 : decode cX2_copyFrom 23 = .ok (.aload_n 1, 1) := by decide +kernel
theorem dX2_copyFrom_24 : decode cX2_copyFrom 24 = .ok (.getfield 23, 3) := by decide +kernel
theorem dX2_copyFrom_27 : decode cX2_copyFrom 27 = .ok (.putfield 23, 3) := by decide +kernel
theorem dX2_copyFrom_30 : decode cX2_copyFrom 30 = .ok (.return_, 1) := by decide +kernel
theorem hcX2_copyFrom : yX2_copyFrom.cls ≠ "java/lang/invoke/MethodHandle" ∧ yX2_copyFrom.cls ≠ "java/lang/invoke/VarHandle" ∧ (parseMethodDescriptor yX2_copyFrom.desc).map (fun d => d.parameters.length) = some 1 := ⟨by decide +kernel, by decide +kernel, by decide +kernel⟩
def fX2_copyFrom (La : sg_L) (s0 : sg_M) (o : Int) (o1 : Int) (Q : sg_M → Prop) : Prop := fX4_copyFrom La s0 (o + 1) (o1 + 1) (fun s3 => fX4_copyFrom La s3 (o + 3) (o1 + 3) (fun s6 => ∀ s8 : sg_M, s8 = sg_up s6 o 2 (s6 o1 2) → Q s8))
set_option maxHeartbeats 4000000 in
set_option maxRecDepth 100000 in
theorem CX2_copyFrom {l : Launch} {G : sg_G} {La : sg_L} {s0 : sg_M} {o : Int} (to : sg_O La o 2) {o1 : Int} (t1 : sg_O La o1 2) {Q : sg_M → Prop} (hf : fX2_copyFrom La s0 o o1 Q) : sg_C l G yX2_copyFrom cX2_copyFrom 2 (none) 3 0 0 La s0 [sg_r o, sg_r o1] (sg_HV La Q) := by
  refine sg_body (by decide +kernel) (Nat.le_of_ble_eq_true rfl) ?_
  intro p e s m args below meth c F hnm
  unfold fX2_copyFrom at hf
  show sg_W p l e (sg_rm 3 0 0) s m args below meth c (MQ below (sg_Q (none) G La s.heap.size (sg_HV La Q)) args s 0 0 (sg_A La s.heap.size)) 2 G (sg_A La s.heap.size) La s0 0 0 0 [(0, sg_r o), (1, sg_r o1)] []
  refine gw_aload_n F 0 rfl rfl to.1 dX2_copyFrom_0 ?_
  refine gw_get3 F to (by decide) rfl sg_lay_RX2 (j := 0) (by decide) (o1 := (o + 1)) (by first | rfl | omega) rfl (host := "") (.inl kw_224) dX2_copyFrom_1 (fun h1 => ?_)
  refine gw_aload_n F 1 rfl rfl t1.1 dX2_copyFrom_4 ?_
  refine gw_get3 F t1 (by decide) rfl sg_lay_RX2 (j := 0) (by decide) (o1 := (o1 + 1)) (by first | rfl | omega) rfl (host := "") (.inl kw_224) dX2_copyFrom_5 (fun h2 => ?_)
  refine gk_HV F (gc_V F (S := []) (As := [sg_r (o1 + 1)]) (T := TX4) (N := 3) (CX4_copyFrom (sg_O_of h1 (by decide)) (sg_O_of h2 (by decide)) hf) (sg_O_of h1 (by decide)) (by decide) rfl kw_869 kw_97 kw_866 kw_867 kw_868 hcX4_copyFrom ⟨by decide, by decide⟩ rfl rfl (Nat.le_of_ble_eq_true rfl) ⟨by decide, by decide⟩ dX2_copyFrom_8) (fun s3 hf => ?_)
  refine gw_aload_n F 0 rfl rfl to.1 dX2_copyFrom_11 ?_
  refine gw_get3 F to (by decide) rfl sg_lay_RX2 (j := 1) (by decide) (o1 := (o + 3)) (by first | rfl | omega) rfl (host := "") (.inl kw_226) dX2_copyFrom_12 (fun h4 => ?_)
  refine gw_aload_n F 1 rfl rfl t1.1 dX2_copyFrom_15 ?_
  refine gw_get3 F t1 (by decide) rfl sg_lay_RX2 (j := 1) (by decide) (o1 := (o1 + 3)) (by first | rfl | omega) rfl (host := "") (.inl kw_226) dX2_copyFrom_16 (fun h5 => ?_)
  refine gk_HV F (gc_V F (S := []) (As := [sg_r (o1 + 3)]) (T := TX4) (N := 3) (CX4_copyFrom (sg_O_of h4 (by decide)) (sg_O_of h5 (by decide)) hf) (sg_O_of h4 (by decide)) (by decide) rfl kw_869 kw_97 kw_866 kw_867 kw_868 hcX4_copyFrom ⟨by decide, by decide⟩ rfl rfl (Nat.le_of_ble_eq_true rfl) ⟨by decide, by decide⟩ dX2_copyFrom_19) (fun s6 hf => ?_)
  refine gw_aload_n F 0 rfl rfl to.1 dX2_copyFrom_22 ?_
  refine gw_aload_n F 1 rfl rfl t1.1 dX2_copyFrom_23 ?_
  refine gw_get0 F t1 (by decide) rfl sg_lay_RX2 (j := 2) (by decide) rfl (host := "") (.inl kw_228) dX2_copyFrom_24 (fun h7 => ?_)
  obtain ⟨s8, e9⟩ : ∃ z : sg_M, z = sg_up s6 o 2 (s6 o1 2) := ⟨_, rfl⟩
  have hf := hf s8 e9
  refine gw_put0 F to (by decide) rfl sg_lay_RX2 (j := 2) (by decide) h7 e9 tyX2_ok nmX2 rfl (tyX2_ok 2 (by decide)) rfl (host := "") (.inl kw_228) dX2_copyFrom_27 ?_
  exact gr_HV F hf (by decide) (by decide) dX2_copyFrom_30

theorem dX12_init_0 : decode cX12_init 0 = .ok (.aload_n 0, 1) := by decide +kernel
theorem dX12_init_1 : decode cX12_init 1 = .ok (.invokespecial 1, 3) := by decide +kernel
theorem dX12_init_4 : decode cX12_init 4 = .ok (.aload_n 0, 1) := by decide +kernel
theorem dX12_init_5 : decode cX12_init 5 = .ok (.sipush 540, 3) := by decide +kernel
theorem dX12_init_8 : decode cX12_init 8 = .ok (.newarray .int, 2) := by decide +kernel
theorem dX12_init_10 : decode cX12_init 10 = .ok (.putfield 7, 3) := by decide +kernel
theorem dX12_init_13 : decode cX12_init 13 = .ok (.aload_n 0, 1) := by decide +kernel
theorem dX12_init_14 : decode cX12_init 14 = .ok (.sipush 2040, 3) := by decide +kernel
theorem dX12_init_17 : decode cX12_init 17 = .ok (.newarray .int, 2) := by decide +kernel
theorem dX12_init_19 : decode cX12_init 19 = .ok (.putfield 13, 3) := by decide +kernel
theorem dX12_init_22 : decode cX12_init 22 = .ok (.aload_n 0, 1) := by decide +kernel
theorem dX12_init_23 : decode cX12_init 23 = .ok (.sipush 260, 3) := by decide +kernel
theorem dX12_init_26 : decode cX12_init 26 = .ok (.newarray .int, 2) := by decide +kernel
theorem dX12_init_28 : decode cX12_init 28 = .ok (.putfield 16, 3) := by decide +kernel
theorem dX12_init_31 : decode cX12_init 31 = .ok (.aload_n 0, 1) := by decide +kernel
theorem dX12_init_32 : decode cX12_init 32 = .ok (.sipush 4080, 3) := by decide +kernel
theorem dX12_init_35 : decode cX12_init 35 = .ok (.newarray .int, 2) := by decide +kernel
theorem dX12_init_37 : decode cX12_init 37 = .ok (.putfield 19, 3) := by decide +kernel
theorem dX12_init_40 : decode cX12_init 40 = .ok (.aload_n 0, 1) := by decide +kernel
theorem dX12_init_41 : decode cX12_init 41 = .ok (.sipush 200, 3) := by decide +kernel
theorem dX12_init_44 : decode cX12_init 44 = .ok (.newarray .int, 2) := by decide +kernel
theorem dX12_init_46 : decode cX12_init 46 = .ok (.putfield 22, 3) := by decide +kernel
theorem dX12_init_49 : decode cX12_init 49 = .ok (.aload_n 0, 1) := by decide +kernel
theorem dX12_init_50 : decode cX12_init 50 = .ok (.sipush 200, 3) := by decide +kernel
theorem dX12_init_53 : decode cX12_init 53 = .ok (.newarray .int, 2) := by decide +kernel
theorem dX12_init_55 : decode cX12_init 55 = .ok (.putfield 25, 3) := by decide +kernel
theorem dX12_init_58 : decode cX12_init 58 = .ok (.aload_n 0, 1) := by decide +kernel
theorem dX12_init_59 : decode cX12_init 59 = .ok (.iconst 2, 1) := by decide +kernel
theorem dX12_init_60 : decode cX12_init 60 = .ok (.newarray .boolean, 2) := by decide +kernel
theorem dX12_init_62 : decode cX12_init 62 = .ok (.putfield 28, 3) := by decide +kernel
theorem dX12_init_65 : decode cX12_init 65 = .ok (.aload_n 0, 1) := by decide +kernel
theorem dX12_init_66 : decode cX12_init 66 = .ok (.bipush 60, 2) := by decide +kernel
theorem dX12_init_68 : decode cX12_init 68 = .ok (.newarray .int, 2) := by decide +kernel
theorem dX12_init_70 : decode cX12_init 70 = .ok (.putfield 32, 3) := by decide +kernel
theorem dX12_init_73 : decode cX12_init 73 = .ok (.aload_n 0, 1) := by decide +kernel
theorem dX12_init_74 : decode cX12_init 74 = .ok (.bipush 60, 2) := by decide +kernel
theorem dX12_init_76 : decode cX12_init 76 = .ok (.newarray .int, 2) := by decide +kernel
theorem dX12_init_78 : decode cX12_init 78 = .ok (.putfield 35, 3) := by decide +kernel
theorem dX12_init_81 : decode cX12_init 81 = .ok (.aload_n 0, 1) := by decide +kernel
theorem dX12_init_82 : decode cX12_init 82 = .ok (.bipush 60, 2) := by decide +kernel
theorem dX12_init_84 : decode cX12_init 84 = .ok (.newarray .int, 2) := by decide +kernel
theorem dX12_init_86 : decode cX12_init 86 = .ok (.putfield 38, 3) := by decide +kernel
theorem dX12_init_89 : decode cX12_init 89 = .ok (.aload_n 0, 1) := by decide +kernel
theorem dX12_init_90 : decode cX12_init 90 = .ok (.bipush 60, 2) := by decide +kernel
theorem dX12_init_92 : decode cX12_init 92 = .ok (.newarray .int, 2) := by decide +kernel
theorem dX12_init_94 : decode cX12_init 94 = .ok (.putfield 41, 3) := by decide +kernel
theorem dX12_init_97 : decode cX12_init 97 = .ok (.aload_n 0, 1) := by decide +kernel
theorem dX12_init_98 : decode cX12_init 98 = .ok (.bipush 60, 2) := by decide +kernel
theorem dX12_init_100 : decode cX12_init 100 = .ok (.newarray .boolean, 2) := by decide +kernel
theorem dX12_init_102 : decode cX12_init 102 = .ok (.putfield 44, 3) := by decide +kernel
theorem dX12_init_105 : decode cX12_init 105 = .ok (.aload_n 0, 1) := by decide +kernel
theorem dX12_init_106 : decode cX12_init 106 = .ok (.iconst 5, 1) := by decide +kernel
theorem dX12_init_107 : decode cX12_init 107 = .ok (.newarray .int, 2) := by decide +kernel
theorem dX12_init_109 : decode cX12_init 109 = .ok (.dup, 1) := by decide +kernel
theorem dX12_init_110 : decode cX12_init 110 = .ok (.iconst 0, 1) := by decide +kernel
theorem dX12_init_111 : decode cX12_init 111 = .ok (.iconst (-1), 1) := by decide +kernel
theorem dX12_init_112 : decode cX12_init 112 = .ok (.iastore, 1) := by decide +kernel
theorem dX12_init_113 : decode cX12_init 113 = .ok (.dup, 1) := by decide +kernel
theorem dX12_init_114 : decode cX12_init 114 = .ok (.iconst 1, 1) := by decide +kernel
theorem dX12_init_115 : decode cX12_init 115 = .ok (.iconst (-1), 1) := by decide +kernel
theorem dX12_init_116 : decode cX12_init 116 = .ok (.iastore, 1) := by decide +kernel
theorem dX12_init_117 : decode cX12_init 117 = .ok (.dup, 1) := by decide +kernel
theorem dX12_init_118 : decode cX12_init 118 = .ok (.iconst 2, 1) := by decide +kernel
theorem dX12_init_119 : decode cX12_init 119 = .ok (.iconst (-1), 1) := by decide +kernel
theorem dX12_init_120 : decode cX12_init 120 = .ok (.iastore, 1) := by decide +kernel
theorem dX12_init_121 : decode cX12_init 121 = .ok (.dup, 1) := by decide +kernel
theorem dX12_init_122 : decode cX12_init 122 = .ok (.iconst 3, 1) := by decide +kernel
theorem dX12_init_123 : decode cX12_init 123 = .ok (.iconst (-1), 1) := by decide +kernel
theorem dX12_init_124 : decode cX12_init 124 = .ok (.iastore, 1) := by decide +kernel
theorem dX12_init_125 : decode cX12_init 125 = .ok (.dup, 1) := by decide +kernel
theorem dX12_init_126 : decode cX12_init 126 = .ok (.iconst 4, 1) := by decide +kernel
theorem dX12_init_127 : decode cX12_init 127 = .ok (.iconst (-1), 1) := by decide +kernel
theorem dX12_init_128 : decode cX12_init 128 = .ok (.iastore, 1) := by decide +kernel
theorem dX12_init_129 : decode cX12_init 129 = .ok (.putfield 47, 3) := by decide +kernel
theorem dX12_init_132 : decode cX12_init 132 = .ok (.aload_n 0, 1) := by decide +kernel
theorem dX12_init_133 : decode cX12_init 133 = .ok (.bipush 60, 2) := by decide +kernel
theorem dX12_init_135 : decode cX12_init 135 = .ok (.newarray .int, 2) := by decide +kernel
theorem dX12_init_137 : decode cX12_init 137 = .ok (.putfield 50, 3) := by decide +kernel
theorem dX12_init_140 : decode cX12_init 140 = .ok (.aload_n 0, 1) := by decide +kernel
theorem dX12_init_141 : decode cX12_init 141 = .ok (.bipush 60, 2) := by decide +kernel
theorem dX12_init_143 : decode cX12_init 143 = .ok (.newarray .int, 2) := by decide +kernel
theorem dX12_init_145 : decode cX12_init 145 = .ok (.putfield 53, 3) := by decide +kernel
theorem dX12_init_148 : decode cX12_init 148 = .ok (.aload_n 0, 1) := by decide +kernel
theorem dX12_init_149 : decode cX12_init 149 = .ok (.bipush 40, 2) := by decide +kernel
theorem dX12_init_151 : decode cX12_init 151 = .ok (.newarray .int, 2) := by decide +kernel
theorem dX12_init_153 : decode cX12_init 153 = .ok (.putfield 56, 3) := by decide +kernel
theorem dX12_init_156 : decode cX12_init 156 = .ok (.aload_n 0, 1) := by decide +kernel
theorem dX12_init_157 : decode cX12_init 157 = .ok (.bipush 60, 2) := by decide +kernel
theorem dX12_init_159 : decode cX12_init 159 = .ok (.newarray .int, 2) := by decide +kernel
theorem dX12_init_161 : decode cX12_init 161 = .ok (.putfield 59, 3) := by decide +kernel
theorem dX12_init_164 : decode cX12_init 164 = .ok (.aload_n 0, 1) := by decide +kernel
theorem dX12_init_165 : decode cX12_init 165 = .ok (.sipush 2400, 3) := by decide +kernel
theorem dX12_init_168 : decode cX12_init 168 = .ok (.newarray .int, 2) := by decide +kernel
theorem dX12_init_170 : decode cX12_init 170 = .ok (.putfield 62, 3) := by decide +kernel
theorem dX12_init_173 : decode cX12_init 173 = .ok (.aload_n 0, 1) := by decide +kernel
theorem dX12_init_174 : decode cX12_init 174 = .ok (.bipush 60, 2) := by decide +kernel
theorem dX12_init_176 : decode cX12_init 176 = .ok (.newarray .int, 2) := by decide +kernel
theorem dX12_init_178 : decode cX12_init 178 = .ok (.putfield 65, 3) := by decide +kernel
theorem dX12_init_181 : decode cX12_init 181 = .ok (.aload_n 0, 1) := by decide +kernel
theorem dX12_init_182 : decode cX12_init 182 = .ok (.bipush 40, 2) := by decide +kernel
theorem dX12_init_184 : decode cX12_init 184 = .ok (.newarray .int, 2) := by decide +kernel
theorem dX12_init_186 : decode cX12_init 186 = .ok (.putfield 68, 3) := by decide +kernel
theorem dX12_init_189 : decode cX12_init 189 = .ok (.aload_n 0, 1) := by decide +kernel
theorem dX12_init_190 : decode cX12_init 190 = .ok (.bipush 101, 2) := by decide +kernel
theorem dX12_init_192 : decode cX12_init 192 = .ok (.newarray .int, 2) := by decide +kernel
theorem dX12_init_194 : decode cX12_init 194 = .ok (.putfield 71, 3) := by decide +kernel
theorem dX12_init_197 : decode cX12_init 197 = .ok (.aload_n 0, 1) := by decide +kernel
theorem dX12_init_198 : decode cX12_init 198 = .ok (.bipush 21, 2) := by decide +kernel
theorem dX12_init_200 : decode cX12_init 200 = .ok (.newarray .int, 2) := by decide +kernel
theorem dX12_init_202 : decode cX12_init 202 = .ok (.putfield 74, 3) := by decide +kernel
theorem dX12_init_205 : decode cX12_init 205 = .ok (.aload_n 0, 1) := by decide +kernel
theorem dX12_init_206 : decode cX12_init 206 = .ok (.iconst (-1), 1) := by decide +kernel
theorem dX12_init_207 : decode cX12_init 207 = .ok (.putfield 77, 3) := by decide +kernel
theorem dX12_init_210 : decode cX12_init 210 = .ok (.aload_n 0, 1) := by decide +kernel
theorem dX12_init_211 : decode cX12_init 211 = .ok (.sipush 240, 3) := by decide +kernel
theorem dX12_init_214 : decode cX12_init 214 = .ok (.newarray .int, 2) := by decide +kernel
theorem dX12_init_216 : decode cX12_init 216 = .ok (.putfield 81, 3) := by decide +kernel
theorem dX12_init_219 : decode cX12_init 219 = .ok (.return_, 1) := by decide +kernel
theorem hcX12_init : yX12_init.cls ≠ "java/lang/invoke/MethodHandle" ∧ yX12_init.cls ≠ "java/lang/invoke/VarHandle" ∧ (parseMethodDescriptor yX12_init.desc).map (fun d => d.parameters.length) = some 0 := ⟨by decide +kernel, by decide +kernel, by decide +kernel⟩
def fX12_init (La : sg_L) (s0 : sg_M) (o : Int) (Q : sg_L → sg_M → Prop) : Prop := ∀ (q1 : Nat) (La2 : sg_L), La2 = sg_pu La 10540 q1 → ∀ s3 : sg_M, s3 = sg_nw s0 La.1 10540 → ∀ o4 : Int, o4 = (La.1 : Int) → ∀ s14 : sg_M, s14 = sg_up s3 o 1 o4 → ∀ (q16 : Nat) (La17 : sg_L), La17 = sg_pu La2 12040 q16 → ∀ s18 : sg_M, s18 = sg_nw s14 La2.1 12040 → ∀ o19 : Int, o19 = (La2.1 : Int) → ∀ s29 : sg_M, s29 = sg_up s18 o 14 o19 → ∀ (q31 : Nat) (La32 : sg_L), La32 = sg_pu La17 10260 q31 → ∀ s33 : sg_M, s33 = sg_nw s29 La17.1 10260 → ∀ o34 : Int, o34 = (La17.1 : Int) → ∀ s44 : sg_M, s44 = sg_up s33 o 15 o34 → ∀ (q46 : Nat) (La47 : sg_L), La47 = sg_pu La32 14080 q46 → ∀ s48 : sg_M, s48 = sg_nw s44 La32.1 14080 → ∀ o49 : Int, o49 = (La32.1 : Int) → ∀ s59 : sg_M, s59 = sg_up s48 o 16 o49 → ∀ (q61 : Nat) (La62 : sg_L), La62 = sg_pu La47 10200 q61 → ∀ s63 : sg_M, s63 = sg_nw s59 La47.1 10200 → ∀ o64 : Int, o64 = (La47.1 : Int) → ∀ s74 : sg_M, s74 = sg_up s63 o 17 o64 → ∀ (q76 : Nat) (La77 : sg_L), La77 = sg_pu La62 10200 q76 → ∀ s78 : sg_M, s78 = sg_nw s74 La62.1 10200 → ∀ o79 : Int, o79 = (La62.1 : Int) → ∀ s89 : sg_M, s89 = sg_up s78 o 18 o79 → ∀ (q91 : Nat) (La92 : sg_L), La92 = sg_pu La77 20002 q91 → ∀ s93 : sg_M, s93 = sg_nw s89 La77.1 20002 → ∀ o94 : Int, o94 = (La77.1 : Int) → ∀ s103 : sg_M, s103 = sg_up s93 o 19 o94 → ∀ (q105 : Nat) (La106 : sg_L), La106 = sg_pu La92 10060 q105 → ∀ s107 : sg_M, s107 = sg_nw s103 La92.1 10060 → ∀ o108 : Int, o108 = (La92.1 : Int) → ∀ s118 : sg_M, s118 = sg_up s107 o 22 o108 → ∀ (q120 : Nat) (La121 : sg_L), La121 = sg_pu La106 10060 q120 → ∀ s122 : sg_M, s122 = sg_nw s118 La106.1 10060 → ∀ o123 : Int, o123 = (La106.1 : Int) → ∀ s133 : sg_M, s133 = sg_up s122 o 23 o123 → ∀ (q135 : Nat) (La136 : sg_L), La136 = sg_pu La121 10060 q135 → ∀ s137 : sg_M, s137 = sg_nw s133 La121.1 10060 → ∀ o138 : Int, o138 = (La121.1 : Int) → ∀ s148 : sg_M, s148 = sg_up s137 o 24 o138 → ∀ (q150 : Nat) (La151 : sg_L), La151 = sg_pu La136 10060 q150 → ∀ s152 : sg_M, s152 = sg_nw s148 La136.1 10060 → ∀ o153 : Int, o153 = (La136.1 : Int) → ∀ s163 : sg_M, s163 = sg_up s152 o 25 o153 → ∀ (q165 : Nat) (La166 : sg_L), La166 = sg_pu La151 20060 q165 → ∀ s167 : sg_M, s167 = sg_nw s163 La151.1 20060 → ∀ o168 : Int, o168 = (La151.1 : Int) → ∀ s177 : sg_M, s177 = sg_up s167 o 26 o168 → ∀ (q179 : Nat) (La180 : sg_L), La180 = sg_pu La166 10005 q179 → ∀ s181 : sg_M, s181 = sg_nw s177 La166.1 10005 → ∀ o182 : Int, o182 = (La166.1 : Int) → ∀ s192 : sg_M, s192 = sg_up s181 o182 0 (-1) → ∀ s194 : sg_M, s194 = sg_up s192 o182 1 (-1) → ∀ s196 : sg_M, s196 = sg_up s194 o182 2 (-1) → ∀ s198 : sg_M, s198 = sg_up s196 o182 3 (-1) → ∀ s200 : sg_M, s200 = sg_up s198 o182 4 (-1) → ∀ s202 : sg_M, s202 = sg_up s200 o 34 o182 → ∀ (q204 : Nat) (La205 : sg_L), La205 = sg_pu La180 10060 q204 → ∀ s206 : sg_M, s206 = sg_nw s202 La180.1 10060 → ∀ o207 : Int, o207 = (La180.1 : Int) → ∀ s217 : sg_M, s217 = sg_up s206 o 35 o207 → ∀ (q219 : Nat) (La220 : sg_L), La220 = sg_pu La205 10060 q219 → ∀ s221 : sg_M, s221 = sg_nw s217 La205.1 10060 → ∀ o222 : Int, o222 = (La205.1 : Int) → ∀ s232 : sg_M, s232 = sg_up s221 o 36 o222 → ∀ (q234 : Nat) (La235 : sg_L), La235 = sg_pu La220 10040 q234 → ∀ s236 : sg_M, s236 = sg_nw s232 La220.1 10040 → ∀ o237 : Int, o237 = (La220.1 : Int) → ∀ s247 : sg_M, s247 = sg_up s236 o 46 o237 → ∀ (q249 : Nat) (La250 : sg_L), La250 = sg_pu La235 10060 q249 → ∀ s251 : sg_M, s251 = sg_nw s247 La235.1 10060 → ∀ o252 : Int, o252 = (La235.1 : Int) → ∀ s262 : sg_M, s262 = sg_up s251 o 47 o252 → ∀ (q264 : Nat) (La265 : sg_L), La265 = sg_pu La250 12400 q264 → ∀ s266 : sg_M, s266 = sg_nw s262 La250.1 12400 → ∀ o267 : Int, o267 = (La250.1 : Int) → ∀ s277 : sg_M, s277 = sg_up s266 o 48 o267 → ∀ (q279 : Nat) (La280 : sg_L), La280 = sg_pu La265 10060 q279 → ∀ s281 : sg_M, s281 = sg_nw s277 La265.1 10060 → ∀ o282 : Int, o282 = (La265.1 : Int) → ∀ s292 : sg_M, s292 = sg_up s281 o 49 o282 → ∀ (q294 : Nat) (La295 : sg_L), La295 = sg_pu La280 10040 q294 → ∀ s296 : sg_M, s296 = sg_nw s292 La280.1 10040 → ∀ o297 : Int, o297 = (La280.1 : Int) → ∀ s307 : sg_M, s307 = sg_up s296 o 51 o297 → ∀ (q309 : Nat) (La310 : sg_L), La310 = sg_pu La295 10101 q309 → ∀ s311 : sg_M, s311 = sg_nw s307 La295.1 10101 → ∀ o312 : Int, o312 = (La295.1 : Int) → ∀ s322 : sg_M, s322 = sg_up s311 o 53 o312 → ∀ (q324 : Nat) (La325 : sg_L), La325 = sg_pu La310 10021 q324 → ∀ s326 : sg_M, s326 = sg_nw s322 La310.1 10021 → ∀ o327 : Int, o327 = (La310.1 : Int) → ∀ s337 : sg_M, s337 = sg_up s326 o 54 o327 → ∀ s339 : sg_M, s339 = sg_up s337 o 56 (-1) → ∀ (q341 : Nat) (La342 : sg_L), La342 = sg_pu La325 10240 q341 → ∀ s343 : sg_M, s343 = sg_nw s339 La325.1 10240 → ∀ o344 : Int, o344 = (La325.1 : Int) → ∀ s354 : sg_M, s354 = sg_up s343 o 57 o344 → sg_sealed La342 s354 o 32 12 ∧ ∀ La356 : sg_L, La356 = sg_se La342 o.toNat 12 → Q La356 s354
set_option maxHeartbeats 4000000 in
set_option maxRecDepth 100000 in
theorem CX12_init {l : Launch} {G : sg_G} {La : sg_L} {s0 : sg_M} {o : Int} (to : sg_O La o 32) {Q : sg_L → sg_M → Prop} (hf : fX12_init La s0 o Q) : sg_C l G yX12_init cX12_init 1 (none) 1 23 10709 La s0 [sg_r o] (sg_BV (sg_se La o.toNat 12) Q) := by
  refine sg_body (by decide +kernel) (Nat.le_of_ble_eq_true rfl) ?_
  intro p e s m args below meth c F hnm
  unfold fX12_init at hf
  show sg_W p l e (sg_rm 1 23 10709) s m args below meth c (MQ below (sg_Q (none) G La s.heap.size (sg_BV (sg_se La o.toNat 12) Q)) args s 23 10709 (sg_A La s.heap.size)) 1 G (sg_A La s.heap.size) La s0 0 0 0 [(0, sg_r o)] []
  have hin : meth.name = "<init>" := hnm
  refine gw_aload_n F 0 rfl rfl to.1 dX12_init_0 ?_
  refine gw_objInit F to.1 kw_955 kw_OI kw_OC (Nat.le_of_ble_eq_true rfl) (by decide) (by decide) dX12_init_1 ?_
  refine gw_aload_n F 0 rfl rfl to.1 dX12_init_4 ?_
  refine gw_sipush F rfl dX12_init_5 ?_
  refine gy_newI F (N := 540) kw_131 rfl (by decide) (by decide) (by decide) (List.forall_mem_cons.mpr ⟨(Or.inl to.2.1), (fun _ h => absurd h List.not_mem_nil)⟩) (List.forall_mem_cons.mpr ⟨(Or.inl to.2.1), (fun _ h => absurd h List.not_mem_nil)⟩) dX12_init_8 (fun q1 La2 s3 o4 e5 e6 e7 t8 hX9 => ?_)
  have hf := hf q1 La2 e5 s3 e6 o4 e7
  have hn10 : La.1 ≤ o4.toNat := by rw [e7, Int.toNat_natCast]; exact (sg_X.rf : sg_X La La).1
  have t11 := to.X hX9
  have hX12 := sg_X.tr (sg_X.rf) hX9
  have t13 := sg_AN_of (n := 540) t8 (by decide) (by decide) (by decide)
  obtain ⟨s14, e15⟩ : ∃ z : sg_M, z = sg_up s3 o 1 o4 := ⟨_, rfl⟩
  have hf := hf s14 e15
  refine gw_put5F F t11 (by decide) rfl sg_lay_RX12 (j := 1) (by decide) (D0 := tyX12 1) (fun _ => ⟨rfl, rfl⟩) t13.1 t13.2.1 e15 tyX12_ok nmX12 rfl hin rfl (tyX12_ok 1 (by decide)) rfl (host := "") kw_957 dX12_init_10 ?_
  refine gw_aload_n F 0 rfl rfl t11.1 dX12_init_13 ?_
  refine gw_sipush F rfl dX12_init_14 ?_
  refine gy_newI F (N := 2040) kw_131 rfl (by decide) (by decide) (by decide) (List.forall_mem_cons.mpr ⟨(Or.inl t11.2.1), (fun _ h => absurd h List.not_mem_nil)⟩) (List.forall_mem_cons.mpr ⟨(Or.inl t11.2.1), (fun _ h => absurd h List.not_mem_nil)⟩) dX12_init_17 (fun q16 La17 s18 o19 e20 e21 e22 t23 hX24 => ?_)
  have hf := hf q16 La17 e20 s18 e21 o19 e22
  have hn25 : La.1 ≤ o19.toNat := by rw [e22, Int.toNat_natCast]; exact (hX12 : sg_X La La2).1
  have t26 := t11.X hX24
  have hX27 := sg_X.tr (hX12) hX24
  have t28 := sg_AN_of (n := 2040) t23 (by decide) (by decide) (by decide)
  obtain ⟨s29, e30⟩ : ∃ z : sg_M, z = sg_up s18 o 14 o19 := ⟨_, rfl⟩
  have hf := hf s29 e30
  refine gw_put5F F t26 (by decide) rfl sg_lay_RX12 (j := 14) (by decide) (D0 := tyX12 14) (fun _ => ⟨rfl, rfl⟩) t28.1 t28.2.1 e30 tyX12_ok nmX12 rfl hin rfl (tyX12_ok 14 (by decide)) rfl (host := "") kw_970 dX12_init_19 ?_
  refine gw_aload_n F 0 rfl rfl t26.1 dX12_init_22 ?_
  refine gw_sipush F rfl dX12_init_23 ?_
  refine gy_newI F (N := 260) kw_131 rfl (by decide) (by decide) (by decide) (List.forall_mem_cons.mpr ⟨(Or.inl t26.2.1), (fun _ h => absurd h List.not_mem_nil)⟩) (List.forall_mem_cons.mpr ⟨(Or.inl t26.2.1), (fun _ h => absurd h List.not_mem_nil)⟩) dX12_init_26 (fun q31 La32 s33 o34 e35 e36 e37 t38 hX39 => ?_)
  have hf := hf q31 La32 e35 s33 e36 o34 e37
  have hn40 : La.1 ≤ o34.toNat := by rw [e37, Int.toNat_natCast]; exact (hX27 : sg_X La La17).1
  have t41 := t26.X hX39
  have hX42 := sg_X.tr (hX27) hX39
  have t43 := sg_AN_of (n := 260) t38 (by decide) (by decide) (by decide)
  obtain ⟨s44, e45⟩ : ∃ z : sg_M, z = sg_up s33 o 15 o34 := ⟨_, rfl⟩
  have hf := hf s44 e45
  refine gw_put5F F t41 (by decide) rfl sg_lay_RX12 (j := 15) (by decide) (D0 := tyX12 15) (fun _ => ⟨rfl, rfl⟩) t43.1 t43.2.1 e45 tyX12_ok nmX12 rfl hin rfl (tyX12_ok 15 (by decide)) rfl (host := "") kw_971 dX12_init_28 ?_
  refine gw_aload_n F 0 rfl rfl t41.1 dX12_init_31 ?_
  refine gw_sipush F rfl dX12_init_32 ?_
  refine gy_newI F (N := 4080) kw_131 rfl (by decide) (by decide) (by decide) (List.forall_mem_cons.mpr ⟨(Or.inl t41.2.1), (fun _ h => absurd h List.not_mem_nil)⟩) (List.forall_mem_cons.mpr ⟨(Or.inl t41.2.1), (fun _ h => absurd h List.not_mem_nil)⟩) dX12_init_35 (fun q46 La47 s48 o49 e50 e51 e52 t53 hX54 => ?_)
  have hf := hf q46 La47 e50 s48 e51 o49 e52
  have hn55 : La.1 ≤ o49.toNat := by rw [e52, Int.toNat_natCast]; exact (hX42 : sg_X La La32).1
  have t56 := t41.X hX54
  have hX57 := sg_X.tr (hX42) hX54
  have t58 := sg_AN_of (n := 4080) t53 (by decide) (by decide) (by decide)
  obtain ⟨s59, e60⟩ : ∃ z : sg_M, z = sg_up s48 o 16 o49 := ⟨_, rfl⟩
  have hf := hf s59 e60
  refine gw_put5F F t56 (by decide) rfl sg_lay_RX12 (j := 16) (by decide) (D0 := tyX12 16) (fun _ => ⟨rfl, rfl⟩) t58.1 t58.2.1 e60 tyX12_ok nmX12 rfl hin rfl (tyX12_ok 16 (by decide)) rfl (host := "") kw_972 dX12_init_37 ?_
  refine gw_aload_n F 0 rfl rfl t56.1 dX12_init_40 ?_
  refine gw_sipush F rfl dX12_init_41 ?_
  refine gy_newI F (N := 200) kw_131 rfl (by decide) (by decide) (by decide) (List.forall_mem_cons.mpr ⟨(Or.inl t56.2.1), (fun _ h => absurd h List.not_mem_nil)⟩) (List.forall_mem_cons.mpr ⟨(Or.inl t56.2.1), (fun _ h => absurd h List.not_mem_nil)⟩) dX12_init_44 (fun q61 La62 s63 o64 e65 e66 e67 t68 hX69 => ?_)
  have hf := hf q61 La62 e65 s63 e66 o64 e67
  have hn70 : La.1 ≤ o64.toNat := by rw [e67, Int.toNat_natCast]; exact (hX57 : sg_X La La47).1
  have t71 := t56.X hX69
  have hX72 := sg_X.tr (hX57) hX69
  have t73 := sg_AN_of (n := 200) t68 (by decide) (by decide) (by decide)
  obtain ⟨s74, e75⟩ : ∃ z : sg_M, z = sg_up s63 o 17 o64 := ⟨_, rfl⟩
  have hf := hf s74 e75
  refine gw_put5F F t71 (by decide) rfl sg_lay_RX12 (j := 17) (by decide) (D0 := tyX12 17) (fun _ => ⟨rfl, rfl⟩) t73.1 t73.2.1 e75 tyX12_ok nmX12 rfl hin rfl (tyX12_ok 17 (by decide)) rfl (host := "") kw_973 dX12_init_46 ?_
  refine gw_aload_n F 0 rfl rfl t71.1 dX12_init_49 ?_
  refine gw_sipush F rfl dX12_init_50 ?_
  refine gy_newI F (N := 200) kw_131 rfl (by decide) (by decide) (by decide) (List.forall_mem_cons.mpr ⟨(Or.inl t71.2.1), (fun _ h => absurd h List.not_mem_nil)⟩) (List.forall_mem_cons.mpr ⟨(Or.inl t71.2.1), (fun _ h => absurd h List.not_mem_nil)⟩) dX12_init_53 (fun q76 La77 s78 o79 e80 e81 e82 t83 hX84 => ?_)
  have hf := hf q76 La77 e80 s78 e81 o79 e82
  have hn85 : La.1 ≤ o79.toNat := by rw [e82, Int.toNat_natCast]; exact (hX72 : sg_X La La62).1
  have t86 := t71.X hX84
  have hX87 := sg_X.tr (hX72) hX84
  have t88 := sg_AN_of (n := 200) t83 (by decide) (by decide) (by decide)
  obtain ⟨s89, e90⟩ : ∃ z : sg_M, z = sg_up s78 o 18 o79 := ⟨_, rfl⟩
  have hf := hf s89 e90
  refine gw_put5F F t86 (by decide) rfl sg_lay_RX12 (j := 18) (by decide) (D0 := tyX12 18) (fun _ => ⟨rfl, rfl⟩) t88.1 t88.2.1 e90 tyX12_ok nmX12 rfl hin rfl (tyX12_ok 18 (by decide)) rfl (host := "") kw_974 dX12_init_55 ?_
  refine gw_aload_n F 0 rfl rfl t86.1 dX12_init_58 ?_
  refine gw_iconst F dX12_init_59 ?_
  refine gy_newZ F (N := 2) kw_1018 rfl (by decide) (by decide) (by decide) (List.forall_mem_cons.mpr ⟨(Or.inl t86.2.1), (fun _ h => absurd h List.not_mem_nil)⟩) (List.forall_mem_cons.mpr ⟨(Or.inl t86.2.1), (fun _ h => absurd h List.not_mem_nil)⟩) dX12_init_60 (fun q91 La92 s93 o94 e95 e96 e97 t98 hX99 => ?_)
  have hf := hf q91 La92 e95 s93 e96 o94 e97
  have hn100 : La.1 ≤ o94.toNat := by rw [e97, Int.toNat_natCast]; exact (hX87 : sg_X La La77).1
  have t101 := t86.X hX99
  have hX102 := sg_X.tr (hX87) hX99
  obtain ⟨s103, e104⟩ : ∃ z : sg_M, z = sg_up s93 o 19 o94 := ⟨_, rfl⟩
  have hf := hf s103 e104
  refine gw_put5F F t101 (by decide) rfl sg_lay_RX12 (j := 19) (by decide) (D0 := tyX12 19) (fun _ => ⟨rfl, rfl⟩) t98.1 t98.2.1 e104 tyX12_ok nmX12 rfl hin rfl (tyX12_ok 19 (by decide)) rfl (host := "") kw_975 dX12_init_62 ?_
  refine gw_aload_n F 0 rfl rfl t101.1 dX12_init_65 ?_
  refine gw_bipush F rfl dX12_init_66 ?_
  refine gy_newI F (N := 60) kw_131 rfl (by decide) (by decide) (by decide) (List.forall_mem_cons.mpr ⟨(Or.inl t101.2.1), (fun _ h => absurd h List.not_mem_nil)⟩) (List.forall_mem_cons.mpr ⟨(Or.inl t101.2.1), (fun _ h => absurd h List.not_mem_nil)⟩) dX12_init_68 (fun q105 La106 s107 o108 e109 e110 e111 t112 hX113 => ?_)
  have hf := hf q105 La106 e109 s107 e110 o108 e111
  have hn114 : La.1 ≤ o108.toNat := by rw [e111, Int.toNat_natCast]; exact (hX102 : sg_X La La92).1
  have t115 := t101.X hX113
  have hX116 := sg_X.tr (hX102) hX113
  have t117 := sg_AN_of (n := 60) t112 (by decide) (by decide) (by decide)
  obtain ⟨s118, e119⟩ : ∃ z : sg_M, z = sg_up s107 o 22 o108 := ⟨_, rfl⟩
  have hf := hf s118 e119
  refine gw_put5F F t115 (by decide) rfl sg_lay_RX12 (j := 22) (by decide) (D0 := tyX12 22) (fun _ => ⟨rfl, rfl⟩) t117.1 t117.2.1 e119 tyX12_ok nmX12 rfl hin rfl (tyX12_ok 22 (by decide)) rfl (host := "") kw_978 dX12_init_70 ?_
  refine gw_aload_n F 0 rfl rfl t115.1 dX12_init_73 ?_
  refine gw_bipush F rfl dX12_init_74 ?_
  refine gy_newI F (N := 60) kw_131 rfl (by decide) (by decide) (by decide) (List.forall_mem_cons.mpr ⟨(Or.inl t115.2.1), (fun _ h => absurd h List.not_mem_nil)⟩) (List.forall_mem_cons.mpr ⟨(Or.inl t115.2.1), (fun _ h => absurd h List.not_mem_nil)⟩) dX12_init_76 (fun q120 La121 s122 o123 e124 e125 e126 t127 hX128 => ?_)
  have hf := hf q120 La121 e124 s122 e125 o123 e126
  have hn129 : La.1 ≤ o123.toNat := by rw [e126, Int.toNat_natCast]; exact (hX116 : sg_X La La106).1
  have t130 := t115.X hX128
  have hX131 := sg_X.tr (hX116) hX128
  have t132 := sg_AN_of (n := 60) t127 (by decide) (by decide) (by decide)
  obtain ⟨s133, e134⟩ : ∃ z : sg_M, z = sg_up s122 o 23 o123 := ⟨_, rfl⟩
  have hf := hf s133 e134
  refine gw_put5F F t130 (by decide) rfl sg_lay_RX12 (j := 23) (by decide) (D0 := tyX12 23) (fun _ => ⟨rfl, rfl⟩) t132.1 t132.2.1 e134 tyX12_ok nmX12 rfl hin rfl (tyX12_ok 23 (by decide)) rfl (host := "") kw_979 dX12_init_78 ?_
  refine gw_aload_n F 0 rfl rfl t130.1 dX12_init_81 ?_
  refine gw_bipush F rfl dX12_init_82 ?_
  refine gy_newI F (N := 60) kw_131 rfl (by decide) (by decide) (by decide) (List.forall_mem_cons.mpr ⟨(Or.inl t130.2.1), (fun _ h => absurd h List.not_mem_nil)⟩) (List.forall_mem_cons.mpr ⟨(Or.inl t130.2.1), (fun _ h => absurd h List.not_mem_nil)⟩) dX12_init_84 (fun q135 La136 s137 o138 e139 e140 e141 t142 hX143 => ?_)
  have hf := hf q135 La136 e139 s137 e140 o138 e141
  have hn144 : La.1 ≤ o138.toNat := by rw [e141, Int.toNat_natCast]; exact (hX131 : sg_X La La121).1
  have t145 := t130.X hX143
  have hX146 := sg_X.tr (hX131) hX143
  have t147 := sg_AN_of (n := 60) t142 (by decide) (by decide) (by decide)
  obtain ⟨s148, e149⟩ : ∃ z : sg_M, z = sg_up s137 o 24 o138 := ⟨_, rfl⟩
  have hf := hf s148 e149
  refine gw_put5F F t145 (by decide) rfl sg_lay_RX12 (j := 24) (by decide) (D0 := tyX12 24) (fun _ => ⟨rfl, rfl⟩) t147.1 t147.2.1 e149 tyX12_ok nmX12 rfl hin rfl (tyX12_ok 24 (by decide)) rfl (host := "") kw_980 dX12_init_86 ?_
  refine gw_aload_n F 0 rfl rfl t145.1 dX12_init_89 ?_
  refine gw_bipush F rfl dX12_init_90 ?_
  refine gy_newI F (N := 60) kw_131 rfl (by decide) (by decide) (by decide) (List.forall_mem_cons.mpr ⟨(Or.inl t145.2.1), (fun _ h => absurd h List.not_mem_nil)⟩) (List.forall_mem_cons.mpr ⟨(Or.inl t145.2.1), (fun _ h => absurd h List.not_mem_nil)⟩) dX12_init_92 (fun q150 La151 s152 o153 e154 e155 e156 t157 hX158 => ?_)
  have hf := hf q150 La151 e154 s152 e155 o153 e156
  have hn159 : La.1 ≤ o153.toNat := by rw [e156, Int.toNat_natCast]; exact (hX146 : sg_X La La136).1
  have t160 := t145.X hX158
  have hX161 := sg_X.tr (hX146) hX158
  have t162 := sg_AN_of (n := 60) t157 (by decide) (by decide) (by decide)
  obtain ⟨s163, e164⟩ : ∃ z : sg_M, z = sg_up s152 o 25 o153 := ⟨_, rfl⟩
  have hf := hf s163 e164
  refine gw_put5F F t160 (by decide) rfl sg_lay_RX12 (j := 25) (by decide) (D0 := tyX12 25) (fun _ => ⟨rfl, rfl⟩) t162.1 t162.2.1 e164 tyX12_ok nmX12 rfl hin rfl (tyX12_ok 25 (by decide)) rfl (host := "") kw_981 dX12_init_94 ?_
  refine gw_aload_n F 0 rfl rfl t160.1 dX12_init_97 ?_
  refine gw_bipush F rfl dX12_init_98 ?_
  refine gy_newZ F (N := 60) kw_1018 rfl (by decide) (by decide) (by decide) (List.forall_mem_cons.mpr ⟨(Or.inl t160.2.1), (fun _ h => absurd h List.not_mem_nil)⟩) (List.forall_mem_cons.mpr ⟨(Or.inl t160.2.1), (fun _ h => absurd h List.not_mem_nil)⟩) dX12_init_100 (fun q165 La166 s167 o168 e169 e170 e171 t172 hX173 => ?_)
  have hf := hf q165 La166 e169 s167 e170 o168 e171
  have hn174 : La.1 ≤ o168.toNat := by rw [e171, Int.toNat_natCast]; exact (hX161 : sg_X La La151).1
  have t175 := t160.X hX173
  have hX176 := sg_X.tr (hX161) hX173
  obtain ⟨s177, e178⟩ : ∃ z : sg_M, z = sg_up s167 o 26 o168 := ⟨_, rfl⟩
  have hf := hf s177 e178
  refine gw_put5F F t175 (by decide) rfl sg_lay_RX12 (j := 26) (by decide) (D0 := tyX12 26) (fun _ => ⟨rfl, rfl⟩) t172.1 t172.2.1 e178 tyX12_ok nmX12 rfl hin rfl (tyX12_ok 26 (by decide)) rfl (host := "") kw_982 dX12_init_102 ?_
  refine gw_aload_n F 0 rfl rfl t175.1 dX12_init_105 ?_
  refine gw_iconst F dX12_init_106 ?_
  refine gy_newI F (N := 5) kw_131 rfl (by decide) (by decide) (by decide) (List.forall_mem_cons.mpr ⟨(Or.inl t175.2.1), (fun _ h => absurd h List.not_mem_nil)⟩) (List.forall_mem_cons.mpr ⟨(Or.inl t175.2.1), (fun _ h => absurd h List.not_mem_nil)⟩) dX12_init_107 (fun q179 La180 s181 o182 e183 e184 e185 t186 hX187 => ?_)
  have hf := hf q179 La180 e183 s181 e184 o182 e185
  have hn188 : La.1 ≤ o182.toNat := by rw [e185, Int.toNat_natCast]; exact (hX176 : sg_X La La166).1
  have t189 := t175.X hX187
  have hX190 := sg_X.tr (hX176) hX187
  have t191 := sg_AN_of (n := 5) t186 (by decide) (by decide) (by decide)
  refine gw_dup F rfl dX12_init_109 ?_
  refine gw_iconst F dX12_init_110 ?_
  refine gw_iconst F dX12_init_111 ?_
  obtain ⟨s192, e193⟩ : ∃ z : sg_M, z = sg_up s181 o182 0 (-1) := ⟨_, rfl⟩
  have hf := hf s192 e193
  refine gw_iast F t191 (by decide) (by decide) (by decide) e193 dX12_init_112 ?_
  refine gw_dup F rfl dX12_init_113 ?_
  refine gw_iconst F dX12_init_114 ?_
  refine gw_iconst F dX12_init_115 ?_
  obtain ⟨s194, e195⟩ : ∃ z : sg_M, z = sg_up s192 o182 1 (-1) := ⟨_, rfl⟩
  have hf := hf s194 e195
  refine gw_iast F t191 (by decide) (by decide) (by decide) e195 dX12_init_116 ?_
  refine gw_dup F rfl dX12_init_117 ?_
  refine gw_iconst F dX12_init_118 ?_
  refine gw_iconst F dX12_init_119 ?_
  obtain ⟨s196, e197⟩ : ∃ z : sg_M, z = sg_up s194 o182 2 (-1) := ⟨_, rfl⟩
  have hf := hf s196 e197
  refine gw_iast F t191 (by decide) (by decide) (by decide) e197 dX12_init_120 ?_
  refine gw_dup F rfl dX12_init_121 ?_
  refine gw_iconst F dX12_init_122 ?_
  refine gw_iconst F dX12_init_123 ?_
  obtain ⟨s198, e199⟩ : ∃ z : sg_M, z = sg_up s196 o182 3 (-1) := ⟨_, rfl⟩
  have hf := hf s198 e199
  refine gw_iast F t191 (by decide) (by decide) (by decide) e199 dX12_init_124 ?_
  refine gw_dup F rfl dX12_init_125 ?_
  refine gw_iconst F dX12_init_126 ?_
  refine gw_iconst F dX12_init_127 ?_
  obtain ⟨s200, e201⟩ : ∃ z : sg_M, z = sg_up s198 o182 4 (-1) := ⟨_, rfl⟩
  have hf := hf s200 e201
  refine gw_iast F t191 (by decide) (by decide) (by decide) e201 dX12_init_128 ?_
  obtain ⟨s202, e203⟩ : ∃ z : sg_M, z = sg_up s200 o 34 o182 := ⟨_, rfl⟩
  have hf := hf s202 e203
  refine gw_put5F F t189 (by decide) rfl sg_lay_RX12 (j := 34) (by decide) (D0 := tyX12 34) (fun _ => ⟨rfl, rfl⟩) t191.1 t191.2.1 e203 tyX12_ok nmX12 rfl hin rfl (tyX12_ok 34 (by decide)) rfl (host := "") kw_990 dX12_init_129 ?_
  refine gw_aload_n F 0 rfl rfl t189.1 dX12_init_132 ?_
  refine gw_bipush F rfl dX12_init_133 ?_
  refine gy_newI F (N := 60) kw_131 rfl (by decide) (by decide) (by decide) (List.forall_mem_cons.mpr ⟨(Or.inl t189.2.1), (fun _ h => absurd h List.not_mem_nil)⟩) (List.forall_mem_cons.mpr ⟨(Or.inl t189.2.1), (fun _ h => absurd h List.not_mem_nil)⟩) dX12_init_135 (fun q204 La205 s206 o207 e208 e209 e210 t211 hX212 => ?_)
  have hf := hf q204 La205 e208 s206 e209 o207 e210
  have hn213 : La.1 ≤ o207.toNat := by rw [e210, Int.toNat_natCast]; exact (hX190 : sg_X La La180).1
  have t214 := t189.X hX212
  have hX215 := sg_X.tr (hX190) hX212
  have t216 := sg_AN_of (n := 60) t211 (by decide) (by decide) (by decide)
  obtain ⟨s217, e218⟩ : ∃ z : sg_M, z = sg_up s206 o 35 o207 := ⟨_, rfl⟩
  have hf := hf s217 e218
  refine gw_put5F F t214 (by decide) rfl sg_lay_RX12 (j := 35) (by decide) (D0 := tyX12 35) (fun _ => ⟨rfl, rfl⟩) t216.1 t216.2.1 e218 tyX12_ok nmX12 rfl hin rfl (tyX12_ok 35 (by decide)) rfl (host := "") kw_991 dX12_init_137 ?_
  refine gw_aload_n F 0 rfl rfl t214.1 dX12_init_140 ?_
  refine gw_bipush F rfl dX12_init_141 ?_
  refine gy_newI F (N := 60) kw_131 rfl (by decide) (by decide) (by decide) (List.forall_mem_cons.mpr ⟨(Or.inl t214.2.1), (fun _ h => absurd h List.not_mem_nil)⟩) (List.forall_mem_cons.mpr ⟨(Or.inl t214.2.1), (fun _ h => absurd h List.not_mem_nil)⟩) dX12_init_143 (fun q219 La220 s221 o222 e223 e224 e225 t226 hX227 => ?_)
  have hf := hf q219 La220 e223 s221 e224 o222 e225
  have hn228 : La.1 ≤ o222.toNat := by rw [e225, Int.toNat_natCast]; exact (hX215 : sg_X La La205).1
  have t229 := t214.X hX227
  have hX230 := sg_X.tr (hX215) hX227
  have t231 := sg_AN_of (n := 60) t226 (by decide) (by decide) (by decide)
  obtain ⟨s232, e233⟩ : ∃ z : sg_M, z = sg_up s221 o 36 o222 := ⟨_, rfl⟩
  have hf := hf s232 e233
  refine gw_put5F F t229 (by decide) rfl sg_lay_RX12 (j := 36) (by decide) (D0 := tyX12 36) (fun _ => ⟨rfl, rfl⟩) t231.1 t231.2.1 e233 tyX12_ok nmX12 rfl hin rfl (tyX12_ok 36 (by decide)) rfl (host := "") kw_992 dX12_init_145 ?_
  refine gw_aload_n F 0 rfl rfl t229.1 dX12_init_148 ?_
  refine gw_bipush F rfl dX12_init_149 ?_
  refine gy_newI F (N := 40) kw_131 rfl (by decide) (by decide) (by decide) (List.forall_mem_cons.mpr ⟨(Or.inl t229.2.1), (fun _ h => absurd h List.not_mem_nil)⟩) (List.forall_mem_cons.mpr ⟨(Or.inl t229.2.1), (fun _ h => absurd h List.not_mem_nil)⟩) dX12_init_151 (fun q234 La235 s236 o237 e238 e239 e240 t241 hX242 => ?_)
  have hf := hf q234 La235 e238 s236 e239 o237 e240
  have hn243 : La.1 ≤ o237.toNat := by rw [e240, Int.toNat_natCast]; exact (hX230 : sg_X La La220).1
  have t244 := t229.X hX242
  have hX245 := sg_X.tr (hX230) hX242
  have t246 := sg_AN_of (n := 40) t241 (by decide) (by decide) (by decide)
  obtain ⟨s247, e248⟩ : ∃ z : sg_M, z = sg_up s236 o 46 o237 := ⟨_, rfl⟩
  have hf := hf s247 e248
  refine gw_put5F F t244 (by decide) rfl sg_lay_RX12 (j := 46) (by decide) (D0 := tyX12 46) (fun _ => ⟨rfl, rfl⟩) t246.1 t246.2.1 e248 tyX12_ok nmX12 rfl hin rfl (tyX12_ok 46 (by decide)) rfl (host := "") kw_1002 dX12_init_153 ?_
  refine gw_aload_n F 0 rfl rfl t244.1 dX12_init_156 ?_
  refine gw_bipush F rfl dX12_init_157 ?_
  refine gy_newI F (N := 60) kw_131 rfl (by decide) (by decide) (by decide) (List.forall_mem_cons.mpr ⟨(Or.inl t244.2.1), (fun _ h => absurd h List.not_mem_nil)⟩) (List.forall_mem_cons.mpr ⟨(Or.inl t244.2.1), (fun _ h => absurd h List.not_mem_nil)⟩) dX12_init_159 (fun q249 La250 s251 o252 e253 e254 e255 t256 hX257 => ?_)
  have hf := hf q249 La250 e253 s251 e254 o252 e255
  have hn258 : La.1 ≤ o252.toNat := by rw [e255, Int.toNat_natCast]; exact (hX245 : sg_X La La235).1
  have t259 := t244.X hX257
  have hX260 := sg_X.tr (hX245) hX257
  have t261 := sg_AN_of (n := 60) t256 (by decide) (by decide) (by decide)
  obtain ⟨s262, e263⟩ : ∃ z : sg_M, z = sg_up s251 o 47 o252 := ⟨_, rfl⟩
  have hf := hf s262 e263
  refine gw_put5F F t259 (by decide) rfl sg_lay_RX12 (j := 47) (by decide) (D0 := tyX12 47) (fun _ => ⟨rfl, rfl⟩) t261.1 t261.2.1 e263 tyX12_ok nmX12 rfl hin rfl (tyX12_ok 47 (by decide)) rfl (host := "") kw_1003 dX12_init_161 ?_
  refine gw_aload_n F 0 rfl rfl t259.1 dX12_init_164 ?_
  refine gw_sipush F rfl dX12_init_165 ?_
  refine gy_newI F (N := 2400) kw_131 rfl (by decide) (by decide) (by decide) (List.forall_mem_cons.mpr ⟨(Or.inl t259.2.1), (fun _ h => absurd h List.not_mem_nil)⟩) (List.forall_mem_cons.mpr ⟨(Or.inl t259.2.1), (fun _ h => absurd h List.not_mem_nil)⟩) dX12_init_168 (fun q264 La265 s266 o267 e268 e269 e270 t271 hX272 => ?_)
  have hf := hf q264 La265 e268 s266 e269 o267 e270
  have hn273 : La.1 ≤ o267.toNat := by rw [e270, Int.toNat_natCast]; exact (hX260 : sg_X La La250).1
  have t274 := t259.X hX272
  have hX275 := sg_X.tr (hX260) hX272
  have t276 := sg_AN_of (n := 2400) t271 (by decide) (by decide) (by decide)
  obtain ⟨s277, e278⟩ : ∃ z : sg_M, z = sg_up s266 o 48 o267 := ⟨_, rfl⟩
  have hf := hf s277 e278
  refine gw_put5F F t274 (by decide) rfl sg_lay_RX12 (j := 48) (by decide) (D0 := tyX12 48) (fun _ => ⟨rfl, rfl⟩) t276.1 t276.2.1 e278 tyX12_ok nmX12 rfl hin rfl (tyX12_ok 48 (by decide)) rfl (host := "") kw_1004 dX12_init_170 ?_
  refine gw_aload_n F 0 rfl rfl t274.1 dX12_init_173 ?_
  refine gw_bipush F rfl dX12_init_174 ?_
  refine gy_newI F (N := 60) kw_131 rfl (by decide) (by decide) (by decide) (List.forall_mem_cons.mpr ⟨(Or.inl t274.2.1), (fun _ h => absurd h List.not_mem_nil)⟩) (List.forall_mem_cons.mpr ⟨(Or.inl t274.2.1), (fun _ h => absurd h List.not_mem_nil)⟩) dX12_init_176 (fun q279 La280 s281 o282 e283 e284 e285 t286 hX287 => ?_)
  have hf := hf q279 La280 e283 s281 e284 o282 e285
  have hn288 : La.1 ≤ o282.toNat := by rw [e285, Int.toNat_natCast]; exact (hX275 : sg_X La La265).1
  have t289 := t274.X hX287
  have hX290 := sg_X.tr (hX275) hX287
  have t291 := sg_AN_of (n := 60) t286 (by decide) (by decide) (by decide)
  obtain ⟨s292, e293⟩ : ∃ z : sg_M, z = sg_up s281 o 49 o282 := ⟨_, rfl⟩
  have hf := hf s292 e293
  refine gw_put5F F t289 (by decide) rfl sg_lay_RX12 (j := 49) (by decide) (D0 := tyX12 49) (fun _ => ⟨rfl, rfl⟩) t291.1 t291.2.1 e293 tyX12_ok nmX12 rfl hin rfl (tyX12_ok 49 (by decide)) rfl (host := "") kw_1005 dX12_init_178 ?_
  refine gw_aload_n F 0 rfl rfl t289.1 dX12_init_181 ?_
  refine gw_bipush F rfl dX12_init_182 ?_
  refine gy_newI F (N := 40) kw_131 rfl (by decide) (by decide) (by decide) (List.forall_mem_cons.mpr ⟨(Or.inl t289.2.1), (fun _ h => absurd h List.not_mem_nil)⟩) (List.forall_mem_cons.mpr ⟨(Or.inl t289.2.1), (fun _ h => absurd h List.not_mem_nil)⟩) dX12_init_184 (fun q294 La295 s296 o297 e298 e299 e300 t301 hX302 => ?_)
  have hf := hf q294 La295 e298 s296 e299 o297 e300
  have hn303 : La.1 ≤ o297.toNat := by rw [e300, Int.toNat_natCast]; exact (hX290 : sg_X La La280).1
  have t304 := t289.X hX302
  have hX305 := sg_X.tr (hX290) hX302
  have t306 := sg_AN_of (n := 40) t301 (by decide) (by decide) (by decide)
  obtain ⟨s307, e308⟩ : ∃ z : sg_M, z = sg_up s296 o 51 o297 := ⟨_, rfl⟩
  have hf := hf s307 e308
  refine gw_put5F F t304 (by decide) rfl sg_lay_RX12 (j := 51) (by decide) (D0 := tyX12 51) (fun _ => ⟨rfl, rfl⟩) t306.1 t306.2.1 e308 tyX12_ok nmX12 rfl hin rfl (tyX12_ok 51 (by decide)) rfl (host := "") kw_1007 dX12_init_186 ?_
  refine gw_aload_n F 0 rfl rfl t304.1 dX12_init_189 ?_
  refine gw_bipush F rfl dX12_init_190 ?_
  refine gy_newI F (N := 101) kw_131 rfl (by decide) (by decide) (by decide) (List.forall_mem_cons.mpr ⟨(Or.inl t304.2.1), (fun _ h => absurd h List.not_mem_nil)⟩) (List.forall_mem_cons.mpr ⟨(Or.inl t304.2.1), (fun _ h => absurd h List.not_mem_nil)⟩) dX12_init_192 (fun q309 La310 s311 o312 e313 e314 e315 t316 hX317 => ?_)
  have hf := hf q309 La310 e313 s311 e314 o312 e315
  have hn318 : La.1 ≤ o312.toNat := by rw [e315, Int.toNat_natCast]; exact (hX305 : sg_X La La295).1
  have t319 := t304.X hX317
  have hX320 := sg_X.tr (hX305) hX317
  have t321 := sg_AN_of (n := 101) t316 (by decide) (by decide) (by decide)
  obtain ⟨s322, e323⟩ : ∃ z : sg_M, z = sg_up s311 o 53 o312 := ⟨_, rfl⟩
  have hf := hf s322 e323
  refine gw_put5F F t319 (by decide) rfl sg_lay_RX12 (j := 53) (by decide) (D0 := tyX12 53) (fun _ => ⟨rfl, rfl⟩) t321.1 t321.2.1 e323 tyX12_ok nmX12 rfl hin rfl (tyX12_ok 53 (by decide)) rfl (host := "") kw_1009 dX12_init_194 ?_
  refine gw_aload_n F 0 rfl rfl t319.1 dX12_init_197 ?_
  refine gw_bipush F rfl dX12_init_198 ?_
  refine gy_newI F (N := 21) kw_131 rfl (by decide) (by decide) (by decide) (List.forall_mem_cons.mpr ⟨(Or.inl t319.2.1), (fun _ h => absurd h List.not_mem_nil)⟩) (List.forall_mem_cons.mpr ⟨(Or.inl t319.2.1), (fun _ h => absurd h List.not_mem_nil)⟩) dX12_init_200 (fun q324 La325 s326 o327 e328 e329 e330 t331 hX332 => ?_)
  have hf := hf q324 La325 e328 s326 e329 o327 e330
  have hn333 : La.1 ≤ o327.toNat := by rw [e330, Int.toNat_natCast]; exact (hX320 : sg_X La La310).1
  have t334 := t319.X hX332
  have hX335 := sg_X.tr (hX320) hX332
  have t336 := sg_AN_of (n := 21) t331 (by decide) (by decide) (by decide)
  obtain ⟨s337, e338⟩ : ∃ z : sg_M, z = sg_up s326 o 54 o327 := ⟨_, rfl⟩
  have hf := hf s337 e338
  refine gw_put5F F t334 (by decide) rfl sg_lay_RX12 (j := 54) (by decide) (D0 := tyX12 54) (fun _ => ⟨rfl, rfl⟩) t336.1 t336.2.1 e338 tyX12_ok nmX12 rfl hin rfl (tyX12_ok 54 (by decide)) rfl (host := "") kw_1010 dX12_init_202 ?_
  refine gw_aload_n F 0 rfl rfl t334.1 dX12_init_205 ?_
  refine gw_iconst F dX12_init_206 ?_
  obtain ⟨s339, e340⟩ : ∃ z : sg_M, z = sg_up s337 o 56 (-1) := ⟨_, rfl⟩
  have hf := hf s339 e340
  refine gw_put0 F t334 (by decide) rfl sg_lay_RX12 (j := 56) (by decide) (by decide) e340 tyX12_ok nmX12 rfl (tyX12_ok 56 (by decide)) rfl (host := "") (.inl kw_1012) dX12_init_207 ?_
  refine gw_aload_n F 0 rfl rfl t334.1 dX12_init_210 ?_
  refine gw_sipush F rfl dX12_init_211 ?_
  refine gy_newI F (N := 240) kw_131 rfl (by decide) (by decide) (by decide) (List.forall_mem_cons.mpr ⟨(Or.inl t334.2.1), (fun _ h => absurd h List.not_mem_nil)⟩) (List.forall_mem_cons.mpr ⟨(Or.inl t334.2.1), (fun _ h => absurd h List.not_mem_nil)⟩) dX12_init_214 (fun q341 La342 s343 o344 e345 e346 e347 t348 hX349 => ?_)
  have hf := hf q341 La342 e345 s343 e346 o344 e347
  have hn350 : La.1 ≤ o344.toNat := by rw [e347, Int.toNat_natCast]; exact (hX335 : sg_X La La325).1
  have t351 := t334.X hX349
  have hX352 := sg_X.tr (hX335) hX349
  have t353 := sg_AN_of (n := 240) t348 (by decide) (by decide) (by decide)
  obtain ⟨s354, e355⟩ : ∃ z : sg_M, z = sg_up s343 o 57 o344 := ⟨_, rfl⟩
  have hf := hf s354 e355
  refine gw_put5F F t351 (by decide) rfl sg_lay_RX12 (j := 57) (by decide) (D0 := tyX12 57) (fun _ => ⟨rfl, rfl⟩) t353.1 t353.2.1 e355 tyX12_ok nmX12 rfl hin rfl (tyX12_ok 57 (by decide)) rfl (host := "") kw_1013 dX12_init_216 ?_
  obtain ⟨g357, hf⟩ := hf
  obtain ⟨La356, e358⟩ : ∃ z : sg_L, z = sg_se La342 o.toNat 12 := ⟨_, rfl⟩
  have hf := hf La356 e358
  refine gy_seal t351 ⟨by decide, by decide, by decide⟩ (by decide) (by decide) g357 e358 ?_
  exact gr_BC F (o := o.toNat) (kd := 12) hf (by rw [e358]; exact sg_X.both hX352) (by decide) (by decide) dX12_init_219

theorem dX4_init_0 : decode cX4_init 0 = .ok (.aload_n 0, 1) := by decide +kernel
theorem dX4_init_1 : decode cX4_init 1 = .ok (.invokespecial 3, 3) := by decide +kernel
theorem dX4_init_4 : decode cX4_init 4 = .ok (.aload_n 0, 1) := by decide +kernel
theorem dX4_init_5 : decode cX4_init 5 = .ok (.iconst 0, 1) := by decide +kernel
theorem dX4_init_6 : decode cX4_init 6 = .ok (.putfield 9, 3) := by decide +kernel
theorem dX4_init_9 : decode cX4_init 9 = .ok (.aload_n 0, 1) := by decide +kernel
theorem dX4_init_10 : decode cX4_init 10 = .ok (.iconst 0, 1) := by decide +kernel
theorem dX4_init_11 : decode cX4_init 11 = .ok (.putfield 15, 3) := by decide +kernel
theorem dX4_init_14 : decode cX4_init 14 = .ok (.aload_n 0, 1) := by decide +kernel
theorem dX4_init_15 : decode cX4_init 15 = .ok (.iconst 0, 1) := by decide +kernel
theorem dX4_init_16 : decode cX4_init 16 = .ok (.iload_n 1, 1) := by decide +kernel
theorem dX4_init_17 : decode cX4_init 17 = .ok (.invokestatic 19, 3) := by decide +kernel
theorem dX4_init_20 : decode cX4_init 20 = .ok (.newarray .int, 2) := by decide +kernel
theorem dX4_init_22 : decode cX4_init 22 = .ok (.putfield 25, 3) := by decide +kernel
theorem dX4_init_25 : decode cX4_init 25 = .ok (.return_, 1) := by decide +kernel
theorem hcX4_init : yX4_init.cls ≠ "java/lang/invoke/MethodHandle" ∧ yX4_init.cls ≠ "java/lang/invoke/VarHandle" ∧ (parseMethodDescriptor yX4_init.desc).map (fun d => d.parameters.length) = some 1 := ⟨by decide +kernel, by decide +kernel, by decide +kernel⟩
def fX4_init (La : sg_L) (s0 : sg_M) (o : Int) (x1 : Int) (Q : sg_L → sg_M → Prop) : Prop := ∀ s1 : sg_M, s1 = sg_up s0 o 1 0 → ∀ s3 : sg_M, s3 = sg_up s1 o 2 0 → (0 ≤ (sg_max 0 x1) ∧ (sg_max 0 x1) ≤ 200) ∧ ∀ (q5 : Nat) (La6 : sg_L), La6 = sg_pu La (10000 + (Int.toNat (sg_max 0 x1))) q5 → ∀ s7 : sg_M, s7 = sg_nw s3 La.1 (10000 + (Int.toNat (sg_max 0 x1))) → ∀ o8 : Int, o8 = (La.1 : Int) → ∀ s19 : sg_M, s19 = sg_up s7 o 0 o8 → sg_sealed La6 s19 o 24 4 ∧ ∀ La21 : sg_L, La21 = sg_se La6 o.toNat 4 → Q La21 s19
set_option maxHeartbeats 4000000 in
set_option maxRecDepth 100000 in
theorem CX4_init {l : Launch} {G : sg_G} {La : sg_L} {s0 : sg_M} {o : Int} (to : sg_O La o 24) {x1 : Int} (r1 : sg_R x1) {Q : sg_L → sg_M → Prop} (hf : fX4_init La s0 o x1 Q) : sg_C l G yX4_init cX4_init 2 (none) 1 1 200 La s0 [sg_r o, sg_i x1] (sg_BV (sg_se La o.toNat 4) Q) := by
  refine sg_body (by decide +kernel) (Nat.le_of_ble_eq_true rfl) ?_
  intro p e s m args below meth c F hnm
  unfold fX4_init at hf
  show sg_W p l e (sg_rm 1 1 200) s m args below meth c (MQ below (sg_Q (none) G La s.heap.size (sg_BV (sg_se La o.toNat 4) Q)) args s 1 200 (sg_A La s.heap.size)) 2 G (sg_A La s.heap.size) La s0 0 0 0 [(0, sg_r o), (1, sg_i x1)] []
  have hin : meth.name = "<init>" := hnm
  refine gw_aload_n F 0 rfl rfl to.1 dX4_init_0 ?_
  refine gw_objInit F to.1 kw_195 kw_OI kw_OC (Nat.le_of_ble_eq_true rfl) (by decide) (by decide) dX4_init_1 ?_
  refine gw_aload_n F 0 rfl rfl to.1 dX4_init_4 ?_
  refine gw_iconst F dX4_init_5 ?_
  obtain ⟨s1, e2⟩ : ∃ z : sg_M, z = sg_up s0 o 1 0 := ⟨_, rfl⟩
  have hf := hf s1 e2
  refine gw_put0 F to (by decide) rfl sg_lay_RX4 (j := 1) (by decide) (by decide) e2 tyX4_ok nmX4 rfl (tyX4_ok 1 (by decide)) rfl (host := "") (.inl kw_200) dX4_init_6 ?_
  refine gw_aload_n F 0 rfl rfl to.1 dX4_init_9 ?_
  refine gw_iconst F dX4_init_10 ?_
  obtain ⟨s3, e4⟩ : ∃ z : sg_M, z = sg_up s1 o 2 0 := ⟨_, rfl⟩
  have hf := hf s3 e4
  refine gw_put1 F to (by decide) rfl sg_lay_RX4 (j := 2) (by decide) (by decide) e4 tyX4_ok nmX4 rfl (tyX4_ok 2 (by decide)) rfl (host := "") (.inl kw_205) dX4_init_11 ?_
  refine gw_aload_n F 0 rfl rfl to.1 dX4_init_14 ?_
  refine gw_iconst F dX4_init_15 ?_
  refine gw_iload_n F 1 rfl rfl dX4_init_16 ?_
  refine gw_max F (by decide) r1 rfl kw_196 kw_max1 kw_math kw_max2 (Nat.le_of_ble_eq_true rfl) (by decide) (by decide) (by decide) (by decide) dX4_init_17 ?_
  obtain ⟨⟨b140, b141⟩, hf⟩ := hf
  refine gy_newI F (N := (Int.toNat (sg_max 0 x1))) kw_131 (Int.toNat_of_nonneg b140) (by omega) (by decide) (by simp only [sg_rm]; omega) (List.forall_mem_cons.mpr ⟨(Or.inl to.2.1), (List.forall_mem_cons.mpr ⟨True.intro, (fun _ h => absurd h List.not_mem_nil)⟩)⟩) (List.forall_mem_cons.mpr ⟨(Or.inl to.2.1), (fun _ h => absurd h List.not_mem_nil)⟩) dX4_init_20 (fun q5 La6 s7 o8 e9 e10 e11 t12 hX13 => ?_)
  have hf := hf q5 La6 e9 s7 e10 o8 e11
  have hn15 : La.1 ≤ o8.toNat := by rw [e11, Int.toNat_natCast]; exact (sg_X.rf : sg_X La La).1
  have t16 := to.X hX13
  have hX17 := sg_X.tr (sg_X.rf) hX13
  refine gw_widen (k := (0 + 1)) (n := (0 + 200)) (Nat.le_refl _) (by omega) ?_
  have t18 := sg_AN_of (n := (sg_max 0 x1)) t12 (by omega) (by omega) (by omega)
  obtain ⟨s19, e20⟩ : ∃ z : sg_M, z = sg_up s7 o 0 o8 := ⟨_, rfl⟩
  have hf := hf s19 e20
  refine gw_put5F F t16 (by decide) rfl sg_lay_RX4 (j := 0) (by decide) (D0 := tyX4 0) (fun _ => ⟨rfl, rfl⟩) t18.1 t18.2.1 e20 tyX4_ok nmX4 rfl hin rfl (tyX4_ok 0 (by decide)) rfl (host := "") kw_199 dX4_init_22 ?_
  obtain ⟨g22, hf⟩ := hf
  obtain ⟨La21, e23⟩ : ∃ z : sg_L, z = sg_se La6 o.toNat 4 := ⟨_, rfl⟩
  have hf := hf La21 e23
  refine gy_seal t16 ⟨by decide, by decide, by decide⟩ (by decide) (by decide) g22 e23 ?_
  exact gr_BC F (o := o.toNat) (kd := 4) hf (by rw [e23]; exact sg_X.both hX17) (by decide) (by decide) dX4_init_25

theorem dX0_init_0 : decode cX0_init 0 = .ok (.aload_n 0, 1) := by decide +kernel
theorem dX0_init_1 : decode cX0_init 1 = .ok (.invokespecial 3, 3) := by decide +kernel
theorem dX0_init_4 : decode cX0_init 4 = .ok (.aload_n 0, 1) := by decide +kernel
theorem dX0_init_5 : decode cX0_init 5 = .ok (.bipush 60, 2) := by decide +kernel
theorem dX0_init_7 : decode cX0_init 7 = .ok (.newarray .int, 2) := by decide +kernel
theorem dX0_init_9 : decode cX0_init 9 = .ok (.putfield 9, 3) := by decide +kernel
theorem dX0_init_12 : decode cX0_init 12 = .ok (.aload_n 0, 1) := by decide +kernel
theorem dX0_init_13 : decode cX0_init 13 = .ok (.bipush 60, 2) := by decide +kernel
theorem dX0_init_15 : decode cX0_init 15 = .ok (.newarray .int, 2) := by decide +kernel
theorem dX0_init_17 : decode cX0_init 17 = .ok (.putfield 15, 3) := by decide +kernel
theorem dX0_init_20 : decode cX0_init 20 = .ok (.aload_n 0, 1) := by decide +kernel
theorem dX0_init_21 : decode cX0_init 21 = .ok (.new 18, 3) := by decide +kernel
theorem dX0_init_24 : decode cX0_init 24 = .ok (.dup, 1) := by decide +kernel
theorem dX0_init_25 : decode cX0_init 25 = .ok (.bipush 60, 2) := by decide +kernel
theorem dX0_init_27 : decode cX0_init 27 = .ok (.invokespecial 20, 3) := by decide +kernel
theorem dX0_init_30 : decode cX0_init 30 = .ok (.putfield 23, 3) := by decide +kernel
theorem dX0_init_33 : decode cX0_init 33 = .ok (.aload_n 0, 1) := by decide +kernel
theorem dX0_init_34 : decode cX0_init 34 = .ok (.iconst 0, 1) := by decide +kernel
theorem dX0_init_35 : decode cX0_init 35 = .ok (.putfield 27, 3) := by decide +kernel
theorem dX0_init_38 : decode cX0_init 38 = .ok (.aload_n 0, 1) := by decide +kernel
theorem dX0_init_39 : decode cX0_init 39 = .ok (.iconst 0, 1) := by decide +kernel
theorem dX0_init_40 : decode cX0_init 40 = .ok (.putfield 31, 3) := by decide +kernel
theorem dX0_init_43 : decode cX0_init 43 = .ok (.aload_n 0, 1) := by decide +kernel
theorem dX0_init_44 : decode cX0_init 44 = .ok (.iconst (-1), 1) := by decide +kernel
theorem dX0_init_45 : decode cX0_init 45 = .ok (.putfield 34, 3) := by decide +kernel
theorem dX0_init_48 : decode cX0_init 48 = .ok (.aload_n 0, 1) := by decide +kernel
theorem dX0_init_49 : decode cX0_init 49 = .ok (.iconst 0, 1) := by decide +kernel
theorem dX0_init_50 : decode cX0_init 50 = .ok (.putfield 37, 3) := by decide +kernel
theorem dX0_init_53 : decode cX0_init 53 = .ok (.aload_n 0, 1) := by decide +kernel
theorem dX0_init_54 : decode cX0_init 54 = .ok (.iconst 0, 1) := by decide +kernel
theorem dX0_init_55 : decode cX0_init 55 = .ok (.putfield 40, 3) := by decide +kernel
theorem dX0_init_58 : decode cX0_init 58 = .ok (.aload_n 0, 1) := by decide +kernel
theorem dX0_init_59 : decode cX0_init 59 = .ok (.bipush 99, 2) := by decide +kernel
theorem dX0_init_61 : decode cX0_init 61 = .ok (.putfield 43, 3) := by decide +kernel
theorem dX0_init_64 : decode cX0_init 64 = .ok (.aload_n 0, 1) := by decide +kernel
theorem dX0_init_65 : decode cX0_init 65 = .ok (.iconst 0, 1) := by decide +kernel
theorem dX0_init_66 : decode cX0_init 66 = .ok (.putfield 46, 3) := by decide +kernel
theorem dX0_init_69 : decode cX0_init 69 = .ok (.aload_n 0, 1) := by decide +kernel
theorem dX0_init_70 : decode cX0_init 70 = .ok (.iconst 0, 1) := by decide +kernel
theorem dX0_init_71 : decode cX0_init 71 = .ok (.putfield 49, 3) := by decide +kernel
theorem dX0_init_74 : decode cX0_init 74 = .ok (.return_, 1) := by decide +kernel
theorem hcX0_init : yX0_init.cls ≠ "java/lang/invoke/MethodHandle" ∧ yX0_init.cls ≠ "java/lang/invoke/VarHandle" ∧ (parseMethodDescriptor yX0_init.desc).map (fun d => d.parameters.length) = some 0 := ⟨by decide +kernel, by decide +kernel, by decide +kernel⟩
def fX0_init (La : sg_L) (s0 : sg_M) (o : Int) (Q : sg_L → sg_M → Prop) : Prop := ∀ (q1 : Nat) (La2 : sg_L), La2 = sg_pu La 10060 q1 → ∀ s3 : sg_M, s3 = sg_nw s0 La.1 10060 → ∀ o4 : Int, o4 = (La.1 : Int) → ∀ s14 : sg_M, s14 = sg_up s3 o 0 o4 → ∀ (q16 : Nat) (La17 : sg_L), La17 = sg_pu La2 10060 q16 → ∀ s18 : sg_M, s18 = sg_nw s14 La2.1 10060 → ∀ o19 : Int, o19 = (La2.1 : Int) → ∀ s29 : sg_M, s29 = sg_up s18 o 1 o19 → ∀ (q31 : Nat) (La32 : sg_L), La32 = sg_pu La17 24 q31 → ∀ s33 : sg_M, s33 = sg_nw s29 La17.1 24 → ∀ o34 : Int, o34 = (La17.1 : Int) → fX4_init La32 s33 o34 60 (fun La43 s44 => ∀ s49 : sg_M, s49 = sg_up s44 o 2 o34 → ∀ s51 : sg_M, s51 = sg_up s49 o 3 0 → ∀ s53 : sg_M, s53 = sg_up s51 o 4 0 → ∀ s55 : sg_M, s55 = sg_up s53 o 5 (-1) → ∀ s57 : sg_M, s57 = sg_up s55 o 6 0 → ∀ s59 : sg_M, s59 = sg_up s57 o 7 0 → ∀ s61 : sg_M, s61 = sg_up s59 o 8 99 → ∀ s63 : sg_M, s63 = sg_up s61 o 9 0 → ∀ s65 : sg_M, s65 = sg_up s63 o 10 0 → sg_sealed La43 s65 o 20 0 ∧ ∀ La67 : sg_L, La67 = sg_se La43 o.toNat 0 → Q La67 s65)
set_option maxHeartbeats 4000000 in
set_option maxRecDepth 100000 in
theorem CX0_init {l : Launch} {G : sg_G} {La : sg_L} {s0 : sg_M} {o : Int} (to : sg_O La o 20) {Q : sg_L → sg_M → Prop} (hf : fX0_init La s0 o Q) : sg_C l G yX0_init cX0_init 1 (none) 2 4 323 La s0 [sg_r o] (sg_BV (sg_se La o.toNat 0) Q) := by
  refine sg_body (by decide +kernel) (Nat.le_of_ble_eq_true rfl) ?_
  intro p e s m args below meth c F hnm
  unfold fX0_init at hf
  show sg_W p l e (sg_rm 2 4 323) s m args below meth c (MQ below (sg_Q (none) G La s.heap.size (sg_BV (sg_se La o.toNat 0) Q)) args s 4 323 (sg_A La s.heap.size)) 1 G (sg_A La s.heap.size) La s0 0 0 0 [(0, sg_r o)] []
  have hin : meth.name = "<init>" := hnm
  refine gw_aload_n F 0 rfl rfl to.1 dX0_init_0 ?_
  refine gw_objInit F to.1 kw_249 kw_OI kw_OC (Nat.le_of_ble_eq_true rfl) (by decide) (by decide) dX0_init_1 ?_
  refine gw_aload_n F 0 rfl rfl to.1 dX0_init_4 ?_
  refine gw_bipush F rfl dX0_init_5 ?_
  refine gy_newI F (N := 60) kw_131 rfl (by decide) (by decide) (by decide) (List.forall_mem_cons.mpr ⟨(Or.inl to.2.1), (fun _ h => absurd h List.not_mem_nil)⟩) (List.forall_mem_cons.mpr ⟨(Or.inl to.2.1), (fun _ h => absurd h List.not_mem_nil)⟩) dX0_init_7 (fun q1 La2 s3 o4 e5 e6 e7 t8 hX9 => ?_)
  have hf := hf q1 La2 e5 s3 e6 o4 e7
  have hn10 : La.1 ≤ o4.toNat := by rw [e7, Int.toNat_natCast]; exact (sg_X.rf : sg_X La La).1
  have t11 := to.X hX9
  have hX12 := sg_X.tr (sg_X.rf) hX9
  have t13 := sg_AN_of (n := 60) t8 (by decide) (by decide) (by decide)
  obtain ⟨s14, e15⟩ : ∃ z : sg_M, z = sg_up s3 o 0 o4 := ⟨_, rfl⟩
  have hf := hf s14 e15
  refine gw_put5F F t11 (by decide) rfl sg_lay_RX0 (j := 0) (by decide) (D0 := tyX0 0) (fun _ => ⟨rfl, rfl⟩) t13.1 t13.2.1 e15 tyX0_ok nmX0 rfl hin rfl (tyX0_ok 0 (by decide)) rfl (host := "") kw_252 dX0_init_9 ?_
  refine gw_aload_n F 0 rfl rfl t11.1 dX0_init_12 ?_
  refine gw_bipush F rfl dX0_init_13 ?_
  refine gy_newI F (N := 60) kw_131 rfl (by decide) (by decide) (by decide) (List.forall_mem_cons.mpr ⟨(Or.inl t11.2.1), (fun _ h => absurd h List.not_mem_nil)⟩) (List.forall_mem_cons.mpr ⟨(Or.inl t11.2.1), (fun _ h => absurd h List.not_mem_nil)⟩) dX0_init_15 (fun q16 La17 s18 o19 e20 e21 e22 t23 hX24 => ?_)
  have hf := hf q16 La17 e20 s18 e21 o19 e22
  have hn25 : La.1 ≤ o19.toNat := by rw [e22, Int.toNat_natCast]; exact (hX12 : sg_X La La2).1
  have t26 := t11.X hX24
  have hX27 := sg_X.tr (hX12) hX24
  have t28 := sg_AN_of (n := 60) t23 (by decide) (by decide) (by decide)
  obtain ⟨s29, e30⟩ : ∃ z : sg_M, z = sg_up s18 o 1 o19 := ⟨_, rfl⟩
  have hf := hf s29 e30
  refine gw_put5F F t26 (by decide) rfl sg_lay_RX0 (j := 1) (by decide) (D0 := tyX0 1) (fun _ => ⟨rfl, rfl⟩) t28.1 t28.2.1 e30 tyX0_ok nmX0 rfl hin rfl (tyX0_ok 1 (by decide)) rfl (host := "") kw_253 dX0_init_17 ?_
  refine gw_aload_n F 0 rfl rfl t26.1 dX0_init_20 ?_
  refine gy_new F (kd := 24) (T := TX4) (by decide) rfl sg_lay_RX4 tyX4_ok kw_250 kw_191 kw_97 ns_X4 nf_X4 nr_X4 (by decide) (by decide) (List.forall_mem_cons.mpr ⟨(Or.inl t26.2.1), (fun _ h => absurd h List.not_mem_nil)⟩) (List.forall_mem_cons.mpr ⟨(Or.inl t26.2.1), (fun _ h => absurd h List.not_mem_nil)⟩) dX0_init_21 (fun q31 La32 s33 o34 e35 e36 e37 t38 hX39 => ?_)
  have hf := hf q31 La32 e35 s33 e36 o34 e37
  have hn40 : La.1 ≤ o34.toNat := by rw [e37, Int.toNat_natCast]; exact (hX27 : sg_X La La17).1
  have t41 := t26.X hX39
  have hX42 := sg_X.tr (hX27) hX39
  refine gw_dup F rfl dX0_init_24 ?_
  refine gw_bipush F rfl dX0_init_25 ?_
  refine gk_BV F (gc_I F (S := [sg_r o34, sg_r o]) (As := [sg_i 60]) (CX4_init t38 (by decide) hf) t38.1 kw_194 kw_97 kw_251 kw_193 rfl hcX4_init ⟨by decide, by decide⟩ rfl rfl (Nat.le_of_ble_eq_true rfl) ⟨by decide, by decide⟩ dX0_init_27) (List.forall_mem_cons.mpr ⟨(Or.inl t41.2.1), (fun _ h => absurd h List.not_mem_nil)⟩) (List.forall_mem_cons.mpr ⟨(Or.inl t38.2.1), (List.forall_mem_cons.mpr ⟨(Or.inl t41.2.1), (fun _ h => absurd h List.not_mem_nil)⟩)⟩) (fun La43 s44 hX45 hf => ?_)
  have t46 := (sg_O_sx t41 t38 (by decide)).X hX45
  have t47 := (sg_O_sealed t38).X hX45
  have hX48 := (sg_X_sx (hX42) hn40).tr hX45
  obtain ⟨s49, e50⟩ : ∃ z : sg_M, z = sg_up s44 o 2 o34 := ⟨_, rfl⟩
  have hf := hf s49 e50
  refine gw_put5F F t46 (by decide) rfl sg_lay_RX0 (j := 2) (by decide) (D0 := tyX0 2) (fun _ => ⟨rfl, rfl⟩) t47.1 t47.2.1 e50 tyX0_ok nmX0 rfl hin rfl (tyX0_ok 2 (by decide)) rfl (host := "") kw_254 dX0_init_30 ?_
  refine gw_aload_n F 0 rfl rfl t46.1 dX0_init_33 ?_
  refine gw_iconst F dX0_init_34 ?_
  obtain ⟨s51, e52⟩ : ∃ z : sg_M, z = sg_up s49 o 3 0 := ⟨_, rfl⟩
  have hf := hf s51 e52
  refine gw_put0 F t46 (by decide) rfl sg_lay_RX0 (j := 3) (by decide) (by decide) e52 tyX0_ok nmX0 rfl (tyX0_ok 3 (by decide)) rfl (host := "") (.inl kw_257) dX0_init_35 ?_
  refine gw_aload_n F 0 rfl rfl t46.1 dX0_init_38 ?_
  refine gw_iconst F dX0_init_39 ?_
  obtain ⟨s53, e54⟩ : ∃ z : sg_M, z = sg_up s51 o 4 0 := ⟨_, rfl⟩
  have hf := hf s53 e54
  refine gw_put0 F t46 (by decide) rfl sg_lay_RX0 (j := 4) (by decide) (by decide) e54 tyX0_ok nmX0 rfl (tyX0_ok 4 (by decide)) rfl (host := "") (.inl kw_258) dX0_init_40 ?_
  refine gw_aload_n F 0 rfl rfl t46.1 dX0_init_43 ?_
  refine gw_iconst F dX0_init_44 ?_
  obtain ⟨s55, e56⟩ : ∃ z : sg_M, z = sg_up s53 o 5 (-1) := ⟨_, rfl⟩
  have hf := hf s55 e56
  refine gw_put0 F t46 (by decide) rfl sg_lay_RX0 (j := 5) (by decide) (by decide) e56 tyX0_ok nmX0 rfl (tyX0_ok 5 (by decide)) rfl (host := "") (.inl kw_259) dX0_init_45 ?_
  refine gw_aload_n F 0 rfl rfl t46.1 dX0_init_48 ?_
  refine gw_iconst F dX0_init_49 ?_
  obtain ⟨s57, e58⟩ : ∃ z : sg_M, z = sg_up s55 o 6 0 := ⟨_, rfl⟩
  have hf := hf s57 e58
  refine gw_put0 F t46 (by decide) rfl sg_lay_RX0 (j := 6) (by decide) (by decide) e58 tyX0_ok nmX0 rfl (tyX0_ok 6 (by decide)) rfl (host := "") (.inl kw_262) dX0_init_50 ?_
  refine gw_aload_n F 0 rfl rfl t46.1 dX0_init_53 ?_
  refine gw_iconst F dX0_init_54 ?_
  obtain ⟨s59, e60⟩ : ∃ z : sg_M, z = sg_up s57 o 7 0 := ⟨_, rfl⟩
  have hf := hf s59 e60
  refine gw_put0 F t46 (by decide) rfl sg_lay_RX0 (j := 7) (by decide) (by decide) e60 tyX0_ok nmX0 rfl (tyX0_ok 7 (by decide)) rfl (host := "") (.inl kw_264) dX0_init_55 ?_
  refine gw_aload_n F 0 rfl rfl t46.1 dX0_init_58 ?_
  refine gw_bipush F rfl dX0_init_59 ?_
  obtain ⟨s61, e62⟩ : ∃ z : sg_M, z = sg_up s59 o 8 99 := ⟨_, rfl⟩
  have hf := hf s61 e62
  refine gw_put0 F t46 (by decide) rfl sg_lay_RX0 (j := 8) (by decide) (by decide) e62 tyX0_ok nmX0 rfl (tyX0_ok 8 (by decide)) rfl (host := "") (.inl kw_267) dX0_init_61 ?_
  refine gw_aload_n F 0 rfl rfl t46.1 dX0_init_64 ?_
  refine gw_iconst F dX0_init_65 ?_
  obtain ⟨s63, e64⟩ : ∃ z : sg_M, z = sg_up s61 o 9 0 := ⟨_, rfl⟩
  have hf := hf s63 e64
  refine gw_put0 F t46 (by decide) rfl sg_lay_RX0 (j := 9) (by decide) (by decide) e64 tyX0_ok nmX0 rfl (tyX0_ok 9 (by decide)) rfl (host := "") (.inl kw_270) dX0_init_66 ?_
  refine gw_aload_n F 0 rfl rfl t46.1 dX0_init_69 ?_
  refine gw_iconst F dX0_init_70 ?_
  obtain ⟨s65, e66⟩ : ∃ z : sg_M, z = sg_up s63 o 10 0 := ⟨_, rfl⟩
  have hf := hf s65 e66
  refine gw_put1 F t46 (by decide) rfl sg_lay_RX0 (j := 10) (by decide) (by decide) e66 tyX0_ok nmX0 rfl (tyX0_ok 10 (by decide)) rfl (host := "") (.inl kw_273) dX0_init_71 ?_
  obtain ⟨g68, hf⟩ := hf
  obtain ⟨La67, e69⟩ : ∃ z : sg_L, z = sg_se La43 o.toNat 0 := ⟨_, rfl⟩
  have hf := hf La67 e69
  refine gy_seal t46 ⟨by decide, by decide, by decide⟩ (by decide) (by decide) g68 e69 ?_
  exact gr_BC F (o := o.toNat) (kd := 0) hf (by rw [e69]; exact sg_X.both hX48) (by decide) (by decide) dX0_init_74

theorem dX1_told_0 : decode cX1_told 0 = .ok (.aload_n 0, 1) := by decide +kernel
theorem dX1_told_1 : decode cX1_told 1 = .ok (.iload_n 1, 1) := by decide +kernel
theorem dX1_told_2 : decode cX1_told 2 = .ok (.invokevirtual 38, 3) := by decide +kernel
theorem dX1_told_5 : decode cX1_told 5 = .ok (.ifCond .ne 5, 3) := by decide +kernel
theorem dX1_told_8 : decode cX1_told 8 = .ok (.iconst 0, 1) := by decide +kernel
theorem dX1_told_9 : decode cX1_told 9 = .ok (.ireturn, 1) := by decide +kernel
theorem dX1_told_10 : decode cX1_told 10 = .ok (.iload_n 2, 1) := by decide +kernel
theorem dX1_told_11 : decode cX1_told 11 = .ok (.tableswitch 57 0 3 #[29, 36, 43, 50], 29) := by decide +kernel
theorem dX1_told_40 : decode cX1_told 40 = .ok (.aload_n 0, 1) := by decide +kernel
theorem dX1_told_41 : decode cX1_told 41 = .ok (.getfield 9, 3) := by decide +kernel
theorem dX1_told_44 : decode cX1_told 44 = .ok (.iload_n 1, 1) := by decide +kernel
theorem dX1_told_45 : decode cX1_told 45 = .ok (.iaload, 1) := by decide +kernel
theorem dX1_told_46 : decode cX1_told 46 = .ok (.ireturn, 1) := by decide +kernel
theorem dX1_told_47 : decode cX1_told 47 = .ok (.aload_n 0, 1) := by decide +kernel
theorem dX1_told_48 : decode cX1_told 48 = .ok (.getfield 15, 3) := by decide +kernel
theorem dX1_told_51 : decode cX1_told 51 = .ok (.iload_n 1, 1) := by decide +kernel
theorem dX1_told_52 : decode cX1_told 52 = .ok (.iaload, 1) := by decide +kernel
theorem dX1_told_53 : decode cX1_told 53 = .ok (.ireturn, 1) := by decide +kernel
theorem dX1_told_54 : decode cX1_told 54 = .ok (.aload_n 0, 1) := by decide +kernel
theorem dX1_told_55 : decode cX1_told 55 = .ok (.getfield 18, 3) := by decide +kernel
theorem dX1_told_58 : decode cX1_told 58 = .ok (.iload_n 1, 1) := by decide +kernel
theorem dX1_told_59 : decode cX1_told 59 = .ok (.iaload, 1) := by decide +kernel
theorem dX1_told_60 : decode cX1_told 60 = .ok (.ireturn, 1) := by decide +kernel
theorem dX1_told_61 : decode cX1_told 61 = .ok (.aload_n 0, 1) := by decide +kernel
theorem dX1_told_62 : decode cX1_told 62 = .ok (.getfield 21, 3) := by decide +kernel
theorem dX1_told_65 : decode cX1_told 65 = .ok (.iload_n 1, 1) := by decide +kernel
theorem dX1_told_66 : decode cX1_told 66 = .ok (.iaload, 1) := by decide +kernel
theorem dX1_told_67 : decode cX1_told 67 = .ok (.ireturn, 1) := by decide +kernel
theorem dX1_told_68 : decode cX1_told 68 = .ok (.aload_n 0, 1) := by decide +kernel
theorem dX1_told_69 : decode cX1_told 69 = .ok (.iload_n 1, 1) := by decide +kernel
theorem dX1_told_70 : decode cX1_told 70 = .ok (.invokevirtual 42, 3) := by decide +kernel
theorem dX1_told_73 : decode cX1_told 73 = .ok (.ireturn, 1) := by decide +kernel
theorem hcX1_told : yX1_told.cls ≠ "java/lang/invoke/MethodHandle" ∧ yX1_told.cls ≠ "java/lang/invoke/VarHandle" ∧ (parseMethodDescriptor yX1_told.desc).map (fun d => d.parameters.length) = some 2 := ⟨by decide +kernel, by decide +kernel, by decide +kernel⟩
def fX1_told (s0 : sg_M) (o : Int) (x1 : Int) (x2 : Int) (Q : Int → Prop) : Prop := fX1_has s0 o x1 (fun u1 => ((u1 ≠ 0 → ((x2 < 0 ∨ 3 < x2 → fX1_stiffness s0 o x1 (fun u5 => Q u5)) ∧ (x2 = 0 → (0 ≤ x1 ∧ x1 < 60) ∧ Q (s0 (o + 1) x1)) ∧ (x2 = 1 → (0 ≤ x1 ∧ x1 < 60) ∧ Q (s0 (o + 2) x1)) ∧ (x2 = 2 → (0 ≤ x1 ∧ x1 < 60) ∧ Q (s0 (o + 3) x1)) ∧ (x2 = 3 → (0 ≤ x1 ∧ x1 < 60) ∧ Q (s0 (o + 4) x1)))) ∧ (u1 = 0 → Q 0)))
set_option maxHeartbeats 4000000 in
set_option maxRecDepth 100000 in
theorem CX1_told {l : Launch} {G : sg_G} {La : sg_L} {s0 : sg_M} {o : Int} (to : sg_O La o 1) {x1 : Int} (r1 : sg_R x1) {x2 : Int} (r2 : sg_R x2) {Q : Int → Prop} (hf : fX1_told s0 o x1 x2 Q) : sg_C l G yX1_told cX1_told 3 (some .int) 3 0 0 La s0 [sg_r o, sg_i x1, sg_i x2] (sg_PI La s0 Q) := by
  refine sg_body (by decide +kernel) (Nat.le_of_ble_eq_true rfl) ?_
  intro p e s m args below meth c F hnm
  unfold fX1_told at hf
  show sg_W p l e (sg_rm 3 0 0) s m args below meth c (MQ below (sg_Q (some .int) G La s.heap.size (sg_PI La s0 Q)) args s 0 0 (sg_A La s.heap.size)) 3 G (sg_A La s.heap.size) La s0 0 0 0 [(0, sg_r o), (1, sg_i x1), (2, sg_i x2)] []
  refine gw_aload_n F 0 rfl rfl to.1 dX1_told_0 ?_
  refine gw_iload_n F 1 rfl rfl dX1_told_1 ?_
  refine gk_PZ F (gc_V F (S := []) (As := [sg_i x1]) (T := TX1) (N := 7) (CX1_has to r1 hf) to (by decide) rfl kw_518 kw_94 kw_515 kw_516 kw_517 hcX1_has ⟨by decide, by decide⟩ rfl rfl (Nat.le_of_ble_eq_true rfl) ⟨by decide, by decide⟩ dX1_told_2) (fun u1 h2 hf => ?_)
  refine gw_if_ne F (tgt := 10) dX1_told_5 (by decide) (sg_B_R h2) (fun c3 => ?_) (fun c3 => ?_)
  · have hf := hf.1 c3
    refine gw_iload_n F 2 rfl rfl dX1_told_10 ?_
    refine gw_switch F dX1_told_11 r2 (td := 68) (by decide) (fun c4 => ?_) (fun i hi1 hi2 => ?_)
    · have hf := hf.1 c4
      refine gw_aload_n F 0 rfl rfl to.1 dX1_told_68 ?_
      refine gw_iload_n F 1 rfl rfl dX1_told_69 ?_
      refine gk_PI F (gc_V F (S := []) (As := [sg_i x1]) (T := TX1) (N := 7) (CX1_stiffness to r1 hf) to (by decide) rfl kw_514 kw_94 kw_512 kw_513 kw_4 hcX1_stiffness ⟨by decide, by decide⟩ rfl rfl (Nat.le_of_ble_eq_true rfl) ⟨by decide, by decide⟩ dX1_told_70) (fun u5 h6 hf => ?_)
      exact gr_PI F h6 hf (by decide) (by decide) dX1_told_73
    · rcases (show i = 0 ∨ i = 1 ∨ i = 2 ∨ i = 3 by omega) with rfl | rfl | rfl | rfl
      · have hf := hf.2.1 (by omega)
        refine ⟨29, 40, rfl, by decide, ?_⟩
        refine gw_aload_n F 0 rfl rfl to.1 dX1_told_40 ?_
        refine gw_get3 F to (by decide) rfl sg_lay_RX1 (j := 0) (by decide) (o1 := (o + 1)) (by first | rfl | omega) rfl (host := "") (.inl kw_158) dX1_told_41 (fun h7 => ?_)
        refine gw_iload_n F 1 rfl rfl dX1_told_44 ?_
        obtain ⟨⟨b80, b81⟩, hf⟩ := hf
        refine gw_iald F (sg_AN_of (sg_O_of h7 (by decide)) (by decide) (by decide) (by decide)) b80 b81 dX1_told_45 (fun h9 => ?_)
        exact gr_PI F h9 hf (by decide) (by decide) dX1_told_46
      · have hf := hf.2.2.1 (by omega)
        refine ⟨36, 47, rfl, by decide, ?_⟩
        refine gw_aload_n F 0 rfl rfl to.1 dX1_told_47 ?_
        refine gw_get3 F to (by decide) rfl sg_lay_RX1 (j := 1) (by decide) (o1 := (o + 2)) (by first | rfl | omega) rfl (host := "") (.inl kw_159) dX1_told_48 (fun h10 => ?_)
        refine gw_iload_n F 1 rfl rfl dX1_told_51 ?_
        obtain ⟨⟨b110, b111⟩, hf⟩ := hf
        refine gw_iald F (sg_AN_of (sg_O_of h10 (by decide)) (by decide) (by decide) (by decide)) b110 b111 dX1_told_52 (fun h12 => ?_)
        exact gr_PI F h12 hf (by decide) (by decide) dX1_told_53
      · have hf := hf.2.2.2.1 (by omega)
        refine ⟨43, 54, rfl, by decide, ?_⟩
        refine gw_aload_n F 0 rfl rfl to.1 dX1_told_54 ?_
        refine gw_get3 F to (by decide) rfl sg_lay_RX1 (j := 2) (by decide) (o1 := (o + 3)) (by first | rfl | omega) rfl (host := "") (.inl kw_161) dX1_told_55 (fun h13 => ?_)
        refine gw_iload_n F 1 rfl rfl dX1_told_58 ?_
        obtain ⟨⟨b140, b141⟩, hf⟩ := hf
        refine gw_iald F (sg_AN_of (sg_O_of h13 (by decide)) (by decide) (by decide) (by decide)) b140 b141 dX1_told_59 (fun h15 => ?_)
        exact gr_PI F h15 hf (by decide) (by decide) dX1_told_60
      · have hf := hf.2.2.2.2 (by omega)
        refine ⟨50, 61, rfl, by decide, ?_⟩
        refine gw_aload_n F 0 rfl rfl to.1 dX1_told_61 ?_
        refine gw_get3 F to (by decide) rfl sg_lay_RX1 (j := 3) (by decide) (o1 := (o + 4)) (by first | rfl | omega) rfl (host := "") (.inl kw_162) dX1_told_62 (fun h16 => ?_)
        refine gw_iload_n F 1 rfl rfl dX1_told_65 ?_
        obtain ⟨⟨b170, b171⟩, hf⟩ := hf
        refine gw_iald F (sg_AN_of (sg_O_of h16 (by decide)) (by decide) (by decide) (by decide)) b170 b171 dX1_told_66 (fun h18 => ?_)
        exact gr_PI F h18 hf (by decide) (by decide) dX1_told_67
  · have hf := hf.2 c3
    refine gw_iconst F dX1_told_8 ?_
    exact gr_PI F (by decide) hf (by decide) (by decide) dX1_told_9

theorem dX11_isTone_0 : decode cX11_isTone 0 = .ok (.iload_n 0, 1) := by decide +kernel
theorem dX11_isTone_1 : decode cX11_isTone 1 = .ok (.iconst 1, 1) := by decide +kernel
theorem dX11_isTone_2 : decode cX11_isTone 2 = .ok (.if_icmp .lt 14, 3) := by decide +kernel
theorem dX11_isTone_5 : decode cX11_isTone 5 = .ok (.iload_n 0, 1) := by decide +kernel
theorem dX11_isTone_6 : decode cX11_isTone 6 = .ok (.sipush 2000, 3) := by decide +kernel
theorem dX11_isTone_9 : decode cX11_isTone 9 = .ok (.if_icmp .gt 7, 3) := by decide +kernel
theorem dX11_isTone_12 : decode cX11_isTone 12 = .ok (.iconst 1, 1) := by decide +kernel
theorem dX11_isTone_13 : decode cX11_isTone 13 = .ok (.goto 4, 3) := by decide +kernel
theorem dX11_isTone_16 : decode cX11_isTone 16 = .ok (.iconst 0, 1) := by decide +kernel
theorem dX11_isTone_17 : decode cX11_isTone 17 = .ok (.ireturn, 1) := by decide +kernel
theorem hcX11_isTone : yX11_isTone.cls ≠ "java/lang/invoke/MethodHandle" ∧ yX11_isTone.cls ≠ "java/lang/invoke/VarHandle" ∧ (parseMethodDescriptor yX11_isTone.desc).map (fun d => d.parameters.length) = some 1 := ⟨by decide +kernel, by decide +kernel, by decide +kernel⟩
def fX11_isTone (x0 : Int) (Q : Int → Prop) : Prop := ((x0 < 1 → Q 0) ∧ (¬ (x0 < 1) → ((2000 < x0 → Q 0) ∧ (¬ (2000 < x0) → Q 1))))
set_option maxHeartbeats 4000000 in
set_option maxRecDepth 100000 in
theorem CX11_isTone {l : Launch} {G : sg_G} {La : sg_L} {s0 : sg_M} {x0 : Int} (r0 : sg_R x0) {Q : Int → Prop} (hf : fX11_isTone x0 Q) : sg_C l G yX11_isTone cX11_isTone 1 (some .boolean) 1 0 0 La s0 [sg_i x0] (sg_PZ La s0 Q) := by
  refine sg_body (by decide +kernel) (Nat.le_of_ble_eq_true rfl) ?_
  intro p e s m args below meth c F hnm
  unfold fX11_isTone at hf
  show sg_W p l e (sg_rm 1 0 0) s m args below meth c (MQ below (sg_Q (some .boolean) G La s.heap.size (sg_PZ La s0 Q)) args s 0 0 (sg_A La s.heap.size)) 1 G (sg_A La s.heap.size) La s0 0 0 0 [(0, sg_i x0)] []
  refine gw_iload_n F 0 rfl rfl dX11_isTone_0 ?_
  refine gw_iconst F dX11_isTone_1 ?_
  refine gw_icmp_lt F (tgt := 16) dX11_isTone_2 (by decide) r0 (by decide) (fun c1 => ?_) (fun c1 => ?_)
  · have hf := hf.1 c1
    refine gw_iconst F dX11_isTone_16 ?_
    exact gr_PZ F (by decide) hf (by decide) (by decide) dX11_isTone_17
  · have hf := hf.2 c1
    refine gw_iload_n F 0 rfl rfl dX11_isTone_5 ?_
    refine gw_sipush F rfl dX11_isTone_6 ?_
    refine gw_icmp_gt F (tgt := 16) dX11_isTone_9 (by decide) r0 (by decide) (fun c2 => ?_) (fun c2 => ?_)
    · have hf := hf.1 c2
      refine gw_iconst F dX11_isTone_16 ?_
      exact gr_PZ F (by decide) hf (by decide) (by decide) dX11_isTone_17
    · have hf := hf.2 c2
      refine gw_iconst F dX11_isTone_12 ?_
      refine gw_goto F (tgt := 17) dX11_isTone_13 (by decide) ?_
      exact gr_PZ F (by decide) hf (by decide) (by decide) dX11_isTone_17

theorem dX11_isNear_0 : decode cX11_isNear 0 = .ok (.iload_n 0, 1) := by decide +kernel
theorem dX11_isNear_1 : decode cX11_isNear 1 = .ok (.ifCond .le 17, 3) := by decide +kernel
theorem dX11_isNear_4 : decode cX11_isNear 4 = .ok (.iload_n 0, 1) := by decide +kernel
theorem dX11_isNear_5 : decode cX11_isNear 5 = .ok (.iload_n 1, 1) := by decide +kernel
theorem dX11_isNear_6 : decode cX11_isNear 6 = .ok (.isub, 1) := by decide +kernel
theorem dX11_isNear_7 : decode cX11_isNear 7 = .ok (.invokestatic 286, 3) := by decide +kernel
theorem dX11_isNear_10 : decode cX11_isNear 10 = .ok (.iload_n 2, 1) := by decide +kernel
theorem dX11_isNear_11 : decode cX11_isNear 11 = .ok (.if_icmp .gt 7, 3) := by decide +kernel
theorem dX11_isNear_14 : decode cX11_isNear 14 = .ok (.iconst 1, 1) := by decide +kernel
theorem dX11_isNear_15 : decode cX11_isNear 15 = .ok (.goto 4, 3) := by decide +kernel
theorem dX11_isNear_18 : decode cX11_isNear 18 = .ok (.iconst 0, 1) := by decide +kernel
theorem dX11_isNear_19 : decode cX11_isNear 19 = .ok (.ireturn, 1) := by decide +kernel
theorem hcX11_isNear : yX11_isNear.cls ≠ "java/lang/invoke/MethodHandle" ∧ yX11_isNear.cls ≠ "java/lang/invoke/VarHandle" ∧ (parseMethodDescriptor yX11_isNear.desc).map (fun d => d.parameters.length) = some 3 := ⟨by decide +kernel, by decide +kernel, by decide +kernel⟩
def fX11_isNear (x0 : Int) (x1 : Int) (x2 : Int) (Q : Int → Prop) : Prop := ((x0 ≤ 0 → Q 0) ∧ (¬ (x0 ≤ 0) → sg_R (x0 - x1) ∧ sg_R (sg_abs (x0 - x1)) ∧ ((x2 < (sg_abs (x0 - x1)) → Q 0) ∧ (¬ (x2 < (sg_abs (x0 - x1))) → Q 1))))
set_option maxHeartbeats 4000000 in
set_option maxRecDepth 100000 in
theorem CX11_isNear {l : Launch} {G : sg_G} {La : sg_L} {s0 : sg_M} {x0 : Int} (r0 : sg_R x0) {x1 : Int} (r1 : sg_R x1) {x2 : Int} (r2 : sg_R x2) {Q : Int → Prop} (hf : fX11_isNear x0 x1 x2 Q) : sg_C l G yX11_isNear cX11_isNear 3 (some .boolean) 1 0 0 La s0 [sg_i x0, sg_i x1, sg_i x2] (sg_PZ La s0 Q) := by
  refine sg_body (by decide +kernel) (Nat.le_of_ble_eq_true rfl) ?_
  intro p e s m args below meth c F hnm
  unfold fX11_isNear at hf
  show sg_W p l e (sg_rm 1 0 0) s m args below meth c (MQ below (sg_Q (some .boolean) G La s.heap.size (sg_PZ La s0 Q)) args s 0 0 (sg_A La s.heap.size)) 3 G (sg_A La s.heap.size) La s0 0 0 0 [(0, sg_i x0), (1, sg_i x1), (2, sg_i x2)] []
  refine gw_iload_n F 0 rfl rfl dX11_isNear_0 ?_
  refine gw_if_le F (tgt := 18) dX11_isNear_1 (by decide) r0 (fun c1 => ?_) (fun c1 => ?_)
  · have hf := hf.1 c1
    refine gw_iconst F dX11_isNear_18 ?_
    exact gr_PZ F (by decide) hf (by decide) (by decide) dX11_isNear_19
  · have hf := hf.2 c1
    refine gw_iload_n F 0 rfl rfl dX11_isNear_4 ?_
    refine gw_iload_n F 1 rfl rfl dX11_isNear_5 ?_
    refine gw_isub F rfl dX11_isNear_6 ?_
    obtain ⟨g2, hf⟩ := hf
    refine gw_abs F g2 rfl kw_697 kw_abs1 kw_math kw_abs2 (Nat.le_of_ble_eq_true rfl) (by decide) (by decide) (by decide) (by decide) dX11_isNear_7 ?_
    refine gw_iload_n F 2 rfl rfl dX11_isNear_10 ?_
    obtain ⟨g3, hf⟩ := hf
    refine gw_icmp_gt F (tgt := 18) dX11_isNear_11 (by decide) g3 r2 (fun c4 => ?_) (fun c4 => ?_)
    · have hf := hf.1 c4
      refine gw_iconst F dX11_isNear_18 ?_
      exact gr_PZ F (by decide) hf (by decide) (by decide) dX11_isNear_19
    · have hf := hf.2 c4
      refine gw_iconst F dX11_isNear_14 ?_
      refine gw_goto F (tgt := 19) dX11_isNear_15 (by decide) ?_
      exact gr_PZ F (by decide) hf (by decide) (by decide) dX11_isNear_19

theorem dX11_signed_0 : decode cX11_signed 0 = .ok (.iload_n 0, 1) := by decide +kernel
theorem dX11_signed_1 : decode cX11_signed 1 = .ok (.ifCond .eq 8, 3) := by decide +kernel
theorem dX11_signed_4 : decode cX11_signed 4 = .ok (.iload_n 1, 1) := by decide +kernel
theorem dX11_signed_5 : decode cX11_signed 5 = .ok (.ineg, 1) := by decide +kernel
theorem dX11_signed_6 : decode cX11_signed 6 = .ok (.goto 4, 3) := by decide +kernel
theorem dX11_signed_9 : decode cX11_signed 9 = .ok (.iload_n 1, 1) := by decide +kernel
theorem dX11_signed_10 : decode cX11_signed 10 = .ok (.ireturn, 1) := by decide +kernel
theorem hcX11_signed : yX11_signed.cls ≠ "java/lang/invoke/MethodHandle" ∧ yX11_signed.cls ≠ "java/lang/invoke/VarHandle" ∧ (parseMethodDescriptor yX11_signed.desc).map (fun d => d.parameters.length) = some 2 := ⟨by decide +kernel, by decide +kernel, by decide +kernel⟩
def fX11_signed (x0 : Int) (x1 : Int) (Q : Int → Prop) : Prop := ((x0 = 0 → Q x1) ∧ (¬ (x0 = 0) → sg_R (-x1) ∧ Q (-x1)))
set_option maxHeartbeats 4000000 in
set_option maxRecDepth 100000 in
theorem CX11_signed {l : Launch} {G : sg_G} {La : sg_L} {s0 : sg_M} {x0 : Int} (r0 : sg_B x0) {x1 : Int} (r1 : sg_R x1) {Q : Int → Prop} (hf : fX11_signed x0 x1 Q) : sg_C l G yX11_signed cX11_signed 2 (some .int) 1 0 0 La s0 [sg_i x0, sg_i x1] (sg_PI La s0 Q) := by
  refine sg_body (by decide +kernel) (Nat.le_of_ble_eq_true rfl) ?_
  intro p e s m args below meth c F hnm
  unfold fX11_signed at hf
  show sg_W p l e (sg_rm 1 0 0) s m args below meth c (MQ below (sg_Q (some .int) G La s.heap.size (sg_PI La s0 Q)) args s 0 0 (sg_A La s.heap.size)) 2 G (sg_A La s.heap.size) La s0 0 0 0 [(0, sg_i x0), (1, sg_i x1)] []
  refine gw_iload_n F 0 rfl rfl dX11_signed_0 ?_
  refine gw_if_eq F (tgt := 9) dX11_signed_1 (by decide) (sg_B_R r0) (fun c1 => ?_) (fun c1 => ?_)
  · have hf := hf.1 c1
    refine gw_iload_n F 1 rfl rfl dX11_signed_9 ?_
    exact gr_PI F r1 hf (by decide) (by decide) dX11_signed_10
  · have hf := hf.2 c1
    refine gw_iload_n F 1 rfl rfl dX11_signed_4 ?_
    refine gw_ineg F rfl dX11_signed_5 ?_
    refine gw_goto F (tgt := 10) dX11_signed_6 (by decide) ?_
    obtain ⟨g2, hf⟩ := hf
    exact gr_PI F g2 hf (by decide) (by decide) dX11_signed_10

theorem dX9_number_0 : decode cX9_number 0 = .ok (.aload_n 0, 1) := by decide +kernel
theorem dX9_number_1 : decode cX9_number 1 = .ok (.getfield 13, 3) := by decide +kernel
theorem dX9_number_4 : decode cX9_number 4 = .ok (.iconst 2, 1) := by decide +kernel
theorem dX9_number_5 : decode cX9_number 5 = .ok (.if_icmp .eq 11, 3) := by decide +kernel
theorem dX9_number_8 : decode cX9_number 8 = .ok (.aload_n 0, 1) := by decide +kernel
theorem dX9_number_9 : decode cX9_number 9 = .ok (.iconst 1, 1) := by decide +kernel
theorem dX9_number_10 : decode cX9_number 10 = .ok (.invokevirtual 81, 3) := by decide +kernel
theorem dX9_number_13 : decode cX9_number 13 = .ok (.goto 40, 3) := by decide +kernel
theorem dX9_number_16 : decode cX9_number 16 = .ok (.aload_n 0, 1) := by decide +kernel
theorem dX9_number_17 : decode cX9_number 17 = .ok (.getfield 22, 3) := by decide +kernel
theorem dX9_number_20 : decode cX9_number 20 = .ok (.iload_n 1, 1) := by decide +kernel
theorem dX9_number_21 : decode cX9_number 21 = .ok (.if_icmp .lt 11, 3) := by decide +kernel
theorem dX9_number_24 : decode cX9_number 24 = .ok (.aload_n 0, 1) := by decide +kernel
theorem dX9_number_25 : decode cX9_number 25 = .ok (.getfield 22, 3) := by decide +kernel
theorem dX9_number_28 : decode cX9_number 28 = .ok (.iload_n 2, 1) := by decide +kernel
theorem dX9_number_29 : decode cX9_number 29 = .ok (.if_icmp .le 11, 3) := by decide +kernel
theorem dX9_number_32 : decode cX9_number 32 = .ok (.aload_n 0, 1) := by decide +kernel
theorem dX9_number_33 : decode cX9_number 33 = .ok (.iconst 2, 1) := by decide +kernel
theorem dX9_number_34 : decode cX9_number 34 = .ok (.invokevirtual 81, 3) := by decide +kernel
theorem dX9_number_37 : decode cX9_number 37 = .ok (.goto 16, 3) := by decide +kernel
theorem dX9_number_40 : decode cX9_number 40 = .ok (.aload_n 0, 1) := by decide +kernel
theorem dX9_number_41 : decode cX9_number 41 = .ok (.getfield 22, 3) := by decide +kernel
theorem dX9_number_44 : decode cX9_number 44 = .ok (.iload_n 3, 1) := by decide +kernel
theorem dX9_number_45 : decode cX9_number 45 = .ok (.if_icmp .le 8, 3) := by decide +kernel
theorem dX9_number_48 : decode cX9_number 48 = .ok (.aload_n 0, 1) := by decide +kernel
theorem dX9_number_49 : decode cX9_number 49 = .ok (.iconst 4, 1) := by decide +kernel
theorem dX9_number_50 : decode cX9_number 50 = .ok (.invokevirtual 81, 3) := by decide +kernel
theorem dX9_number_53 : decode cX9_number 53 = .ok (.aload_n 0, 1) := by decide +kernel
theorem dX9_number_54 : decode cX9_number 54 = .ok (.getfield 25, 3) := by decide +kernel
theorem dX9_number_57 : decode cX9_number 57 = .ok (.ifCond .eq 5, 3) := by decide +kernel
theorem dX9_number_60 : decode cX9_number 60 = .ok (.iconst 0, 1) := by decide +kernel
theorem dX9_number_61 : decode cX9_number 61 = .ok (.ireturn, 1) := by decide +kernel
theorem dX9_number_62 : decode cX9_number 62 = .ok (.aload_n 0, 1) := by decide +kernel
theorem dX9_number_63 : decode cX9_number 63 = .ok (.getfield 22, 3) := by decide +kernel
theorem dX9_number_66 : decode cX9_number 66 = .ok (.istore 4, 2) := by decide +kernel
theorem dX9_number_68 : decode cX9_number 68 = .ok (.aload_n 0, 1) := by decide +kernel
theorem dX9_number_69 : decode cX9_number 69 = .ok (.invokevirtual 35, 3) := by decide +kernel
theorem dX9_number_72 : decode cX9_number 72 = .ok (.iload 4, 2) := by decide +kernel
theorem dX9_number_74 : decode cX9_number 74 = .ok (.ireturn, 1) := by decide +kernel
theorem hcX9_number : yX9_number.cls ≠ "java/lang/invoke/MethodHandle" ∧ yX9_number.cls ≠ "java/lang/invoke/VarHandle" ∧ (parseMethodDescriptor yX9_number.desc).map (fun d => d.parameters.length) = some 3 := ⟨by decide +kernel, by decide +kernel, by decide +kernel⟩
def fX9_number_j53  (Q : Int → sg_M → Prop) (s_53 : sg_M) : Prop := (((s_53 3 6) = 0 → fX9_advance s_53 (fun s5 => Q (s_53 3 5) s5)) ∧ (¬ ((s_53 3 6) = 0) → Q 0 s_53))
def fX9_number_j32 (s0 : sg_M) (k53 : sg_M → Prop)  : Prop := fX9_fail s0 2 (fun s8 => k53 s8)
def fX9_number (s0 : sg_M) (x1 : Int) (x2 : Int) (x3 : Int) (Q : Int → sg_M → Prop) : Prop := (((s0 3 2) = 2 → (((s0 3 5) < x1 → (fX9_number_j32 s0 (fX9_number_j53  Q))) ∧ (¬ ((s0 3 5) < x1) → (((s0 3 5) ≤ x2 → (((s0 3 5) ≤ x3 → (fX9_number_j53  Q) s0) ∧ (¬ ((s0 3 5) ≤ x3) → fX9_fail s0 4 (fun s14 => (fX9_number_j53  Q) s14)))) ∧ (¬ ((s0 3 5) ≤ x2) → (fX9_number_j32 s0 (fX9_number_j53  Q))))))) ∧ (¬ ((s0 3 2) = 2) → fX9_fail s0 1 (fun s15 => (fX9_number_j53  Q) s15)))
set_option maxHeartbeats 4000000 in
set_option maxRecDepth 100000 in
theorem CX9_number {l : Launch} {G : sg_G} {La : sg_L} {s0 : sg_M} (hst : sg_St La) {x1 : Int} (r1 : sg_R x1) {x2 : Int} (r2 : sg_R x2) {x3 : Int} (r3 : sg_R x3) {Q : Int → sg_M → Prop} (hf : fX9_number s0 x1 x2 x3 Q) : sg_C l G yX9_number cX9_number 5 (some .int) 3 0 0 La s0 [sg_r 3, sg_i x1, sg_i x2, sg_i x3] (sg_HI La Q) := by
  refine sg_body (by decide +kernel) (Nat.le_of_ble_eq_true rfl) ?_
  intro p e s m args below meth c F hnm
  unfold fX9_number at hf
  show sg_W p l e (sg_rm 3 0 0) s m args below meth c (MQ below (sg_Q (some .int) G La s.heap.size (sg_HI La Q)) args s 0 0 (sg_A La s.heap.size)) 5 G (sg_A La s.heap.size) La s0 0 0 0 [(0, sg_r 3), (1, sg_i x1), (2, sg_i x2), (3, sg_i x3)] []
  refine gw_aload_n F 0 rfl rfl (by decide) dX9_number_0 ?_
  refine gw_get0 F (so_3 hst) (by decide) rfl sg_lay_RX9 (j := 2) (by decide) rfl (host := "") (.inl kw_140) dX9_number_1 (fun h1 => ?_)
  refine gw_iconst F dX9_number_4 ?_
  have J53 : ∀ (s_53 : sg_M), (fX9_number_j53  Q) s_53 → sg_W p l e (sg_rm 3 0 0) s m args below meth c (MQ below (sg_Q (some .int) G La s.heap.size (sg_HI La Q)) args s 0 0 (sg_A La s.heap.size)) 5 G (sg_A La s.heap.size) La s_53 0 0 53 [(0, sg_r 3)] [] := by
    intro s_53 hf
    unfold fX9_number_j53 at hf
    refine gw_aload_n F 0 rfl rfl (by decide) dX9_number_53 ?_
    refine gw_get0 F (so_3 hst) (by decide) rfl sg_lay_RX9 (j := 6) (by decide) rfl (host := "") (.inl kw_144) dX9_number_54 (fun h2 => ?_)
    refine gw_if_eq F (tgt := 62) dX9_number_57 (by decide) h2 (fun c3 => ?_) (fun c3 => ?_)
    · have hf := hf.1 c3
      refine gw_aload_n F 0 rfl rfl (by decide) dX9_number_62 ?_
      refine gw_get0 F (so_3 hst) (by decide) rfl sg_lay_RX9 (j := 5) (by decide) rfl (host := "") (.inl kw_143) dX9_number_63 (fun h4 => ?_)
      refine gw_istore F (by decide) rfl dX9_number_66 ?_
      refine gw_aload_n F 1 rfl rfl (by decide) dX9_number_68 ?_
      refine gk_HV F (gc_V F (S := []) (As := []) (T := TX9) (N := 8) (CX9_advance hst hf) (so_3 hst) (by decide) rfl kw_368 kw_92 kw_365 kw_366 kw_367 hcX9_advance ⟨by decide, by decide⟩ rfl rfl (Nat.le_of_ble_eq_true rfl) ⟨by decide, by decide⟩ dX9_number_69) (fun s5 hf => ?_)
      refine gw_iload F 0 rfl dX9_number_72 ?_
      exact gr_HI F h4 hf (by decide) (by decide) dX9_number_74
    · have hf := hf.2 c3
      refine gw_iconst F dX9_number_60 ?_
      exact gr_HI F (by decide) hf (by decide) (by decide) dX9_number_61
  refine gw_icmp_eq F (tgt := 16) dX9_number_5 (by decide) h1 (by decide) (fun c6 => ?_) (fun c6 => ?_)
  · have hf := hf.1 c6
    refine gw_aload_n F 0 rfl rfl (by decide) dX9_number_16 ?_
    refine gw_get0 F (so_3 hst) (by decide) rfl sg_lay_RX9 (j := 5) (by decide) rfl (host := "") (.inl kw_143) dX9_number_17 (fun h7 => ?_)
    refine gw_iload_n F 1 rfl rfl dX9_number_20 ?_
    have J32 : (fX9_number_j32 s0 (fX9_number_j53  Q)) → sg_W p l e (sg_rm 3 0 0) s m args below meth c (MQ below (sg_Q (some .int) G La s.heap.size (sg_HI La Q)) args s 0 0 (sg_A La s.heap.size)) 5 G (sg_A La s.heap.size) La s0 0 0 32 [(0, sg_r 3)] [] := by
      intro hf
      unfold fX9_number_j32 at hf
      refine gw_aload_n F 0 rfl rfl (by decide) dX9_number_32 ?_
      refine gw_iconst F dX9_number_33 ?_
      refine gk_HV F (gc_V F (S := []) (As := [sg_i 2]) (T := TX9) (N := 8) (CX9_fail hst (by decide) hf) (so_3 hst) (by decide) rfl kw_457 kw_92 kw_454 kw_455 kw_456 hcX9_fail ⟨by decide, by decide⟩ rfl rfl (Nat.le_of_ble_eq_true rfl) ⟨by decide, by decide⟩ dX9_number_34) (fun s8 hf => ?_)
      refine gw_goto F (tgt := 53) dX9_number_37 (by decide) ?_
      refine gw_sub [0] rfl ?_
      exact J53 s8 hf
    refine gw_icmp_lt F (tgt := 32) dX9_number_21 (by decide) h7 r1 (fun c9 => ?_) (fun c9 => ?_)
    · have hf := hf.1 c9
      refine gw_sub [0] rfl ?_
      exact J32  hf
    · have hf := hf.2 c9
      refine gw_aload_n F 0 rfl rfl (by decide) dX9_number_24 ?_
      refine gw_get0 F (so_3 hst) (by decide) rfl sg_lay_RX9 (j := 5) (by decide) rfl (host := "") (.inl kw_143) dX9_number_25 (fun h10 => ?_)
      refine gw_iload_n F 2 rfl rfl dX9_number_28 ?_
      refine gw_icmp_le F (tgt := 40) dX9_number_29 (by decide) h10 r2 (fun c11 => ?_) (fun c11 => ?_)
      · have hf := hf.1 c11
        refine gw_aload_n F 0 rfl rfl (by decide) dX9_number_40 ?_
        refine gw_get0 F (so_3 hst) (by decide) rfl sg_lay_RX9 (j := 5) (by decide) rfl (host := "") (.inl kw_143) dX9_number_41 (fun h12 => ?_)
        refine gw_iload_n F 3 rfl rfl dX9_number_44 ?_
        refine gw_icmp_le F (tgt := 53) dX9_number_45 (by decide) h12 r3 (fun c13 => ?_) (fun c13 => ?_)
        · have hf := hf.1 c13
          refine gw_sub [0] rfl ?_
          exact J53 s0 hf
        · have hf := hf.2 c13
          refine gw_aload_n F 0 rfl rfl (by decide) dX9_number_48 ?_
          refine gw_iconst F dX9_number_49 ?_
          refine gk_HV F (gc_V F (S := []) (As := [sg_i 4]) (T := TX9) (N := 8) (CX9_fail hst (by decide) hf) (so_3 hst) (by decide) rfl kw_457 kw_92 kw_454 kw_455 kw_456 hcX9_fail ⟨by decide, by decide⟩ rfl rfl (Nat.le_of_ble_eq_true rfl) ⟨by decide, by decide⟩ dX9_number_50) (fun s14 hf => ?_)
          refine gw_sub [0] rfl ?_
          exact J53 s14 hf
      · have hf := hf.2 c11
        refine gw_sub [0] rfl ?_
        exact J32  hf
  · have hf := hf.2 c6
    refine gw_aload_n F 0 rfl rfl (by decide) dX9_number_8 ?_
    refine gw_iconst F dX9_number_9 ?_
    refine gk_HV F (gc_V F (S := []) (As := [sg_i 1]) (T := TX9) (N := 8) (CX9_fail hst (by decide) hf) (so_3 hst) (by decide) rfl kw_457 kw_92 kw_454 kw_455 kw_456 hcX9_fail ⟨by decide, by decide⟩ rfl rfl (Nat.le_of_ble_eq_true rfl) ⟨by decide, by decide⟩ dX9_number_10) (fun s15 hf => ?_)
    refine gw_goto F (tgt := 53) dX9_number_13 (by decide) ?_
    refine gw_sub [0] rfl ?_
    exact J53 s15 hf
