theorem dX9_mustBeSign_0 : decode cX9_mustBeSign 0 = .ok (.aload_n 0, 1) := by decide +kernel
theorem dX9_mustBeSign_1 : decode cX9_mustBeSign 1 = .ok (.iload_n 1, 1) := by decide +kernel
theorem dX9_mustBeSign_2 : decode cX9_mustBeSign 2 = .ok (.invokevirtual 78, 3) := by decide +kernel
theorem dX9_mustBeSign_5 : decode cX9_mustBeSign 5 = .ok (.ifCond .ne 8, 3) := by decide +kernel
theorem dX9_mustBeSign_8 : decode cX9_mustBeSign 8 = .ok (.aload_n 0, 1) := by decide +kernel
theorem dX9_mustBeSign_9 : decode cX9_mustBeSign 9 = .ok (.iconst 1, 1) := by decide +kernel
theorem dX9_mustBeSign_10 : decode cX9_mustBeSign 10 = .ok (.invokevirtual 81, 3) := by decide +kernel
theorem dX9_mustBeSign_13 : decode cX9_mustBeSign 13 = .ok (.return_, 1) := by decide +kernel
theorem hcX9_mustBeSign : yX9_mustBeSign.cls ≠ "java/lang/invoke/MethodHandle" ∧ yX9_mustBeSign.cls ≠ "java/lang/invoke/VarHandle" ∧ (parseMethodDescriptor yX9_mustBeSign.desc).map (fun d => d.parameters.length) = some 1 := ⟨by decide +kernel, by decide +kernel, by decide +kernel⟩
def fX9_mustBeSign (s0 : sg_M) (x1 : Int) (Q : sg_M → Prop) : Prop := fX9_skipSign s0 x1 (fun u1 s3 => ((u1 ≠ 0 → Q s3) ∧ (u1 = 0 → fX9_fail s3 1 (fun s5 => Q s5))))
set_option maxHeartbeats 4000000 in
set_option maxRecDepth 100000 in
theorem CX9_mustBeSign {l : Launch} {G : sg_G} {La : sg_L} {s0 : sg_M} (hst : sg_St La) {x1 : Int} (r1 : sg_R x1) {Q : sg_M → Prop} (hf : fX9_mustBeSign s0 x1 Q) : sg_C l G yX9_mustBeSign cX9_mustBeSign 2 (none) 4 0 0 La s0 [sg_r 3, sg_i x1] (sg_HV La Q) := by
  refine sg_body (by decide +kernel) (Nat.le_of_ble_eq_true rfl) ?_
  intro p e s m args below meth c F hnm
  unfold fX9_mustBeSign at hf
  show sg_W p l e (sg_rm 4 0 0) s m args below meth c (MQ below (sg_Q (none) G La s.heap.size (sg_HV La Q)) args s 0 0 (sg_A La s.heap.size)) 2 G (sg_A La s.heap.size) La s0 0 0 0 [(0, sg_r 3), (1, sg_i x1)] []
  refine gw_aload_n F 0 rfl rfl (by decide) dX9_mustBeSign_0 ?_
  refine gw_iload_n F 1 rfl rfl dX9_mustBeSign_1 ?_
  refine gk_HZ F (gc_V F (S := []) (As := [sg_i x1]) (T := TX9) (N := 8) (CX9_skipSign hst r1 hf) (so_3 hst) (by decide) rfl kw_464 kw_92 kw_483 kw_462 kw_463 hcX9_skipSign ⟨by decide, by decide⟩ rfl rfl (Nat.le_of_ble_eq_true rfl) ⟨by decide, by decide⟩ dX9_mustBeSign_2) (fun u1 s3 h2 hf => ?_)
  refine gw_if_ne F (tgt := 13) dX9_mustBeSign_5 (by decide) (sg_B_R h2) (fun c4 => ?_) (fun c4 => ?_)
  · have hf := hf.1 c4
    exact gr_HV F hf (by decide) (by decide) dX9_mustBeSign_13
  · have hf := hf.2 c4
    refine gw_aload_n F 0 rfl rfl (by decide) dX9_mustBeSign_8 ?_
    refine gw_iconst F dX9_mustBeSign_9 ?_
    refine gk_HV F (gc_V F (S := []) (As := [sg_i 1]) (T := TX9) (N := 8) (CX9_fail hst (by decide) hf) (so_3 hst) (by decide) rfl kw_457 kw_92 kw_454 kw_455 kw_456 hcX9_fail ⟨by decide, by decide⟩ rfl rfl (Nat.le_of_ble_eq_true rfl) ⟨by decide, by decide⟩ dX9_mustBeSign_10) (fun s5 hf => ?_)
    exact gr_HV F hf (by decide) (by decide) dX9_mustBeSign_13

theorem dX11_tellsTones_0 : decode cX11_tellsTones 0 = .ok (.aload_n 0, 1) := by decide +kernel
theorem dX11_tellsTones_1 : decode cX11_tellsTones 1 = .ok (.getfield 10, 3) := by decide +kernel
theorem dX11_tellsTones_4 : decode cX11_tellsTones 4 = .ok (.getfield 122, 3) := by decide +kernel
theorem dX11_tellsTones_7 : decode cX11_tellsTones 7 = .ok (.iconst 3, 1) := by decide +kernel
theorem dX11_tellsTones_8 : decode cX11_tellsTones 8 = .ok (.if_icmp .lt 27, 3) := by decide +kernel
theorem dX11_tellsTones_11 : decode cX11_tellsTones 11 = .ok (.aload_n 0, 1) := by decide +kernel
theorem dX11_tellsTones_12 : decode cX11_tellsTones 12 = .ok (.getfield 10, 3) := by decide +kernel
theorem dX11_tellsTones_15 : decode cX11_tellsTones 15 = .ok (.getfield 122, 3) := by decide +kernel
theorem dX11_tellsTones_18 : decode cX11_tellsTones 18 = .ok (.bipush 120, 2) := by decide +kernel
theorem dX11_tellsTones_20 : decode cX11_tellsTones 20 = .ok (.if_icmp .gt 15, 3) := by decide +kernel
theorem dX11_tellsTones_23 : decode cX11_tellsTones 23 = .ok (.aload_n 0, 1) := by decide +kernel
theorem dX11_tellsTones_24 : decode cX11_tellsTones 24 = .ok (.getfield 10, 3) := by decide +kernel
theorem dX11_tellsTones_27 : decode cX11_tellsTones 27 = .ok (.getfield 122, 3) := by decide +kernel
theorem dX11_tellsTones_30 : decode cX11_tellsTones 30 = .ok (.iconst 3, 1) := by decide +kernel
theorem dX11_tellsTones_31 : decode cX11_tellsTones 31 = .ok (.irem, 1) := by decide +kernel
theorem dX11_tellsTones_32 : decode cX11_tellsTones 32 = .ok (.ifCond .eq 5, 3) := by decide +kernel
theorem dX11_tellsTones_35 : decode cX11_tellsTones 35 = .ok (.iconst 0, 1) := by decide +kernel
theorem dX11_tellsTones_36 : decode cX11_tellsTones 36 = .ok (.ireturn, 1) := by decide +kernel
theorem dX11_tellsTones_37 : decode cX11_tellsTones 37 = .ok (.iconst 0, 1) := by decide +kernel
theorem dX11_tellsTones_38 : decode cX11_tellsTones 38 = .ok (.istore_n 1, 1) := by decide +kernel
theorem dX11_tellsTones_39 : decode cX11_tellsTones 39 = .ok (.iload_n 1, 1) := by decide +kernel
theorem dX11_tellsTones_40 : decode cX11_tellsTones 40 = .ok (.aload_n 0, 1) := by decide +kernel
theorem dX11_tellsTones_41 : decode cX11_tellsTones 41 = .ok (.getfield 10, 3) := by decide +kernel
theorem dX11_tellsTones_44 : decode cX11_tellsTones 44 = .ok (.getfield 122, 3) := by decide +kernel
theorem dX11_tellsTones_47 : decode cX11_tellsTones 47 = .ok (.if_icmp .ge 48, 3) := by decide +kernel
theorem dX11_tellsTones_50 : decode cX11_tellsTones 50 = .ok (.aload_n 0, 1) := by decide +kernel
theorem dX11_tellsTones_51 : decode cX11_tellsTones 51 = .ok (.getfield 10, 3) := by decide +kernel
theorem dX11_tellsTones_54 : decode cX11_tellsTones 54 = .ok (.iload_n 1, 1) := by decide +kernel
theorem dX11_tellsTones_55 : decode cX11_tellsTones 55 = .ok (.invokevirtual 362, 3) := by decide +kernel
theorem dX11_tellsTones_58 : decode cX11_tellsTones 58 = .ok (.aload_n 0, 1) := by decide +kernel
theorem dX11_tellsTones_59 : decode cX11_tellsTones 59 = .ok (.getfield 39, 3) := by decide +kernel
theorem dX11_tellsTones_62 : decode cX11_tellsTones 62 = .ok (.getfield 237, 3) := by decide +kernel
theorem dX11_tellsTones_65 : decode cX11_tellsTones 65 = .ok (.getfield 241, 3) := by decide +kernel
theorem dX11_tellsTones_68 : decode cX11_tellsTones 68 = .ok (.if_icmp .ge 19, 3) := by decide +kernel
theorem dX11_tellsTones_71 : decode cX11_tellsTones 71 = .ok (.aload_n 0, 1) := by decide +kernel
theorem dX11_tellsTones_72 : decode cX11_tellsTones 72 = .ok (.getfield 10, 3) := by decide +kernel
theorem dX11_tellsTones_75 : decode cX11_tellsTones 75 = .ok (.iload_n 1, 1) := by decide +kernel
theorem dX11_tellsTones_76 : decode cX11_tellsTones 76 = .ok (.iconst 1, 1) := by decide +kernel
theorem dX11_tellsTones_77 : decode cX11_tellsTones 77 = .ok (.iadd, 1) := by decide +kernel
theorem dX11_tellsTones_78 : decode cX11_tellsTones 78 = .ok (.invokevirtual 365, 3) := by decide +kernel
theorem dX11_tellsTones_81 : decode cX11_tellsTones 81 = .ok (.invokestatic 268, 3) := by decide +kernel
theorem dX11_tellsTones_84 : decode cX11_tellsTones 84 = .ok (.ifCond .ne 5, 3) := by decide +kernel
theorem dX11_tellsTones_87 : decode cX11_tellsTones 87 = .ok (.iconst 0, 1) := by decide +kernel
theorem dX11_tellsTones_88 : decode cX11_tellsTones 88 = .ok (.ireturn, 1) := by decide +kernel
theorem dX11_tellsTones_89 : decode cX11_tellsTones 89 = .ok (.iinc 1 3, 3) := by decide +kernel
theorem dX11_tellsTones_92 : decode cX11_tellsTones 92 = .ok (.goto (-53), 3) := by decide +kernel
theorem dX11_tellsTones_95 : decode cX11_tellsTones 95 = .ok (.iconst 1, 1) := by decide +kernel
theorem dX11_tellsTones_96 : decode cX11_tellsTones 96 = .ok (.ireturn, 1) := by decide +kernel
theorem hcX11_tellsTones : yX11_tellsTones.cls ≠ "java/lang/invoke/MethodHandle" ∧ yX11_tellsTones.cls ≠ "java/lang/invoke/VarHandle" ∧ (parseMethodDescriptor yX11_tellsTones.desc).map (fun d => d.parameters.length) = some 0 := ⟨by decide +kernel, by decide +kernel, by decide +kernel⟩
def fX11_tellsTones_L39 (s0 : sg_M) (Q : Int → Prop) : Nat → Int → Prop
  | 0, _ => False
  | n_39 + 1, x1_39 => (((s0 1 1) ≤ x1_39 → Q 1) ∧ (¬ ((s0 1 1) ≤ x1_39) → fX8_byteAt s0 x1_39 (fun u15 => (((s0 20 2) ≤ u15 → Q 0) ∧ (¬ ((s0 20 2) ≤ u15) → sg_R (x1_39 + 1) ∧ fX8_pairAt s0 (x1_39 + 1) (fun u23 => fX11_isTone u23 (fun u25 => ((u25 ≠ 0 → sg_R (x1_39 + 3) ∧ (fX11_tellsTones_L39 s0 Q n_39) (x1_39 + 3)) ∧ (u25 = 0 → Q 0)))))))))
def fX11_tellsTones (s0 : sg_M) (Q : Int → Prop) : Prop := (((s0 1 1) < 3 → Q 0) ∧ (¬ ((s0 1 1) < 3) → ((120 < (s0 1 1) → Q 0) ∧ (¬ (120 < (s0 1 1)) → sg_R (Int.tmod (s0 1 1) 3) ∧ (((Int.tmod (s0 1 1) 3) = 0 → (∃ n29 : Nat, fX11_tellsTones_L39 s0 Q n29 0)) ∧ (¬ ((Int.tmod (s0 1 1) 3) = 0) → Q 0))))))
set_option maxHeartbeats 4000000 in
set_option maxRecDepth 100000 in
theorem CX11_tellsTones {l : Launch} {G : sg_G} {La : sg_L} {s0 : sg_M} (hst : sg_St La) {Q : Int → Prop} (hf : fX11_tellsTones s0 Q) : sg_C l G yX11_tellsTones cX11_tellsTones 2 (some .boolean) 3 0 0 La s0 [sg_r 0] (sg_PZ La s0 Q) := by
  refine sg_body (by decide +kernel) (Nat.le_of_ble_eq_true rfl) ?_
  intro p e s m args below meth c F hnm
  unfold fX11_tellsTones at hf
  show sg_W p l e (sg_rm 3 0 0) s m args below meth c (MQ below (sg_Q (some .boolean) G La s.heap.size (sg_PZ La s0 Q)) args s 0 0 (sg_A La s.heap.size)) 2 G (sg_A La s.heap.size) La s0 0 0 0 [(0, sg_r 0)] []
  refine gw_aload_n F 0 rfl rfl (by decide) dX11_tellsTones_0 ?_
  refine gw_get7 F (so_0 hst) (by decide) rfl sg_lay_RX11 (j := 0) (by decide) (o1 := 1) (by first | rfl | omega) rfl (host := "") (.inl kw_326) dX11_tellsTones_1 (fun h1 => ?_)
  refine gw_get0 F (so_1 hst) (by decide) rfl sg_lay_RX8 (j := 1) (by decide) rfl (.inr kw_128) dX11_tellsTones_4 (fun h2 => ?_)
  refine gw_iconst F dX11_tellsTones_7 ?_
  refine gw_icmp_lt F (tgt := 35) dX11_tellsTones_8 (by decide) h2 (by decide) (fun c3 => ?_) (fun c3 => ?_)
  · have hf := hf.1 c3
    refine gw_iconst F dX11_tellsTones_35 ?_
    exact gr_PZ F (by decide) hf (by decide) (by decide) dX11_tellsTones_36
  · have hf := hf.2 c3
    refine gw_aload_n F 0 rfl rfl (by decide) dX11_tellsTones_11 ?_
    refine gw_get7 F (so_0 hst) (by decide) rfl sg_lay_RX11 (j := 0) (by decide) (o1 := 1) (by first | rfl | omega) rfl (host := "") (.inl kw_326) dX11_tellsTones_12 (fun h4 => ?_)
    refine gw_get0 F (so_1 hst) (by decide) rfl sg_lay_RX8 (j := 1) (by decide) rfl (.inr kw_128) dX11_tellsTones_15 (fun h5 => ?_)
    refine gw_bipush F rfl dX11_tellsTones_18 ?_
    refine gw_icmp_gt F (tgt := 35) dX11_tellsTones_20 (by decide) h5 (by decide) (fun c6 => ?_) (fun c6 => ?_)
    · have hf := hf.1 c6
      refine gw_iconst F dX11_tellsTones_35 ?_
      exact gr_PZ F (by decide) hf (by decide) (by decide) dX11_tellsTones_36
    · have hf := hf.2 c6
      refine gw_aload_n F 0 rfl rfl (by decide) dX11_tellsTones_23 ?_
      refine gw_get7 F (so_0 hst) (by decide) rfl sg_lay_RX11 (j := 0) (by decide) (o1 := 1) (by first | rfl | omega) rfl (host := "") (.inl kw_326) dX11_tellsTones_24 (fun h7 => ?_)
      refine gw_get0 F (so_1 hst) (by decide) rfl sg_lay_RX8 (j := 1) (by decide) rfl (.inr kw_128) dX11_tellsTones_27 (fun h8 => ?_)
      refine gw_iconst F dX11_tellsTones_30 ?_
      refine gw_irem F h8 (by decide) (by decide) rfl dX11_tellsTones_31 ?_
      obtain ⟨g9, hf⟩ := hf
      refine gw_if_eq F (tgt := 37) dX11_tellsTones_32 (by decide) g9 (fun c10 => ?_) (fun c10 => ?_)
      · have hf := hf.1 c10
        refine gw_iconst F dX11_tellsTones_37 ?_
        refine gw_istore_n F rfl (by decide) rfl dX11_tellsTones_38 ?_
        have L39 : ∀ n_39 : Nat, ∀ (x1_39 : Int), sg_R x1_39 → fX11_tellsTones_L39 s0 Q n_39 x1_39 → sg_W p l e (sg_rm 3 0 0) s m args below meth c (MQ below (sg_Q (some .boolean) G La s.heap.size (sg_PZ La s0 Q)) args s 0 0 (sg_A La s.heap.size)) 2 G (sg_A La s.heap.size) La s0 0 0 39 [(0, sg_r 0), (1, sg_i x1_39)] [] := by
          intro n_39
          induction n_39 with
          | zero => intro x1_39 r1_39 hf; exact hf.elim
          | succ n_39 ih =>
            intro x1_39 r1_39 hf
            unfold fX11_tellsTones_L39 at hf
            refine gw_iload_n F 1 rfl rfl dX11_tellsTones_39 ?_
            refine gw_aload_n F 0 rfl rfl (by decide) dX11_tellsTones_40 ?_
            refine gw_get7 F (so_0 hst) (by decide) rfl sg_lay_RX11 (j := 0) (by decide) (o1 := 1) (by first | rfl | omega) rfl (host := "") (.inl kw_326) dX11_tellsTones_41 (fun h11 => ?_)
            refine gw_get0 F (so_1 hst) (by decide) rfl sg_lay_RX8 (j := 1) (by decide) rfl (.inr kw_128) dX11_tellsTones_44 (fun h12 => ?_)
            refine gw_icmp_ge F (tgt := 95) dX11_tellsTones_47 (by decide) r1_39 h12 (fun c13 => ?_) (fun c13 => ?_)
            · have hf := hf.1 c13
              refine gw_iconst F dX11_tellsTones_95 ?_
              exact gr_PZ F (by decide) hf (by decide) (by decide) dX11_tellsTones_96
            · have hf := hf.2 c13
              refine gw_aload_n F 0 rfl rfl (by decide) dX11_tellsTones_50 ?_
              refine gw_get7 F (so_0 hst) (by decide) rfl sg_lay_RX11 (j := 0) (by decide) (o1 := 1) (by first | rfl | omega) rfl (host := "") (.inl kw_326) dX11_tellsTones_51 (fun h14 => ?_)
              refine gw_iload_n F 1 rfl rfl dX11_tellsTones_54 ?_
              refine gk_PI F (gc_V F (S := []) (As := [sg_i x1_39]) (T := TX8) (N := 2) (CX8_byteAt hst r1_39 hf) (so_1 hst) (by decide) rfl kw_372 kw_91 kw_764 kw_370 kw_371 hcX8_byteAt ⟨by decide, by decide⟩ rfl rfl (Nat.le_of_ble_eq_true rfl) ⟨by decide, by decide⟩ dX11_tellsTones_55) (fun u15 h16 hf => ?_)
              refine gw_aload_n F 0 rfl rfl (by decide) dX11_tellsTones_58 ?_
              refine gw_get7 F (so_0 hst) (by decide) rfl sg_lay_RX11 (j := 2) (by decide) (o1 := 4) (by first | rfl | omega) rfl (host := "") (.inl kw_328) dX11_tellsTones_59 (fun h17 => ?_)
              refine gw_get7 F (so_4 hst) (by decide) rfl sg_lay_RX7 (j := 3) (by decide) (o1 := 20) (by first | rfl | omega) rfl (.inr kw_240) dX11_tellsTones_62 (fun h18 => ?_)
              refine gw_get0 F (so_20 hst) (by decide) rfl sg_lay_RX2 (j := 2) (by decide) rfl (.inr kw_230) dX11_tellsTones_65 (fun h19 => ?_)
              refine gw_icmp_ge F (tgt := 87) dX11_tellsTones_68 (by decide) h16 h19 (fun c20 => ?_) (fun c20 => ?_)
              · have hf := hf.1 c20
                refine gw_iconst F dX11_tellsTones_87 ?_
                exact gr_PZ F (by decide) hf (by decide) (by decide) dX11_tellsTones_88
              · have hf := hf.2 c20
                refine gw_aload_n F 0 rfl rfl (by decide) dX11_tellsTones_71 ?_
                refine gw_get7 F (so_0 hst) (by decide) rfl sg_lay_RX11 (j := 0) (by decide) (o1 := 1) (by first | rfl | omega) rfl (host := "") (.inl kw_326) dX11_tellsTones_72 (fun h21 => ?_)
                refine gw_iload_n F 1 rfl rfl dX11_tellsTones_75 ?_
                refine gw_iconst F dX11_tellsTones_76 ?_
                refine gw_iadd F rfl dX11_tellsTones_77 ?_
                obtain ⟨g22, hf⟩ := hf
                refine gk_PI F (gc_V F (S := []) (As := [sg_i (x1_39 + 1)]) (T := TX8) (N := 2) (CX8_pairAt hst g22 hf) (so_1 hst) (by decide) rfl kw_680 kw_91 kw_765 kw_678 kw_679 hcX8_pairAt ⟨by decide, by decide⟩ rfl rfl (Nat.le_of_ble_eq_true rfl) ⟨by decide, by decide⟩ dX11_tellsTones_78) (fun u23 h24 hf => ?_)
                refine gk_PZ F (gc_S F (S := []) (As := [sg_i u23]) (CX11_isTone h24 hf) kw_684 kw_90 kw_724 kw_683 hcX11_isTone ⟨by decide, by decide⟩ rfl rfl (Nat.le_of_ble_eq_true rfl) ⟨by decide, by decide⟩ dX11_tellsTones_81) (fun u25 h26 hf => ?_)
                refine gw_if_ne F (tgt := 89) dX11_tellsTones_84 (by decide) (sg_B_R h26) (fun c27 => ?_) (fun c27 => ?_)
                · have hf := hf.1 c27
                  refine gw_iinc F (z := (x1_39 + 3)) 1 rfl (by omega) (by decide) rfl dX11_tellsTones_89 ?_
                  refine gw_goto F (tgt := 39) dX11_tellsTones_92 (by decide) ?_
                  obtain ⟨g28, hf⟩ := hf
                  refine gw_sub [1, 0] rfl ?_
                  exact ih (x1_39 + 3) g28 hf
                · have hf := hf.2 c27
                  refine gw_iconst F dX11_tellsTones_87 ?_
                  exact gr_PZ F (by decide) hf (by decide) (by decide) dX11_tellsTones_88
        obtain ⟨n29, hf⟩ := hf
        refine gw_sub [1, 0] rfl ?_
        refine L39   n29 0 (by decide) hf
      · have hf := hf.2 c10
        refine gw_iconst F dX11_tellsTones_35 ?_
        exact gr_PZ F (by decide) hf (by decide) (by decide) dX11_tellsTones_36

theorem dX11_closeText_0 : decode cX11_closeText 0 = .ok (.aload_n 0, 1) := by decide +kernel
theorem dX11_closeText_1 : decode cX11_closeText 1 = .ok (.getfield 10, 3) := by decide +kernel
theorem dX11_closeText_4 : decode cX11_closeText 4 = .ok (.iconst 0, 1) := by decide +kernel
theorem dX11_closeText_5 : decode cX11_closeText 5 = .ok (.putfield 122, 3) := by decide +kernel
theorem dX11_closeText_8 : decode cX11_closeText 8 = .ok (.aload_n 0, 1) := by decide +kernel
theorem dX11_closeText_9 : decode cX11_closeText 9 = .ok (.aload_n 0, 1) := by decide +kernel
theorem dX11_closeText_10 : decode cX11_closeText 10 = .ok (.getfield 21, 3) := by decide +kernel
theorem dX11_closeText_13 : decode cX11_closeText 13 = .ok (.getfield 135, 3) := by decide +kernel
theorem dX11_closeText_16 : decode cX11_closeText 16 = .ok (.putfield 102, 3) := by decide +kernel
theorem dX11_closeText_19 : decode cX11_closeText 19 = .ok (.aload_n 0, 1) := by decide +kernel
theorem dX11_closeText_20 : decode cX11_closeText 20 = .ok (.getfield 102, 3) := by decide +kernel
theorem dX11_closeText_23 : decode cX11_closeText 23 = .ok (.ifCond .eq 13, 3) := by decide +kernel
theorem dX11_closeText_26 : decode cX11_closeText 26 = .ok (.iconst (-1), 1) := by decide +kernel
theorem dX11_closeText_27 : decode cX11_closeText 27 = .ok (.aload_n 0, 1) := by decide +kernel
theorem dX11_closeText_28 : decode cX11_closeText 28 = .ok (.getfield 21, 3) := by decide +kernel
theorem dX11_closeText_31 : decode cX11_closeText 31 = .ok (.getfield 343, 3) := by decide +kernel
theorem dX11_closeText_34 : decode cX11_closeText 34 = .ok (.isub, 1) := by decide +kernel
theorem dX11_closeText_35 : decode cX11_closeText 35 = .ok (.ireturn, 1) := by decide +kernel
theorem dX11_closeText_36 : decode cX11_closeText 36 = .ok (.aload_n 0, 1) := by decide +kernel
theorem dX11_closeText_37 : decode cX11_closeText 37 = .ok (.invokevirtual 248, 3) := by decide +kernel
theorem dX11_closeText_40 : decode cX11_closeText 40 = .ok (.iload_n 1, 1) := by decide +kernel
theorem dX11_closeText_41 : decode cX11_closeText 41 = .ok (.ireturn, 1) := by decide +kernel
theorem hcX11_closeText : yX11_closeText.cls ≠ "java/lang/invoke/MethodHandle" ∧ yX11_closeText.cls ≠ "java/lang/invoke/VarHandle" ∧ (parseMethodDescriptor yX11_closeText.desc).map (fun d => d.parameters.length) = some 1 := ⟨by decide +kernel, by decide +kernel, by decide +kernel⟩
def fX11_closeText (s0 : sg_M) (x1 : Int) (Q : Int → sg_M → Prop) : Prop := ∀ s2 : sg_M, s2 = sg_up s0 1 1 0 → ∀ s6 : sg_M, s6 = sg_up s2 0 16 (s2 3 6) → (((s6 0 16) = 0 → fX11_forgetAnswers s6 (fun s10 => Q x1 s10)) ∧ (¬ ((s6 0 16) = 0) → sg_R ((-1) - (s6 3 7)) ∧ Q ((-1) - (s6 3 7)) s6))
set_option maxHeartbeats 4000000 in
set_option maxRecDepth 100000 in
theorem CX11_closeText {l : Launch} {G : sg_G} {La : sg_L} {s0 : sg_M} (hst : sg_St La) {x1 : Int} (r1 : sg_R x1) {Q : Int → sg_M → Prop} (hf : fX11_closeText s0 x1 Q) : sg_C l G yX11_closeText cX11_closeText 2 (some .int) 2 0 0 La s0 [sg_r 0, sg_i x1] (sg_HI La Q) := by
  refine sg_body (by decide +kernel) (Nat.le_of_ble_eq_true rfl) ?_
  intro p e s m args below meth c F hnm
  unfold fX11_closeText at hf
  show sg_W p l e (sg_rm 2 0 0) s m args below meth c (MQ below (sg_Q (some .int) G La s.heap.size (sg_HI La Q)) args s 0 0 (sg_A La s.heap.size)) 2 G (sg_A La s.heap.size) La s0 0 0 0 [(0, sg_r 0), (1, sg_i x1)] []
  refine gw_aload_n F 0 rfl rfl (by decide) dX11_closeText_0 ?_
  refine gw_get7 F (so_0 hst) (by decide) rfl sg_lay_RX11 (j := 0) (by decide) (o1 := 1) (by first | rfl | omega) rfl (host := "") (.inl kw_326) dX11_closeText_1 (fun h1 => ?_)
  refine gw_iconst F dX11_closeText_4 ?_
  obtain ⟨s2, e3⟩ : ∃ z : sg_M, z = sg_up s0 1 1 0 := ⟨_, rfl⟩
  have hf := hf s2 e3
  refine gw_put0 F (so_1 hst) (by decide) rfl sg_lay_RX8 (j := 1) (by decide) (by decide) e3 tyX8_ok nmX8 rfl (tyX8_ok 1 (by decide)) rfl (.inr kw_128) dX11_closeText_5 ?_
  refine gw_aload_n F 0 rfl rfl (by decide) dX11_closeText_8 ?_
  refine gw_aload_n F 0 rfl rfl (by decide) dX11_closeText_9 ?_
  refine gw_get7 F (so_0 hst) (by decide) rfl sg_lay_RX11 (j := 1) (by decide) (o1 := 3) (by first | rfl | omega) rfl (host := "") (.inl kw_327) dX11_closeText_10 (fun h4 => ?_)
  refine gw_get0 F (so_3 hst) (by decide) rfl sg_lay_RX9 (j := 6) (by decide) rfl (.inr kw_145) dX11_closeText_13 (fun h5 => ?_)
  obtain ⟨s6, e7⟩ : ∃ z : sg_M, z = sg_up s2 0 16 (s2 3 6) := ⟨_, rfl⟩
  have hf := hf s6 e7
  refine gw_put0 F (so_0 hst) (by decide) rfl sg_lay_RX11 (j := 16) (by decide) h5 e7 tyX11_ok nmX11 rfl (tyX11_ok 16 (by decide)) rfl (host := "") (.inl kw_342) dX11_closeText_16 ?_
  refine gw_aload_n F 0 rfl rfl (by decide) dX11_closeText_19 ?_
  refine gw_get0 F (so_0 hst) (by decide) rfl sg_lay_RX11 (j := 16) (by decide) rfl (host := "") (.inl kw_342) dX11_closeText_20 (fun h8 => ?_)
  refine gw_if_eq F (tgt := 36) dX11_closeText_23 (by decide) h8 (fun c9 => ?_) (fun c9 => ?_)
  · have hf := hf.1 c9
    refine gw_aload_n F 0 rfl rfl (by decide) dX11_closeText_36 ?_
    refine gk_HV F (gc_V F (S := []) (As := []) (T := TX11) (N := 19) (CX11_forgetAnswers hst hf) (so_0 hst) (by decide) rfl kw_490 kw_90 kw_488 kw_489 kw_3 hcX11_forgetAnswers ⟨by decide, by decide⟩ rfl rfl (Nat.le_of_ble_eq_true rfl) ⟨by decide, by decide⟩ dX11_closeText_37) (fun s10 hf => ?_)
    refine gw_iload_n F 1 rfl rfl dX11_closeText_40 ?_
    exact gr_HI F r1 hf (by decide) (by decide) dX11_closeText_41
  · have hf := hf.2 c9
    refine gw_iconst F dX11_closeText_26 ?_
    refine gw_aload_n F 0 rfl rfl (by decide) dX11_closeText_27 ?_
    refine gw_get7 F (so_0 hst) (by decide) rfl sg_lay_RX11 (j := 1) (by decide) (o1 := 3) (by first | rfl | omega) rfl (host := "") (.inl kw_327) dX11_closeText_28 (fun h11 => ?_)
    refine gw_get0 F (so_3 hst) (by decide) rfl sg_lay_RX9 (j := 7) (by decide) rfl (.inr kw_149) dX11_closeText_31 (fun h12 => ?_)
    refine gw_isub F rfl dX11_closeText_34 ?_
    obtain ⟨g13, hf⟩ := hf
    exact gr_HI F g13 hf (by decide) (by decide) dX11_closeText_35

theorem dX1_fillUntold_0 : decode cX1_fillUntold 0 = .ok (.aload_n 0, 1) := by decide +kernel
theorem dX1_fillUntold_1 : decode cX1_fillUntold 1 = .ok (.aload_n 0, 1) := by decide +kernel
theorem dX1_fillUntold_2 : decode cX1_fillUntold 2 = .ok (.getfield 28, 3) := by decide +kernel
theorem dX1_fillUntold_5 : decode cX1_fillUntold 5 = .ok (.ifCond .ne 9, 3) := by decide +kernel
theorem dX1_fillUntold_8 : decode cX1_fillUntold 8 = .ok (.sipush 300, 3) := by decide +kernel
theorem dX1_fillUntold_11 : decode cX1_fillUntold 11 = .ok (.goto 7, 3) := by decide +kernel
theorem dX1_fillUntold_14 : decode cX1_fillUntold 14 = .ok (.aload_n 0, 1) := by decide +kernel
theorem dX1_fillUntold_15 : decode cX1_fillUntold 15 = .ok (.getfield 28, 3) := by decide +kernel
theorem dX1_fillUntold_18 : decode cX1_fillUntold 18 = .ok (.putfield 28, 3) := by decide +kernel
theorem dX1_fillUntold_21 : decode cX1_fillUntold 21 = .ok (.aload_n 0, 1) := by decide +kernel
theorem dX1_fillUntold_22 : decode cX1_fillUntold 22 = .ok (.aload_n 0, 1) := by decide +kernel
theorem dX1_fillUntold_23 : decode cX1_fillUntold 23 = .ok (.getfield 31, 3) := by decide +kernel
theorem dX1_fillUntold_26 : decode cX1_fillUntold 26 = .ok (.ifCond .ne 9, 3) := by decide +kernel
theorem dX1_fillUntold_29 : decode cX1_fillUntold 29 = .ok (.sipush 2000, 3) := by decide +kernel
theorem dX1_fillUntold_32 : decode cX1_fillUntold 32 = .ok (.goto 7, 3) := by decide +kernel
theorem dX1_fillUntold_35 : decode cX1_fillUntold 35 = .ok (.aload_n 0, 1) := by decide +kernel
theorem dX1_fillUntold_36 : decode cX1_fillUntold 36 = .ok (.getfield 31, 3) := by decide +kernel
theorem dX1_fillUntold_39 : decode cX1_fillUntold 39 = .ok (.putfield 31, 3) := by decide +kernel
theorem dX1_fillUntold_42 : decode cX1_fillUntold 42 = .ok (.return_, 1) := by decide +kernel
theorem hcX1_fillUntold : yX1_fillUntold.cls ≠ "java/lang/invoke/MethodHandle" ∧ yX1_fillUntold.cls ≠ "java/lang/invoke/VarHandle" ∧ (parseMethodDescriptor yX1_fillUntold.desc).map (fun d => d.parameters.length) = some 0 := ⟨by decide +kernel, by decide +kernel, by decide +kernel⟩
def fX1_fillUntold_j18 (s0 : sg_M) (o : Int) (Q : sg_M → Prop) (y0_18 : Int) : Prop := ∀ s2 : sg_M, s2 = sg_up s0 o 5 y0_18 → (((s2 o 6) ≠ 0 → ∀ s7 : sg_M, s7 = sg_up s2 o 6 (s2 o 6) → Q s7) ∧ ((s2 o 6) = 0 → ∀ s9 : sg_M, s9 = sg_up s2 o 6 2000 → Q s9))
def fX1_fillUntold (s0 : sg_M) (o : Int) (Q : sg_M → Prop) : Prop := (((s0 o 5) ≠ 0 → (fX1_fillUntold_j18 s0 o Q) (s0 o 5)) ∧ ((s0 o 5) = 0 → (fX1_fillUntold_j18 s0 o Q) 300))
set_option maxHeartbeats 4000000 in
set_option maxRecDepth 100000 in
theorem CX1_fillUntold {l : Launch} {G : sg_G} {La : sg_L} {s0 : sg_M} {o : Int} (to : sg_O La o 1) {Q : sg_M → Prop} (hf : fX1_fillUntold s0 o Q) : sg_C l G yX1_fillUntold cX1_fillUntold 1 (none) 1 0 0 La s0 [sg_r o] (sg_HV La Q) := by
  refine sg_body (by decide +kernel) (Nat.le_of_ble_eq_true rfl) ?_
  intro p e s m args below meth c F hnm
  unfold fX1_fillUntold at hf
  show sg_W p l e (sg_rm 1 0 0) s m args below meth c (MQ below (sg_Q (none) G La s.heap.size (sg_HV La Q)) args s 0 0 (sg_A La s.heap.size)) 1 G (sg_A La s.heap.size) La s0 0 0 0 [(0, sg_r o)] []
  refine gw_aload_n F 0 rfl rfl to.1 dX1_fillUntold_0 ?_
  refine gw_aload_n F 0 rfl rfl to.1 dX1_fillUntold_1 ?_
  refine gw_get0 F to (by decide) rfl sg_lay_RX1 (j := 5) (by decide) rfl (host := "") (.inl kw_166) dX1_fillUntold_2 (fun h1 => ?_)
  have J18 : ∀ (y0_18 : Int), sg_R y0_18 → (fX1_fillUntold_j18 s0 o Q) y0_18 → sg_W p l e (sg_rm 1 0 0) s m args below meth c (MQ below (sg_Q (none) G La s.heap.size (sg_HV La Q)) args s 0 0 (sg_A La s.heap.size)) 1 G (sg_A La s.heap.size) La s0 0 0 18 [(0, sg_r o)] [sg_i y0_18, sg_r o] := by
    intro y0_18 ry0_18 hf
    unfold fX1_fillUntold_j18 at hf
    obtain ⟨s2, e3⟩ : ∃ z : sg_M, z = sg_up s0 o 5 y0_18 := ⟨_, rfl⟩
    have hf := hf s2 e3
    refine gw_put0 F to (by decide) rfl sg_lay_RX1 (j := 5) (by decide) ry0_18 e3 tyX1_ok nmX1 rfl (tyX1_ok 5 (by decide)) rfl (host := "") (.inl kw_166) dX1_fillUntold_18 ?_
    refine gw_aload_n F 0 rfl rfl to.1 dX1_fillUntold_21 ?_
    refine gw_aload_n F 0 rfl rfl to.1 dX1_fillUntold_22 ?_
    refine gw_get0 F to (by decide) rfl sg_lay_RX1 (j := 6) (by decide) rfl (host := "") (.inl kw_169) dX1_fillUntold_23 (fun h4 => ?_)
    refine gw_if_ne F (tgt := 35) dX1_fillUntold_26 (by decide) h4 (fun c5 => ?_) (fun c5 => ?_)
    · have hf := hf.1 c5
      refine gw_aload_n F 0 rfl rfl to.1 dX1_fillUntold_35 ?_
      refine gw_get0 F to (by decide) rfl sg_lay_RX1 (j := 6) (by decide) rfl (host := "") (.inl kw_169) dX1_fillUntold_36 (fun h6 => ?_)
      obtain ⟨s7, e8⟩ : ∃ z : sg_M, z = sg_up s2 o 6 (s2 o 6) := ⟨_, rfl⟩
      have hf := hf s7 e8
      refine gw_put0 F to (by decide) rfl sg_lay_RX1 (j := 6) (by decide) h6 e8 tyX1_ok nmX1 rfl (tyX1_ok 6 (by decide)) rfl (host := "") (.inl kw_169) dX1_fillUntold_39 ?_
      exact gr_HV F hf (by decide) (by decide) dX1_fillUntold_42
    · have hf := hf.2 c5
      refine gw_sipush F rfl dX1_fillUntold_29 ?_
      refine gw_goto F (tgt := 39) dX1_fillUntold_32 (by decide) ?_
      obtain ⟨s9, e10⟩ : ∃ z : sg_M, z = sg_up s2 o 6 2000 := ⟨_, rfl⟩
      have hf := hf s9 e10
      refine gw_put0 F to (by decide) rfl sg_lay_RX1 (j := 6) (by decide) (by decide) e10 tyX1_ok nmX1 rfl (tyX1_ok 6 (by decide)) rfl (host := "") (.inl kw_169) dX1_fillUntold_39 ?_
      exact gr_HV F hf (by decide) (by decide) dX1_fillUntold_42
  refine gw_if_ne F (tgt := 14) dX1_fillUntold_5 (by decide) h1 (fun c11 => ?_) (fun c11 => ?_)
  · have hf := hf.1 c11
    refine gw_aload_n F 0 rfl rfl to.1 dX1_fillUntold_14 ?_
    refine gw_get0 F to (by decide) rfl sg_lay_RX1 (j := 5) (by decide) rfl (host := "") (.inl kw_166) dX1_fillUntold_15 (fun h12 => ?_)
    refine gw_sub [0] rfl ?_
    exact J18 (s0 o 5) h12 hf
  · have hf := hf.2 c11
    refine gw_sipush F rfl dX1_fillUntold_8 ?_
    refine gw_goto F (tgt := 18) dX1_fillUntold_11 (by decide) ?_
    refine gw_sub [0] rfl ?_
    exact J18 300 (by decide) hf

theorem dX1_readOnce_0 : decode cX1_readOnce 0 = .ok (.iload_n 1, 1) := by decide +kernel
theorem dX1_readOnce_1 : decode cX1_readOnce 1 = .ok (.ifCond .eq 10, 3) := by decide +kernel
theorem dX1_readOnce_4 : decode cX1_readOnce 4 = .ok (.aload_n 0, 1) := by decide +kernel
theorem dX1_readOnce_5 : decode cX1_readOnce 5 = .ok (.iconst 3, 1) := by decide +kernel
theorem dX1_readOnce_6 : decode cX1_readOnce 6 = .ok (.invokevirtual 73, 3) := by decide +kernel
theorem dX1_readOnce_9 : decode cX1_readOnce 9 = .ok (.iload_n 1, 1) := by decide +kernel
theorem dX1_readOnce_10 : decode cX1_readOnce 10 = .ok (.ireturn, 1) := by decide +kernel
theorem dX1_readOnce_11 : decode cX1_readOnce 11 = .ok (.aload_n 0, 1) := by decide +kernel
theorem dX1_readOnce_12 : decode cX1_readOnce 12 = .ok (.invokevirtual 97, 3) := by decide +kernel
theorem dX1_readOnce_15 : decode cX1_readOnce 15 = .ok (.aload_n 0, 1) := by decide +kernel
theorem dX1_readOnce_16 : decode cX1_readOnce 16 = .ok (.iconst 1, 1) := by decide +kernel
theorem dX1_readOnce_17 : decode cX1_readOnce 17 = .ok (.sipush 9999, 3) := by decide +kernel
theorem dX1_readOnce_20 : decode cX1_readOnce 20 = .ok (.sipush 9999, 3) := by decide +kernel
theorem dX1_readOnce_23 : decode cX1_readOnce 23 = .ok (.invokevirtual 100, 3) := by decide +kernel
theorem dX1_readOnce_26 : decode cX1_readOnce 26 = .ok (.ireturn, 1) := by decide +kernel
theorem hcX1_readOnce : yX1_readOnce.cls ≠ "java/lang/invoke/MethodHandle" ∧ yX1_readOnce.cls ≠ "java/lang/invoke/VarHandle" ∧ (parseMethodDescriptor yX1_readOnce.desc).map (fun d => d.parameters.length) = some 2 := ⟨by decide +kernel, by decide +kernel, by decide +kernel⟩
def fX1_readOnce (s0 : sg_M) (x1 : Int) (Q : Int → sg_M → Prop) : Prop := ((x1 = 0 → fX9_advance s0 (fun s2 => fX9_number s2 1 9999 9999 (fun u3 s5 => Q u3 s5))) ∧ (¬ (x1 = 0) → fX9_fail s0 3 (fun s6 => Q x1 s6)))
set_option maxHeartbeats 4000000 in
set_option maxRecDepth 100000 in
theorem CX1_readOnce {l : Launch} {G : sg_G} {La : sg_L} {s0 : sg_M} (hst : sg_St La) {x1 : Int} (r1 : sg_R x1) {Q : Int → sg_M → Prop} (hf : fX1_readOnce s0 x1 Q) : sg_C l G yX1_readOnce cX1_readOnce 2 (some .int) 4 0 0 La s0 [sg_r 3, sg_i x1] (sg_HI La Q) := by
  refine sg_body (by decide +kernel) (Nat.le_of_ble_eq_true rfl) ?_
  intro p e s m args below meth c F hnm
  unfold fX1_readOnce at hf
  show sg_W p l e (sg_rm 4 0 0) s m args below meth c (MQ below (sg_Q (some .int) G La s.heap.size (sg_HI La Q)) args s 0 0 (sg_A La s.heap.size)) 2 G (sg_A La s.heap.size) La s0 0 0 0 [(0, sg_r 3), (1, sg_i x1)] []
  refine gw_iload_n F 1 rfl rfl dX1_readOnce_0 ?_
  refine gw_if_eq F (tgt := 11) dX1_readOnce_1 (by decide) r1 (fun c1 => ?_) (fun c1 => ?_)
  · have hf := hf.1 c1
    refine gw_aload_n F 0 rfl rfl (by decide) dX1_readOnce_11 ?_
    refine gk_HV F (gc_V F (S := []) (As := []) (T := TX9) (N := 8) (CX9_advance hst hf) (so_3 hst) (by decide) rfl kw_368 kw_92 kw_478 kw_366 kw_367 hcX9_advance ⟨by decide, by decide⟩ rfl rfl (Nat.le_of_ble_eq_true rfl) ⟨by decide, by decide⟩ dX1_readOnce_12) (fun s2 hf => ?_)
    refine gw_aload_n F 0 rfl rfl (by decide) dX1_readOnce_15 ?_
    refine gw_iconst F dX1_readOnce_16 ?_
    refine gw_sipush F rfl dX1_readOnce_17 ?_
    refine gw_sipush F rfl dX1_readOnce_20 ?_
    refine gk_HI F (gc_V F (S := []) (As := [sg_i 1, sg_i 9999, sg_i 9999]) (T := TX9) (N := 8) (CX9_number hst (by decide) (by decide) (by decide) hf) (so_3 hst) (by decide) rfl kw_453 kw_92 kw_450 kw_451 kw_452 hcX9_number ⟨by decide, by decide⟩ rfl rfl (Nat.le_of_ble_eq_true rfl) ⟨by decide, by decide⟩ dX1_readOnce_23) (fun u3 s5 h4 hf => ?_)
    exact gr_HI F h4 hf (by decide) (by decide) dX1_readOnce_26
  · have hf := hf.2 c1
    refine gw_aload_n F 0 rfl rfl (by decide) dX1_readOnce_4 ?_
    refine gw_iconst F dX1_readOnce_5 ?_
    refine gk_HV F (gc_V F (S := []) (As := [sg_i 3]) (T := TX9) (N := 8) (CX9_fail hst (by decide) hf) (so_3 hst) (by decide) rfl kw_457 kw_92 kw_477 kw_455 kw_456 hcX9_fail ⟨by decide, by decide⟩ rfl rfl (Nat.le_of_ble_eq_true rfl) ⟨by decide, by decide⟩ dX1_readOnce_6) (fun s6 hf => ?_)
    refine gw_iload_n F 1 rfl rfl dX1_readOnce_9 ?_
    exact gr_HI F r1 hf (by decide) (by decide) dX1_readOnce_10

theorem dX1_readPieces_0 : decode cX1_readPieces 0 = .ok (.aload_n 1, 1) := by decide +kernel
theorem dX1_readPieces_1 : decode cX1_readPieces 1 = .ok (.iconst 1, 1) := by decide +kernel
theorem dX1_readPieces_2 : decode cX1_readPieces 2 = .ok (.bipush 60, 2) := by decide +kernel
theorem dX1_readPieces_4 : decode cX1_readPieces 4 = .ok (.bipush 60, 2) := by decide +kernel
theorem dX1_readPieces_6 : decode cX1_readPieces 6 = .ok (.aload_n 0, 1) := by decide +kernel
theorem dX1_readPieces_7 : decode cX1_readPieces 7 = .ok (.getfield 24, 3) := by decide +kernel
theorem dX1_readPieces_10 : decode cX1_readPieces 10 = .ok (.isub, 1) := by decide +kernel
theorem dX1_readPieces_11 : decode cX1_readPieces 11 = .ok (.invokevirtual 100, 3) := by decide +kernel
theorem dX1_readPieces_14 : decode cX1_readPieces 14 = .ok (.istore_n 2, 1) := by decide +kernel
theorem dX1_readPieces_15 : decode cX1_readPieces 15 = .ok (.aload_n 1, 1) := by decide +kernel
theorem dX1_readPieces_16 : decode cX1_readPieces 16 = .ok (.iconst 1, 1) := by decide +kernel
theorem dX1_readPieces_17 : decode cX1_readPieces 17 = .ok (.bipush 99, 2) := by decide +kernel
theorem dX1_readPieces_19 : decode cX1_readPieces 19 = .ok (.bipush 99, 2) := by decide +kernel
theorem dX1_readPieces_21 : decode cX1_readPieces 21 = .ok (.invokevirtual 100, 3) := by decide +kernel
theorem dX1_readPieces_24 : decode cX1_readPieces 24 = .ok (.istore_n 3, 1) := by decide +kernel
theorem dX1_readPieces_25 : decode cX1_readPieces 25 = .ok (.aload_n 1, 1) := by decide +kernel
theorem dX1_readPieces_26 : decode cX1_readPieces 26 = .ok (.iconst 1, 1) := by decide +kernel
theorem dX1_readPieces_27 : decode cX1_readPieces 27 = .ok (.bipush 20, 2) := by decide +kernel
theorem dX1_readPieces_29 : decode cX1_readPieces 29 = .ok (.bipush 20, 2) := by decide +kernel
theorem dX1_readPieces_31 : decode cX1_readPieces 31 = .ok (.invokevirtual 100, 3) := by decide +kernel
theorem dX1_readPieces_34 : decode cX1_readPieces 34 = .ok (.istore 4, 2) := by decide +kernel
theorem dX1_readPieces_36 : decode cX1_readPieces 36 = .ok (.bipush 9, 2) := by decide +kernel
theorem dX1_readPieces_38 : decode cX1_readPieces 38 = .ok (.iload_n 3, 1) := by decide +kernel
theorem dX1_readPieces_39 : decode cX1_readPieces 39 = .ok (.iconst 1, 1) := by decide +kernel
theorem dX1_readPieces_40 : decode cX1_readPieces 40 = .ok (.isub, 1) := by decide +kernel
theorem dX1_readPieces_41 : decode cX1_readPieces 41 = .ok (.invokestatic 103, 3) := by decide +kernel
theorem dX1_readPieces_44 : decode cX1_readPieces 44 = .ok (.istore 5, 2) := by decide +kernel
theorem dX1_readPieces_46 : decode cX1_readPieces 46 = .ok (.aload_n 1, 1) := by decide +kernel
theorem dX1_readPieces_47 : decode cX1_readPieces 47 = .ok (.ldc 106, 2) := by decide +kernel
theorem dX1_readPieces_49 : decode cX1_readPieces 49 = .ok (.invokevirtual 81, 3) := by decide +kernel
theorem dX1_readPieces_52 : decode cX1_readPieces 52 = .ok (.ifCond .eq 15, 3) := by decide +kernel
theorem dX1_readPieces_55 : decode cX1_readPieces 55 = .ok (.aload_n 1, 1) := by decide +kernel
theorem dX1_readPieces_56 : decode cX1_readPieces 56 = .ok (.iconst 0, 1) := by decide +kernel
theorem dX1_readPieces_57 : decode cX1_readPieces 57 = .ok (.iload 5, 2) := by decide +kernel
theorem dX1_readPieces_59 : decode cX1_readPieces 59 = .ok (.iload 5, 2) := by decide +kernel
theorem dX1_readPieces_61 : decode cX1_readPieces 61 = .ok (.invokevirtual 100, 3) := by decide +kernel
theorem dX1_readPieces_64 : decode cX1_readPieces 64 = .ok (.goto 4, 3) := by decide +kernel
theorem dX1_readPieces_67 : decode cX1_readPieces 67 = .ok (.iconst 0, 1) := by decide +kernel
theorem dX1_readPieces_68 : decode cX1_readPieces 68 = .ok (.istore 6, 2) := by decide +kernel
theorem dX1_readPieces_70 : decode cX1_readPieces 70 = .ok (.aload_n 1, 1) := by decide +kernel
theorem dX1_readPieces_71 : decode cX1_readPieces 71 = .ok (.ldc 107, 2) := by decide +kernel
theorem dX1_readPieces_73 : decode cX1_readPieces 73 = .ok (.invokevirtual 81, 3) := by decide +kernel
theorem dX1_readPieces_76 : decode cX1_readPieces 76 = .ok (.ifCond .eq 24, 3) := by decide +kernel
theorem dX1_readPieces_79 : decode cX1_readPieces 79 = .ok (.aload_n 1, 1) := by decide +kernel
theorem dX1_readPieces_80 : decode cX1_readPieces 80 = .ok (.bipush 45, 2) := by decide +kernel
theorem dX1_readPieces_82 : decode cX1_readPieces 82 = .ok (.invokevirtual 109, 3) := by decide +kernel
theorem dX1_readPieces_85 : decode cX1_readPieces 85 = .ok (.aload_n 1, 1) := by decide +kernel
theorem dX1_readPieces_86 : decode cX1_readPieces 86 = .ok (.iconst 0, 1) := by decide +kernel
theorem dX1_readPieces_87 : decode cX1_readPieces 87 = .ok (.bipush 99, 2) := by decide +kernel
theorem dX1_readPieces_89 : decode cX1_readPieces 89 = .ok (.bipush 99, 2) := by decide +kernel
theorem dX1_readPieces_91 : decode cX1_readPieces 91 = .ok (.invokevirtual 100, 3) := by decide +kernel
theorem dX1_readPieces_94 : decode cX1_readPieces 94 = .ok (.invokestatic 112, 3) := by decide +kernel
theorem dX1_readPieces_97 : decode cX1_readPieces 97 = .ok (.goto 4, 3) := by decide +kernel
theorem dX1_readPieces_100 : decode cX1_readPieces 100 = .ok (.iconst 0, 1) := by decide +kernel
theorem dX1_readPieces_101 : decode cX1_readPieces 101 = .ok (.istore 7, 2) := by decide +kernel
theorem dX1_readPieces_103 : decode cX1_readPieces 103 = .ok (.aload_n 1, 1) := by decide +kernel
theorem dX1_readPieces_104 : decode cX1_readPieces 104 = .ok (.getfield 116, 3) := by decide +kernel
theorem dX1_readPieces_107 : decode cX1_readPieces 107 = .ok (.ifCond .ne 15, 3) := by decide +kernel
theorem dX1_readPieces_110 : decode cX1_readPieces 110 = .ok (.aload_n 0, 1) := by decide +kernel
theorem dX1_readPieces_111 : decode cX1_readPieces 111 = .ok (.iload_n 2, 1) := by decide +kernel
theorem dX1_readPieces_112 : decode cX1_readPieces 112 = .ok (.iload_n 3, 1) := by decide +kernel
theorem dX1_readPieces_113 : decode cX1_readPieces 113 = .ok (.iload 4, 2) := by decide +kernel
theorem dX1_readPieces_115 : decode cX1_readPieces 115 = .ok (.iload 6, 2) := by decide +kernel
theorem dX1_readPieces_117 : decode cX1_readPieces 117 = .ok (.iload 7, 2) := by decide +kernel
theorem dX1_readPieces_119 : decode cX1_readPieces 119 = .ok (.invokevirtual 34, 3) := by decide +kernel
theorem dX1_readPieces_122 : decode cX1_readPieces 122 = .ok (.return_, 1) := by decide +kernel
theorem hcX1_readPieces : yX1_readPieces.cls ≠ "java/lang/invoke/MethodHandle" ∧ yX1_readPieces.cls ≠ "java/lang/invoke/VarHandle" ∧ (parseMethodDescriptor yX1_readPieces.desc).map (fun d => d.parameters.length) = some 1 := ⟨by decide +kernel, by decide +kernel, by decide +kernel⟩
def fX1_readPieces_j101 (o : Int) (u3 : Int) (u6 : Int) (u9 : Int) (y0_68 : Int) (Q : sg_M → Prop) (s_101 : sg_M) (y0_101 : Int) : Prop := (((s_101 3 6) ≠ 0 → Q s_101) ∧ ((s_101 3 6) = 0 → fX1_addAlike s_101 o u3 u6 u9 y0_68 y0_101 (fun s21 => Q s21)))
def fX1_readPieces_j68 (o : Int) (u3 : Int) (u6 : Int) (u9 : Int) (Q : sg_M → Prop) (s_68 : sg_M) (y0_68 : Int) : Prop := fX9_skipWord s_68 2 (fun u16 s18 => ((u16 = 0 → (fX1_readPieces_j101 o u3 u6 u9 y0_68 Q) s18 0) ∧ (¬ (u16 = 0) → fX9_skipSign s18 45 (fun u23 s25 => fX9_number s25 0 99 99 (fun u26 s28 => fX11_signed u23 u26 (fun u29 => (fX1_readPieces_j101 o u3 u6 u9 y0_68 Q) s28 u29))))))
def fX1_readPieces (s0 : sg_M) (o : Int) (Q : sg_M → Prop) : Prop := sg_R (60 - (s0 o 4)) ∧ fX9_number s0 1 60 (60 - (s0 o 4)) (fun u3 s5 => fX9_number s5 1 99 99 (fun u6 s8 => fX9_number s8 1 20 20 (fun u9 s11 => sg_R (u6 - 1) ∧ fX9_skipWord s11 1 (fun u13 s15 => ((u13 = 0 → (fX1_readPieces_j68 o u3 u6 u9 Q) s15 0) ∧ (¬ (u13 = 0) → fX9_number s15 0 (sg_min 9 (u6 - 1)) (sg_min 9 (u6 - 1)) (fun u32 s34 => (fX1_readPieces_j68 o u3 u6 u9 Q) s34 u32)))))))
set_option maxHeartbeats 4000000 in
set_option maxRecDepth 100000 in
theorem CX1_readPieces {l : Launch} {G : sg_G} {La : sg_L} {s0 : sg_M} (hst : sg_St La) {o : Int} (to : sg_O La o 1) {Q : sg_M → Prop} (hf : fX1_readPieces s0 o Q) : sg_C l G yX1_readPieces cX1_readPieces 8 (none) 7 0 0 La s0 [sg_r o, sg_r 3] (sg_HV La Q) := by
  refine sg_body (by decide +kernel) (Nat.le_of_ble_eq_true rfl) ?_
  intro p e s m args below meth c F hnm
  unfold fX1_readPieces at hf
  show sg_W p l e (sg_rm 7 0 0) s m args below meth c (MQ below (sg_Q (none) G La s.heap.size (sg_HV La Q)) args s 0 0 (sg_A La s.heap.size)) 8 G (sg_A La s.heap.size) La s0 0 0 0 [(0, sg_r o), (1, sg_r 3)] []
  refine gw_aload_n F 1 rfl rfl (by decide) dX1_readPieces_0 ?_
  refine gw_iconst F dX1_readPieces_1 ?_
  refine gw_bipush F rfl dX1_readPieces_2 ?_
  refine gw_bipush F rfl dX1_readPieces_4 ?_
  refine gw_aload_n F 0 rfl rfl to.1 dX1_readPieces_6 ?_
  refine gw_get0 F to (by decide) rfl sg_lay_RX1 (j := 4) (by decide) rfl (host := "") (.inl kw_163) dX1_readPieces_7 (fun h1 => ?_)
  refine gw_isub F rfl dX1_readPieces_10 ?_
  obtain ⟨g2, hf⟩ := hf
  refine gk_HI F (gc_V F (S := []) (As := [sg_i 1, sg_i 60, sg_i (60 - (s0 o 4))]) (T := TX9) (N := 8) (CX9_number hst (by decide) (by decide) g2 hf) (so_3 hst) (by decide) rfl kw_453 kw_92 kw_450 kw_451 kw_452 hcX9_number ⟨by decide, by decide⟩ rfl rfl (Nat.le_of_ble_eq_true rfl) ⟨by decide, by decide⟩ dX1_readPieces_11) (fun u3 s5 h4 hf => ?_)
  refine gw_istore_n F rfl (by decide) rfl dX1_readPieces_14 ?_
  refine gw_aload_n F 2 rfl rfl (by decide) dX1_readPieces_15 ?_
  refine gw_iconst F dX1_readPieces_16 ?_
  refine gw_bipush F rfl dX1_readPieces_17 ?_
  refine gw_bipush F rfl dX1_readPieces_19 ?_
  refine gk_HI F (gc_V F (S := []) (As := [sg_i 1, sg_i 99, sg_i 99]) (T := TX9) (N := 8) (CX9_number hst (by decide) (by decide) (by decide) hf) (so_3 hst) (by decide) rfl kw_453 kw_92 kw_450 kw_451 kw_452 hcX9_number ⟨by decide, by decide⟩ rfl rfl (Nat.le_of_ble_eq_true rfl) ⟨by decide, by decide⟩ dX1_readPieces_21) (fun u6 s8 h7 hf => ?_)
  refine gw_istore_n F rfl (by decide) rfl dX1_readPieces_24 ?_
  refine gw_aload_n F 3 rfl rfl (by decide) dX1_readPieces_25 ?_
  refine gw_iconst F dX1_readPieces_26 ?_
  refine gw_bipush F rfl dX1_readPieces_27 ?_
  refine gw_bipush F rfl dX1_readPieces_29 ?_
  refine gk_HI F (gc_V F (S := []) (As := [sg_i 1, sg_i 20, sg_i 20]) (T := TX9) (N := 8) (CX9_number hst (by decide) (by decide) (by decide) hf) (so_3 hst) (by decide) rfl kw_453 kw_92 kw_450 kw_451 kw_452 hcX9_number ⟨by decide, by decide⟩ rfl rfl (Nat.le_of_ble_eq_true rfl) ⟨by decide, by decide⟩ dX1_readPieces_31) (fun u9 s11 h10 hf => ?_)
  refine gw_istore F (by decide) rfl dX1_readPieces_34 ?_
  refine gw_bipush F rfl dX1_readPieces_36 ?_
  refine gw_iload_n F 1 rfl rfl dX1_readPieces_38 ?_
  refine gw_iconst F dX1_readPieces_39 ?_
  refine gw_isub F rfl dX1_readPieces_40 ?_
  obtain ⟨g12, hf⟩ := hf
  refine gw_min F (by decide) g12 rfl kw_458 kw_min1 kw_math kw_min2 (Nat.le_of_ble_eq_true rfl) (by decide) (by decide) (by decide) (by decide) dX1_readPieces_41 ?_
  refine gw_istore F (by decide) rfl dX1_readPieces_44 ?_
  refine gw_aload_n F 5 rfl rfl (by decide) dX1_readPieces_46 ?_
  refine gw_ldcS F (i := 1) rfl dX1_readPieces_47 ?_
  refine gk_HZ F (gc_V F (S := []) (As := [sg_a (G.2.2.1 1)]) (T := TX9) (N := 8) (CX9_skipWord hst (by decide) hf) (so_3 hst) (by decide) rfl kw_399 kw_92 kw_396 kw_397 kw_398 hcX9_skipWord ⟨by decide, by decide⟩ rfl rfl (Nat.le_of_ble_eq_true rfl) ⟨by decide, by decide⟩ dX1_readPieces_49) (fun u13 s15 h14 hf => ?_)
  have J68 : ∀ (s_68 : sg_M) (y0_68 : Int), sg_R y0_68 → (fX1_readPieces_j68 o u3 u6 u9 Q) s_68 y0_68 → sg_W p l e (sg_rm 7 0 0) s m args below meth c (MQ below (sg_Q (none) G La s.heap.size (sg_HV La Q)) args s 0 0 (sg_A La s.heap.size)) 8 G (sg_A La s.heap.size) La s_68 0 0 68 [(0, sg_r o), (1, sg_r 3), (2, sg_i u3), (3, sg_i u6), (4, sg_i u9)] [sg_i y0_68] := by
    intro s_68 y0_68 ry0_68 hf
    unfold fX1_readPieces_j68 at hf
    refine gw_istore F (by decide) rfl dX1_readPieces_68 ?_
    refine gw_aload_n F 2 rfl rfl (by decide) dX1_readPieces_70 ?_
    refine gw_ldcS F (i := 2) rfl dX1_readPieces_71 ?_
    refine gk_HZ F (gc_V F (S := []) (As := [sg_a (G.2.2.1 2)]) (T := TX9) (N := 8) (CX9_skipWord hst (by decide) hf) (so_3 hst) (by decide) rfl kw_399 kw_92 kw_396 kw_397 kw_398 hcX9_skipWord ⟨by decide, by decide⟩ rfl rfl (Nat.le_of_ble_eq_true rfl) ⟨by decide, by decide⟩ dX1_readPieces_73) (fun u16 s18 h17 hf => ?_)
    have J101 : ∀ (s_101 : sg_M) (y0_101 : Int), sg_R y0_101 → (fX1_readPieces_j101 o u3 u6 u9 y0_68 Q) s_101 y0_101 → sg_W p l e (sg_rm 7 0 0) s m args below meth c (MQ below (sg_Q (none) G La s.heap.size (sg_HV La Q)) args s 0 0 (sg_A La s.heap.size)) 8 G (sg_A La s.heap.size) La s_101 0 0 101 [(0, sg_r o), (1, sg_r 3), (2, sg_i u3), (3, sg_i u6), (4, sg_i u9), (6, sg_i y0_68)] [sg_i y0_101] := by
      intro s_101 y0_101 ry0_101 hf
      unfold fX1_readPieces_j101 at hf
      refine gw_istore F (by decide) rfl dX1_readPieces_101 ?_
      refine gw_aload_n F 2 rfl rfl (by decide) dX1_readPieces_103 ?_
      refine gw_get0 F (so_3 hst) (by decide) rfl sg_lay_RX9 (j := 6) (by decide) rfl (.inr kw_147) dX1_readPieces_104 (fun h19 => ?_)
      refine gw_if_ne F (tgt := 122) dX1_readPieces_107 (by decide) h19 (fun c20 => ?_) (fun c20 => ?_)
      · have hf := hf.1 c20
        exact gr_HV F hf (by decide) (by decide) dX1_readPieces_122
      · have hf := hf.2 c20
        refine gw_aload_n F 1 rfl rfl to.1 dX1_readPieces_110 ?_
        refine gw_iload_n F 3 rfl rfl dX1_readPieces_111 ?_
        refine gw_iload_n F 4 rfl rfl dX1_readPieces_112 ?_
        refine gw_iload F 5 rfl dX1_readPieces_113 ?_
        refine gw_iload F 6 rfl dX1_readPieces_115 ?_
        refine gw_iload F 0 rfl dX1_readPieces_117 ?_
        refine gk_HV F (gc_V F (S := []) (As := [sg_i u3, sg_i u6, sg_i u9, sg_i y0_68, sg_i y0_101]) (T := TX1) (N := 7) (CX1_addAlike to h4 h7 h10 ry0_68 ry0_101 hf) to (by decide) rfl kw_321 kw_94 kw_472 kw_319 kw_320 hcX1_addAlike ⟨by decide, by decide⟩ rfl rfl (Nat.le_of_ble_eq_true rfl) ⟨by decide, by decide⟩ dX1_readPieces_119) (fun s21 hf => ?_)
        exact gr_HV F hf (by decide) (by decide) dX1_readPieces_122
    refine gw_if_eq F (tgt := 100) dX1_readPieces_76 (by decide) (sg_B_R h17) (fun c22 => ?_) (fun c22 => ?_)
    · have hf := hf.1 c22
      refine gw_iconst F dX1_readPieces_100 ?_
      refine gw_sub [1, 2, 3, 4, 5, 0] rfl ?_
      exact J101 s18 0 (by decide) hf
    · have hf := hf.2 c22
      refine gw_aload_n F 2 rfl rfl (by decide) dX1_readPieces_79 ?_
      refine gw_bipush F rfl dX1_readPieces_80 ?_
      refine gk_HZ F (gc_V F (S := []) (As := [sg_i 45]) (T := TX9) (N := 8) (CX9_skipSign hst (by decide) hf) (so_3 hst) (by decide) rfl kw_464 kw_92 kw_461 kw_462 kw_463 hcX9_skipSign ⟨by decide, by decide⟩ rfl rfl (Nat.le_of_ble_eq_true rfl) ⟨by decide, by decide⟩ dX1_readPieces_82) (fun u23 s25 h24 hf => ?_)
      refine gw_aload_n F 2 rfl rfl (by decide) dX1_readPieces_85 ?_
      refine gw_iconst F dX1_readPieces_86 ?_
      refine gw_bipush F rfl dX1_readPieces_87 ?_
      refine gw_bipush F rfl dX1_readPieces_89 ?_
      refine gk_HI F (gc_V F (S := [sg_i u23]) (As := [sg_i 0, sg_i 99, sg_i 99]) (T := TX9) (N := 8) (CX9_number hst (by decide) (by decide) (by decide) hf) (so_3 hst) (by decide) rfl kw_453 kw_92 kw_450 kw_451 kw_452 hcX9_number ⟨by decide, by decide⟩ rfl rfl (Nat.le_of_ble_eq_true rfl) ⟨by decide, by decide⟩ dX1_readPieces_91) (fun u26 s28 h27 hf => ?_)
      refine gk_PI F (gc_SN F (S := []) (As := [sg_i u23, sg_i u26]) (CX11_signed h24 h27 hf) kw_471 kw_90 kw_469 kw_470 hcX11_signed ⟨by decide, by decide⟩ rfl rfl (Nat.le_of_ble_eq_true rfl) ⟨by decide, by decide⟩ dX1_readPieces_94) (fun u29 h30 hf => ?_)
      refine gw_goto F (tgt := 101) dX1_readPieces_97 (by decide) ?_
      refine gw_sub [1, 2, 3, 4, 5, 0] rfl ?_
      exact J101 s28 u29 h30 hf
  refine gw_if_eq F (tgt := 67) dX1_readPieces_52 (by decide) (sg_B_R h14) (fun c31 => ?_) (fun c31 => ?_)
  · have hf := hf.1 c31
    refine gw_iconst F dX1_readPieces_67 ?_
    refine gw_sub [4, 5, 3, 2, 1] rfl ?_
    exact J68 s15 0 (by decide) hf
  · have hf := hf.2 c31
    refine gw_aload_n F 5 rfl rfl (by decide) dX1_readPieces_55 ?_
    refine gw_iconst F dX1_readPieces_56 ?_
    refine gw_iload F 0 rfl dX1_readPieces_57 ?_
    refine gw_iload F 0 rfl dX1_readPieces_59 ?_
    refine gk_HI F (gc_V F (S := []) (As := [sg_i 0, sg_i (sg_min 9 (u6 - 1)), sg_i (sg_min 9 (u6 - 1))]) (T := TX9) (N := 8) (CX9_number hst (by decide) (sg_min_R (by decide) g12) (sg_min_R (by decide) g12) hf) (so_3 hst) (by decide) rfl kw_453 kw_92 kw_450 kw_451 kw_452 hcX9_number ⟨by decide, by decide⟩ rfl rfl (Nat.le_of_ble_eq_true rfl) ⟨by decide, by decide⟩ dX1_readPieces_61) (fun u32 s34 h33 hf => ?_)
    refine gw_goto F (tgt := 68) dX1_readPieces_64 (by decide) ?_
    refine gw_sub [4, 5, 3, 2, 1] rfl ?_
    exact J68 s34 u32 h33 hf

theorem dX1_readLine_0 : decode cX1_readLine 0 = .ok (.aload_n 1, 1) := by decide +kernel
theorem dX1_readLine_1 : decode cX1_readLine 1 = .ok (.ldc 79, 2) := by decide +kernel
theorem dX1_readLine_3 : decode cX1_readLine 3 = .ok (.invokevirtual 81, 3) := by decide +kernel
theorem dX1_readLine_6 : decode cX1_readLine 6 = .ok (.ifCond .eq 11, 3) := by decide +kernel
theorem dX1_readLine_9 : decode cX1_readLine 9 = .ok (.aload_n 0, 1) := by decide +kernel
theorem dX1_readLine_10 : decode cX1_readLine 10 = .ok (.aload_n 1, 1) := by decide +kernel
theorem dX1_readLine_11 : decode cX1_readLine 11 = .ok (.invokevirtual 85, 3) := by decide +kernel
theorem dX1_readLine_14 : decode cX1_readLine 14 = .ok (.goto 56, 3) := by decide +kernel
theorem dX1_readLine_17 : decode cX1_readLine 17 = .ok (.aload_n 1, 1) := by decide +kernel
theorem dX1_readLine_18 : decode cX1_readLine 18 = .ok (.ldc 88, 2) := by decide +kernel
theorem dX1_readLine_20 : decode cX1_readLine 20 = .ok (.invokevirtual 89, 3) := by decide +kernel
theorem dX1_readLine_23 : decode cX1_readLine 23 = .ok (.ifCond .eq 18, 3) := by decide +kernel
theorem dX1_readLine_26 : decode cX1_readLine 26 = .ok (.aload_n 0, 1) := by decide +kernel
theorem dX1_readLine_27 : decode cX1_readLine 27 = .ok (.aload_n 1, 1) := by decide +kernel
theorem dX1_readLine_28 : decode cX1_readLine 28 = .ok (.aload_n 0, 1) := by decide +kernel
theorem dX1_readLine_29 : decode cX1_readLine 29 = .ok (.getfield 28, 3) := by decide +kernel
theorem dX1_readLine_32 : decode cX1_readLine 32 = .ok (.invokestatic 92, 3) := by decide +kernel
theorem dX1_readLine_35 : decode cX1_readLine 35 = .ok (.putfield 28, 3) := by decide +kernel
theorem dX1_readLine_38 : decode cX1_readLine 38 = .ok (.goto 32, 3) := by decide +kernel
theorem dX1_readLine_41 : decode cX1_readLine 41 = .ok (.aload_n 1, 1) := by decide +kernel
theorem dX1_readLine_42 : decode cX1_readLine 42 = .ok (.ldc 96, 2) := by decide +kernel
theorem dX1_readLine_44 : decode cX1_readLine 44 = .ok (.invokevirtual 89, 3) := by decide +kernel
theorem dX1_readLine_47 : decode cX1_readLine 47 = .ok (.ifCond .eq 18, 3) := by decide +kernel
theorem dX1_readLine_50 : decode cX1_readLine 50 = .ok (.aload_n 0, 1) := by decide +kernel
theorem dX1_readLine_51 : decode cX1_readLine 51 = .ok (.aload_n 1, 1) := by decide +kernel
theorem dX1_readLine_52 : decode cX1_readLine 52 = .ok (.aload_n 0, 1) := by decide +kernel
theorem dX1_readLine_53 : decode cX1_readLine 53 = .ok (.getfield 31, 3) := by decide +kernel
theorem dX1_readLine_56 : decode cX1_readLine 56 = .ok (.invokestatic 92, 3) := by decide +kernel
theorem dX1_readLine_59 : decode cX1_readLine 59 = .ok (.putfield 31, 3) := by decide +kernel
theorem dX1_readLine_62 : decode cX1_readLine 62 = .ok (.goto 8, 3) := by decide +kernel
theorem dX1_readLine_65 : decode cX1_readLine 65 = .ok (.aload_n 1, 1) := by decide +kernel
theorem dX1_readLine_66 : decode cX1_readLine 66 = .ok (.iconst 1, 1) := by decide +kernel
theorem dX1_readLine_67 : decode cX1_readLine 67 = .ok (.invokevirtual 73, 3) := by decide +kernel
theorem dX1_readLine_70 : decode cX1_readLine 70 = .ok (.return_, 1) := by decide +kernel
theorem hcX1_readLine : yX1_readLine.cls ≠ "java/lang/invoke/MethodHandle" ∧ yX1_readLine.cls ≠ "java/lang/invoke/VarHandle" ∧ (parseMethodDescriptor yX1_readLine.desc).map (fun d => d.parameters.length) = some 1 := ⟨by decide +kernel, by decide +kernel, by decide +kernel⟩
def fX1_readLine (s0 : sg_M) (o : Int) (Q : sg_M → Prop) : Prop := fX9_skipWord s0 0 (fun u1 s3 => ((u1 = 0 → fX9_isWord s3 3 (fun u5 => ((u5 = 0 → fX9_isWord s3 4 (fun u8 => ((u8 = 0 → fX9_fail s3 1 (fun s11 => Q s11)) ∧ (¬ (u8 = 0) → fX1_readOnce s3 (s3 o 6) (fun u13 s15 => ∀ s16 : sg_M, s16 = sg_up s15 o 6 u13 → Q s16))))) ∧ (¬ (u5 = 0) → fX1_readOnce s3 (s3 o 5) (fun u19 s21 => ∀ s22 : sg_M, s22 = sg_up s21 o 5 u19 → Q s22))))) ∧ (¬ (u1 = 0) → fX1_readPieces s3 o (fun s24 => Q s24))))
set_option maxHeartbeats 4000000 in
set_option maxRecDepth 100000 in
theorem CX1_readLine {l : Launch} {G : sg_G} {La : sg_L} {s0 : sg_M} (hst : sg_St La) {o : Int} (to : sg_O La o 1) {Q : sg_M → Prop} (hf : fX1_readLine s0 o Q) : sg_C l G yX1_readLine cX1_readLine 2 (none) 8 0 0 La s0 [sg_r o, sg_r 3] (sg_HV La Q) := by
  refine sg_body (by decide +kernel) (Nat.le_of_ble_eq_true rfl) ?_
  intro p e s m args below meth c F hnm
  unfold fX1_readLine at hf
  show sg_W p l e (sg_rm 8 0 0) s m args below meth c (MQ below (sg_Q (none) G La s.heap.size (sg_HV La Q)) args s 0 0 (sg_A La s.heap.size)) 2 G (sg_A La s.heap.size) La s0 0 0 0 [(0, sg_r o), (1, sg_r 3)] []
  refine gw_aload_n F 1 rfl rfl (by decide) dX1_readLine_0 ?_
  refine gw_ldcS F (i := 0) rfl dX1_readLine_1 ?_
  refine gk_HZ F (gc_V F (S := []) (As := [sg_a (G.2.2.1 0)]) (T := TX9) (N := 8) (CX9_skipWord hst (by decide) hf) (so_3 hst) (by decide) rfl kw_399 kw_92 kw_396 kw_397 kw_398 hcX9_skipWord ⟨by decide, by decide⟩ rfl rfl (Nat.le_of_ble_eq_true rfl) ⟨by decide, by decide⟩ dX1_readLine_3) (fun u1 s3 h2 hf => ?_)
  refine gw_if_eq F (tgt := 17) dX1_readLine_6 (by decide) (sg_B_R h2) (fun c4 => ?_) (fun c4 => ?_)
  · have hf := hf.1 c4
    refine gw_aload_n F 1 rfl rfl (by decide) dX1_readLine_17 ?_
    refine gw_ldcS F (i := 3) rfl dX1_readLine_18 ?_
    refine gk_PZ F (gc_V F (S := []) (As := [sg_a (G.2.2.1 3)]) (T := TX9) (N := 8) (CX9_isWord hst (by decide) hf) (so_3 hst) (by decide) rfl kw_403 kw_92 kw_473 kw_401 kw_402 hcX9_isWord ⟨by decide, by decide⟩ rfl rfl (Nat.le_of_ble_eq_true rfl) ⟨by decide, by decide⟩ dX1_readLine_20) (fun u5 h6 hf => ?_)
    refine gw_if_eq F (tgt := 41) dX1_readLine_23 (by decide) (sg_B_R h6) (fun c7 => ?_) (fun c7 => ?_)
    · have hf := hf.1 c7
      refine gw_aload_n F 1 rfl rfl (by decide) dX1_readLine_41 ?_
      refine gw_ldcS F (i := 4) rfl dX1_readLine_42 ?_
      refine gk_PZ F (gc_V F (S := []) (As := [sg_a (G.2.2.1 4)]) (T := TX9) (N := 8) (CX9_isWord hst (by decide) hf) (so_3 hst) (by decide) rfl kw_403 kw_92 kw_473 kw_401 kw_402 hcX9_isWord ⟨by decide, by decide⟩ rfl rfl (Nat.le_of_ble_eq_true rfl) ⟨by decide, by decide⟩ dX1_readLine_44) (fun u8 h9 hf => ?_)
      refine gw_if_eq F (tgt := 65) dX1_readLine_47 (by decide) (sg_B_R h9) (fun c10 => ?_) (fun c10 => ?_)
      · have hf := hf.1 c10
        refine gw_aload_n F 1 rfl rfl (by decide) dX1_readLine_65 ?_
        refine gw_iconst F dX1_readLine_66 ?_
        refine gk_HV F (gc_V F (S := []) (As := [sg_i 1]) (T := TX9) (N := 8) (CX9_fail hst (by decide) hf) (so_3 hst) (by decide) rfl kw_457 kw_92 kw_477 kw_455 kw_456 hcX9_fail ⟨by decide, by decide⟩ rfl rfl (Nat.le_of_ble_eq_true rfl) ⟨by decide, by decide⟩ dX1_readLine_67) (fun s11 hf => ?_)
        exact gr_HV F hf (by decide) (by decide) dX1_readLine_70
      · have hf := hf.2 c10
        refine gw_aload_n F 0 rfl rfl to.1 dX1_readLine_50 ?_
        refine gw_aload_n F 1 rfl rfl (by decide) dX1_readLine_51 ?_
        refine gw_aload_n F 0 rfl rfl to.1 dX1_readLine_52 ?_
        refine gw_get0 F to (by decide) rfl sg_lay_RX1 (j := 6) (by decide) rfl (host := "") (.inl kw_169) dX1_readLine_53 (fun h12 => ?_)
        refine gk_HI F (gc_S F (S := [sg_r o]) (As := [sg_r 3, sg_i (s3 o 6)]) (CX1_readOnce hst h12 hf) kw_476 kw_94 kw_474 kw_475 hcX1_readOnce ⟨by decide, by decide⟩ rfl rfl (Nat.le_of_ble_eq_true rfl) ⟨by decide, by decide⟩ dX1_readLine_56) (fun u13 s15 h14 hf => ?_)
        obtain ⟨s16, e17⟩ : ∃ z : sg_M, z = sg_up s15 o 6 u13 := ⟨_, rfl⟩
        have hf := hf s16 e17
        refine gw_put0 F to (by decide) rfl sg_lay_RX1 (j := 6) (by decide) h14 e17 tyX1_ok nmX1 rfl (tyX1_ok 6 (by decide)) rfl (host := "") (.inl kw_169) dX1_readLine_59 ?_
        refine gw_goto F (tgt := 70) dX1_readLine_62 (by decide) ?_
        exact gr_HV F hf (by decide) (by decide) dX1_readLine_70
    · have hf := hf.2 c7
      refine gw_aload_n F 0 rfl rfl to.1 dX1_readLine_26 ?_
      refine gw_aload_n F 1 rfl rfl (by decide) dX1_readLine_27 ?_
      refine gw_aload_n F 0 rfl rfl to.1 dX1_readLine_28 ?_
      refine gw_get0 F to (by decide) rfl sg_lay_RX1 (j := 5) (by decide) rfl (host := "") (.inl kw_166) dX1_readLine_29 (fun h18 => ?_)
      refine gk_HI F (gc_S F (S := [sg_r o]) (As := [sg_r 3, sg_i (s3 o 5)]) (CX1_readOnce hst h18 hf) kw_476 kw_94 kw_474 kw_475 hcX1_readOnce ⟨by decide, by decide⟩ rfl rfl (Nat.le_of_ble_eq_true rfl) ⟨by decide, by decide⟩ dX1_readLine_32) (fun u19 s21 h20 hf => ?_)
      obtain ⟨s22, e23⟩ : ∃ z : sg_M, z = sg_up s21 o 5 u19 := ⟨_, rfl⟩
      have hf := hf s22 e23
      refine gw_put0 F to (by decide) rfl sg_lay_RX1 (j := 5) (by decide) h20 e23 tyX1_ok nmX1 rfl (tyX1_ok 5 (by decide)) rfl (host := "") (.inl kw_166) dX1_readLine_35 ?_
      refine gw_goto F (tgt := 70) dX1_readLine_38 (by decide) ?_
      exact gr_HV F hf (by decide) (by decide) dX1_readLine_70
  · have hf := hf.2 c4
    refine gw_aload_n F 0 rfl rfl to.1 dX1_readLine_9 ?_
    refine gw_aload_n F 1 rfl rfl (by decide) dX1_readLine_10 ?_
    refine gk_HV F (gc_V F (S := []) (As := [sg_r 3]) (T := TX1) (N := 7) (CX1_readPieces hst to hf) to (by decide) rfl kw_449 kw_94 kw_447 kw_448 kw_1 hcX1_readPieces ⟨by decide, by decide⟩ rfl rfl (Nat.le_of_ble_eq_true rfl) ⟨by decide, by decide⟩ dX1_readLine_11) (fun s24 hf => ?_)
    refine gw_goto F (tgt := 70) dX1_readLine_14 (by decide) ?_
    exact gr_HV F hf (by decide) (by decide) dX1_readLine_70

theorem dX9_isGoingOn_0 : decode cX9_isGoingOn 0 = .ok (.aload_n 0, 1) := by decide +kernel
theorem dX9_isGoingOn_1 : decode cX9_isGoingOn 1 = .ok (.getfield 25, 3) := by decide +kernel
theorem dX9_isGoingOn_4 : decode cX9_isGoingOn 4 = .ok (.ifCond .ne 14, 3) := by decide +kernel
theorem dX9_isGoingOn_7 : decode cX9_isGoingOn 7 = .ok (.aload_n 0, 1) := by decide +kernel
theorem dX9_isGoingOn_8 : decode cX9_isGoingOn 8 = .ok (.getfield 13, 3) := by decide +kernel
theorem dX9_isGoingOn_11 : decode cX9_isGoingOn 11 = .ok (.ifCond .eq 7, 3) := by decide +kernel
theorem dX9_isGoingOn_14 : decode cX9_isGoingOn 14 = .ok (.iconst 1, 1) := by decide +kernel
theorem dX9_isGoingOn_15 : decode cX9_isGoingOn 15 = .ok (.goto 4, 3) := by decide +kernel
theorem dX9_isGoingOn_18 : decode cX9_isGoingOn 18 = .ok (.iconst 0, 1) := by decide +kernel
theorem dX9_isGoingOn_19 : decode cX9_isGoingOn 19 = .ok (.ireturn, 1) := by decide +kernel
theorem hcX9_isGoingOn : yX9_isGoingOn.cls ≠ "java/lang/invoke/MethodHandle" ∧ yX9_isGoingOn.cls ≠ "java/lang/invoke/VarHandle" ∧ (parseMethodDescriptor yX9_isGoingOn.desc).map (fun d => d.parameters.length) = some 0 := ⟨by decide +kernel, by decide +kernel, by decide +kernel⟩
def fX9_isGoingOn (s0 : sg_M) (Q : Int → Prop) : Prop := (((s0 3 6) ≠ 0 → Q 0) ∧ ((s0 3 6) = 0 → (((s0 3 2) = 0 → Q 0) ∧ (¬ ((s0 3 2) = 0) → Q 1))))
set_option maxHeartbeats 4000000 in
set_option maxRecDepth 100000 in
theorem CX9_isGoingOn {l : Launch} {G : sg_G} {La : sg_L} {s0 : sg_M} (hst : sg_St La) {Q : Int → Prop} (hf : fX9_isGoingOn s0 Q) : sg_C l G yX9_isGoingOn cX9_isGoingOn 1 (some .boolean) 1 0 0 La s0 [sg_r 3] (sg_PZ La s0 Q) := by
  refine sg_body (by decide +kernel) (Nat.le_of_ble_eq_true rfl) ?_
  intro p e s m args below meth c F hnm
  unfold fX9_isGoingOn at hf
  show sg_W p l e (sg_rm 1 0 0) s m args below meth c (MQ below (sg_Q (some .boolean) G La s.heap.size (sg_PZ La s0 Q)) args s 0 0 (sg_A La s.heap.size)) 1 G (sg_A La s.heap.size) La s0 0 0 0 [(0, sg_r 3)] []
  refine gw_aload_n F 0 rfl rfl (by decide) dX9_isGoingOn_0 ?_
  refine gw_get0 F (so_3 hst) (by decide) rfl sg_lay_RX9 (j := 6) (by decide) rfl (host := "") (.inl kw_144) dX9_isGoingOn_1 (fun h1 => ?_)
  refine gw_if_ne F (tgt := 18) dX9_isGoingOn_4 (by decide) h1 (fun c2 => ?_) (fun c2 => ?_)
  · have hf := hf.1 c2
    refine gw_iconst F dX9_isGoingOn_18 ?_
    exact gr_PZ F (by decide) hf (by decide) (by decide) dX9_isGoingOn_19
  · have hf := hf.2 c2
    refine gw_aload_n F 0 rfl rfl (by decide) dX9_isGoingOn_7 ?_
    refine gw_get0 F (so_3 hst) (by decide) rfl sg_lay_RX9 (j := 2) (by decide) rfl (host := "") (.inl kw_140) dX9_isGoingOn_8 (fun h3 => ?_)
    refine gw_if_eq F (tgt := 18) dX9_isGoingOn_11 (by decide) h3 (fun c4 => ?_) (fun c4 => ?_)
    · have hf := hf.1 c4
      refine gw_iconst F dX9_isGoingOn_18 ?_
      exact gr_PZ F (by decide) hf (by decide) (by decide) dX9_isGoingOn_19
    · have hf := hf.2 c4
      refine gw_iconst F dX9_isGoingOn_14 ?_
      refine gw_goto F (tgt := 19) dX9_isGoingOn_15 (by decide) ?_
      exact gr_PZ F (by decide) hf (by decide) (by decide) dX9_isGoingOn_19

theorem dX1_readFrom_0 : decode cX1_readFrom 0 = .ok (.iconst 0, 1) := by decide +kernel
theorem dX1_readFrom_1 : decode cX1_readFrom 1 = .ok (.istore_n 2, 1) := by decide +kernel
theorem dX1_readFrom_2 : decode cX1_readFrom 2 = .ok (.iload_n 2, 1) := by decide +kernel
theorem dX1_readFrom_3 : decode cX1_readFrom 3 = .ok (.sipush 540, 3) := by decide +kernel
theorem dX1_readFrom_6 : decode cX1_readFrom 6 = .ok (.if_icmp .ge 27, 3) := by decide +kernel
theorem dX1_readFrom_9 : decode cX1_readFrom 9 = .ok (.aload_n 1, 1) := by decide +kernel
theorem dX1_readFrom_10 : decode cX1_readFrom 10 = .ok (.invokevirtual 59, 3) := by decide +kernel
theorem dX1_readFrom_13 : decode cX1_readFrom 13 = .ok (.ifCond .eq 20, 3) := by decide +kernel
theorem dX1_readFrom_16 : decode cX1_readFrom 16 = .ok (.aload_n 0, 1) := by decide +kernel
theorem dX1_readFrom_17 : decode cX1_readFrom 17 = .ok (.aload_n 1, 1) := by decide +kernel
theorem dX1_readFrom_18 : decode cX1_readFrom 18 = .ok (.invokevirtual 65, 3) := by decide +kernel
theorem dX1_readFrom_21 : decode cX1_readFrom 21 = .ok (.aload_n 1, 1) := by decide +kernel
theorem dX1_readFrom_22 : decode cX1_readFrom 22 = .ok (.bipush 59, 2) := by decide +kernel
theorem dX1_readFrom_24 : decode cX1_readFrom 24 = .ok (.invokevirtual 69, 3) := by decide +kernel
theorem dX1_readFrom_27 : decode cX1_readFrom 27 = .ok (.iinc 2 1, 3) := by decide +kernel
theorem dX1_readFrom_30 : decode cX1_readFrom 30 = .ok (.goto (-28), 3) := by decide +kernel
theorem dX1_readFrom_33 : decode cX1_readFrom 33 = .ok (.aload_n 0, 1) := by decide +kernel
theorem dX1_readFrom_34 : decode cX1_readFrom 34 = .ok (.getfield 24, 3) := by decide +kernel
theorem dX1_readFrom_37 : decode cX1_readFrom 37 = .ok (.iconst 3, 1) := by decide +kernel
theorem dX1_readFrom_38 : decode cX1_readFrom 38 = .ok (.if_icmp .ge 8, 3) := by decide +kernel
theorem dX1_readFrom_41 : decode cX1_readFrom 41 = .ok (.aload_n 1, 1) := by decide +kernel
theorem dX1_readFrom_42 : decode cX1_readFrom 42 = .ok (.iconst 1, 1) := by decide +kernel
theorem dX1_readFrom_43 : decode cX1_readFrom 43 = .ok (.invokevirtual 73, 3) := by decide +kernel
theorem dX1_readFrom_46 : decode cX1_readFrom 46 = .ok (.aload_n 0, 1) := by decide +kernel
theorem dX1_readFrom_47 : decode cX1_readFrom 47 = .ok (.invokevirtual 76, 3) := by decide +kernel
theorem dX1_readFrom_50 : decode cX1_readFrom 50 = .ok (.return_, 1) := by decide +kernel
theorem hcX1_readFrom : yX1_readFrom.cls ≠ "java/lang/invoke/MethodHandle" ∧ yX1_readFrom.cls ≠ "java/lang/invoke/VarHandle" ∧ (parseMethodDescriptor yX1_readFrom.desc).map (fun d => d.parameters.length) = some 1 := ⟨by decide +kernel, by decide +kernel, by decide +kernel⟩
def fX1_readFrom_L2 (o : Int) (k33 : sg_M → Prop) : Nat → sg_M → Int → Prop
  | 0, _, _ => False
  | n_2 + 1, s_2, x2_2 => ((540 ≤ x2_2 → k33 s_2) ∧ (¬ (540 ≤ x2_2) → fX9_isGoingOn s_2 (fun u2 => ((u2 = 0 → k33 s_2) ∧ (¬ (u2 = 0) → fX1_readLine s_2 o (fun s5 => fX9_mustBeSign s5 59 (fun s6 => sg_R (x2_2 + 1) ∧ (fX1_readFrom_L2 o k33 n_2) s6 (x2_2 + 1))))))))
def fX1_readFrom (s0 : sg_M) (o : Int) (Q : sg_M → Prop) : Prop := (∃ n8 : Nat, fX1_readFrom_L2 o (fun s_33e2 => ((3 ≤ (s_33e2 o 4) → fX1_fillUntold s_33e2 o (fun s11 => Q s11)) ∧ (¬ (3 ≤ (s_33e2 o 4)) → fX9_fail s_33e2 1 (fun s12 => fX1_fillUntold s12 o (fun s13 => Q s13))))) n8 s0 0)
set_option maxHeartbeats 4000000 in
set_option maxRecDepth 100000 in
theorem CX1_readFrom {l : Launch} {G : sg_G} {La : sg_L} {s0 : sg_M} (hst : sg_St La) {o : Int} (to : sg_O La o 1) {Q : sg_M → Prop} (hf : fX1_readFrom s0 o Q) : sg_C l G yX1_readFrom cX1_readFrom 3 (none) 9 0 0 La s0 [sg_r o, sg_r 3] (sg_HV La Q) := by
  refine sg_body (by decide +kernel) (Nat.le_of_ble_eq_true rfl) ?_
  intro p e s m args below meth c F hnm
  unfold fX1_readFrom at hf
  show sg_W p l e (sg_rm 9 0 0) s m args below meth c (MQ below (sg_Q (none) G La s.heap.size (sg_HV La Q)) args s 0 0 (sg_A La s.heap.size)) 3 G (sg_A La s.heap.size) La s0 0 0 0 [(0, sg_r o), (1, sg_r 3)] []
  refine gw_iconst F dX1_readFrom_0 ?_
  refine gw_istore_n F rfl (by decide) rfl dX1_readFrom_1 ?_
  have L2 : ∀ (k33 : sg_M → Prop) (hk33 : ∀ (s_33e2 : sg_M), k33 s_33e2 → sg_W p l e (sg_rm 9 0 0) s m args below meth c (MQ below (sg_Q (none) G La s.heap.size (sg_HV La Q)) args s 0 0 (sg_A La s.heap.size)) 3 G (sg_A La s.heap.size) La s_33e2 0 0 33 [(0, sg_r o), (1, sg_r 3)] []), ∀ n_2 : Nat, ∀ (s_2 : sg_M) (x2_2 : Int), sg_R x2_2 → fX1_readFrom_L2 o k33 n_2 s_2 x2_2 → sg_W p l e (sg_rm 9 0 0) s m args below meth c (MQ below (sg_Q (none) G La s.heap.size (sg_HV La Q)) args s 0 0 (sg_A La s.heap.size)) 3 G (sg_A La s.heap.size) La s_2 0 0 2 [(0, sg_r o), (1, sg_r 3), (2, sg_i x2_2)] [] := by
    intro k33 hk33 n_2
    induction n_2 with
    | zero => intro s_2 x2_2 r2_2 hf; exact hf.elim
    | succ n_2 ih =>
      intro s_2 x2_2 r2_2 hf
      unfold fX1_readFrom_L2 at hf
      refine gw_iload_n F 2 rfl rfl dX1_readFrom_2 ?_
      refine gw_sipush F rfl dX1_readFrom_3 ?_
      refine gw_icmp_ge F (tgt := 33) dX1_readFrom_6 (by decide) r2_2 (by decide) (fun c1 => ?_) (fun c1 => ?_)
      · have hf := hf.1 c1
        refine gw_sub [0, 1] rfl ?_
        exact hk33 s_2 hf
      · have hf := hf.2 c1
        refine gw_aload_n F 1 rfl rfl (by decide) dX1_readFrom_9 ?_
        refine gk_PZ F (gc_V F (S := []) (As := []) (T := TX9) (N := 8) (CX9_isGoingOn hst hf) (so_3 hst) (by decide) rfl kw_392 kw_92 kw_389 kw_390 kw_391 hcX9_isGoingOn ⟨by decide, by decide⟩ rfl rfl (Nat.le_of_ble_eq_true rfl) ⟨by decide, by decide⟩ dX1_readFrom_10) (fun u2 h3 hf => ?_)
        refine gw_if_eq F (tgt := 33) dX1_readFrom_13 (by decide) (sg_B_R h3) (fun c4 => ?_) (fun c4 => ?_)
        · have hf := hf.1 c4
          refine gw_sub [0, 1] rfl ?_
          exact hk33 s_2 hf
        · have hf := hf.2 c4
          refine gw_aload_n F 0 rfl rfl to.1 dX1_readFrom_16 ?_
          refine gw_aload_n F 1 rfl rfl (by decide) dX1_readFrom_17 ?_
          refine gk_HV F (gc_V F (S := []) (As := [sg_r 3]) (T := TX1) (N := 7) (CX1_readLine hst to hf) to (by decide) rfl kw_395 kw_94 kw_393 kw_394 kw_0 hcX1_readLine ⟨by decide, by decide⟩ rfl rfl (Nat.le_of_ble_eq_true rfl) ⟨by decide, by decide⟩ dX1_readFrom_18) (fun s5 hf => ?_)
          refine gw_aload_n F 1 rfl rfl (by decide) dX1_readFrom_21 ?_
          refine gw_bipush F rfl dX1_readFrom_22 ?_
          refine gk_HV F (gc_V F (S := []) (As := [sg_i 59]) (T := TX9) (N := 8) (CX9_mustBeSign hst (by decide) hf) (so_3 hst) (by decide) rfl kw_482 kw_92 kw_479 kw_480 kw_481 hcX9_mustBeSign ⟨by decide, by decide⟩ rfl rfl (Nat.le_of_ble_eq_true rfl) ⟨by decide, by decide⟩ dX1_readFrom_24) (fun s6 hf => ?_)
          refine gw_iinc F (z := (x2_2 + 1)) 2 rfl (by omega) (by decide) rfl dX1_readFrom_27 ?_
          refine gw_goto F (tgt := 2) dX1_readFrom_30 (by decide) ?_
          obtain ⟨g7, hf⟩ := hf
          refine gw_sub [1, 2, 0] rfl ?_
          exact ih s6 (x2_2 + 1) g7 hf
  obtain ⟨n8, hf⟩ := hf
  refine gw_sub [1, 2, 0] rfl ?_
  refine L2 _ (fun s_33e2 hf => ?_) n8 s0 0 (by decide) hf
  refine gw_aload_n F 0 rfl rfl to.1 dX1_readFrom_33 ?_
  refine gw_get0 F to (by decide) rfl sg_lay_RX1 (j := 4) (by decide) rfl (host := "") (.inl kw_163) dX1_readFrom_34 (fun h9 => ?_)
  refine gw_iconst F dX1_readFrom_37 ?_
  refine gw_icmp_ge F (tgt := 46) dX1_readFrom_38 (by decide) h9 (by decide) (fun c10 => ?_) (fun c10 => ?_)
  · have hf := hf.1 c10
    refine gw_aload_n F 0 rfl rfl to.1 dX1_readFrom_46 ?_
    refine gk_HV F (gc_V F (S := []) (As := []) (T := TX1) (N := 7) (CX1_fillUntold to hf) to (by decide) rfl kw_325 kw_94 kw_484 kw_323 kw_324 hcX1_fillUntold ⟨by decide, by decide⟩ rfl rfl (Nat.le_of_ble_eq_true rfl) ⟨by decide, by decide⟩ dX1_readFrom_47) (fun s11 hf => ?_)
    exact gr_HV F hf (by decide) (by decide) dX1_readFrom_50
  · have hf := hf.2 c10
    refine gw_aload_n F 1 rfl rfl (by decide) dX1_readFrom_41 ?_
    refine gw_iconst F dX1_readFrom_42 ?_
    refine gk_HV F (gc_V F (S := []) (As := [sg_i 1]) (T := TX9) (N := 8) (CX9_fail hst (by decide) hf) (so_3 hst) (by decide) rfl kw_457 kw_92 kw_477 kw_455 kw_456 hcX9_fail ⟨by decide, by decide⟩ rfl rfl (Nat.le_of_ble_eq_true rfl) ⟨by decide, by decide⟩ dX1_readFrom_43) (fun s12 hf => ?_)
    refine gw_aload_n F 0 rfl rfl to.1 dX1_readFrom_46 ?_
    refine gk_HV F (gc_V F (S := []) (As := []) (T := TX1) (N := 7) (CX1_fillUntold to hf) to (by decide) rfl kw_325 kw_94 kw_484 kw_323 kw_324 hcX1_fillUntold ⟨by decide, by decide⟩ rfl rfl (Nat.le_of_ble_eq_true rfl) ⟨by decide, by decide⟩ dX1_readFrom_47) (fun s13 hf => ?_)
    exact gr_HV F hf (by decide) (by decide) dX1_readFrom_50

theorem dX9_open_0 : decode cX9_open 0 = .ok (.aload_n 0, 1) := by decide +kernel
theorem dX9_open_1 : decode cX9_open 1 = .ok (.iload_n 1, 1) := by decide +kernel
theorem dX9_open_2 : decode cX9_open 2 = .ok (.putfield 7, 3) := by decide +kernel
theorem dX9_open_5 : decode cX9_open 5 = .ok (.aload_n 0, 1) := by decide +kernel
theorem dX9_open_6 : decode cX9_open 6 = .ok (.iconst 0, 1) := by decide +kernel
theorem dX9_open_7 : decode cX9_open 7 = .ok (.putfield 19, 3) := by decide +kernel
theorem dX9_open_10 : decode cX9_open 10 = .ok (.aload_n 0, 1) := by decide +kernel
theorem dX9_open_11 : decode cX9_open 11 = .ok (.iconst 0, 1) := by decide +kernel
theorem dX9_open_12 : decode cX9_open 12 = .ok (.putfield 25, 3) := by decide +kernel
theorem dX9_open_15 : decode cX9_open 15 = .ok (.aload_n 0, 1) := by decide +kernel
theorem dX9_open_16 : decode cX9_open 16 = .ok (.iconst 0, 1) := by decide +kernel
theorem dX9_open_17 : decode cX9_open 17 = .ok (.putfield 28, 3) := by decide +kernel
theorem dX9_open_20 : decode cX9_open 20 = .ok (.aload_n 0, 1) := by decide +kernel
theorem dX9_open_21 : decode cX9_open 21 = .ok (.invokevirtual 35, 3) := by decide +kernel
theorem dX9_open_24 : decode cX9_open 24 = .ok (.return_, 1) := by decide +kernel
theorem hcX9_open : yX9_open.cls ≠ "java/lang/invoke/MethodHandle" ∧ yX9_open.cls ≠ "java/lang/invoke/VarHandle" ∧ (parseMethodDescriptor yX9_open.desc).map (fun d => d.parameters.length) = some 1 := ⟨by decide +kernel, by decide +kernel, by decide +kernel⟩
def fX9_open (s0 : sg_M) (x1 : Int) (Q : sg_M → Prop) : Prop := ∀ s1 : sg_M, s1 = sg_up s0 3 1 x1 → ∀ s3 : sg_M, s3 = sg_up s1 3 4 0 → ∀ s5 : sg_M, s5 = sg_up s3 3 6 0 → ∀ s7 : sg_M, s7 = sg_up s5 3 7 0 → fX9_advance s7 (fun s9 => Q s9)
set_option maxHeartbeats 4000000 in
set_option maxRecDepth 100000 in
theorem CX9_open {l : Launch} {G : sg_G} {La : sg_L} {s0 : sg_M} (hst : sg_St La) {x1 : Int} (r1 : sg_R x1) {Q : sg_M → Prop} (hf : fX9_open s0 x1 Q) : sg_C l G yX9_open cX9_open 2 (none) 3 0 0 La s0 [sg_r 3, sg_i x1] (sg_HV La Q) := by
  refine sg_body (by decide +kernel) (Nat.le_of_ble_eq_true rfl) ?_
  intro p e s m args below meth c F hnm
  unfold fX9_open at hf
  show sg_W p l e (sg_rm 3 0 0) s m args below meth c (MQ below (sg_Q (none) G La s.heap.size (sg_HV La Q)) args s 0 0 (sg_A La s.heap.size)) 2 G (sg_A La s.heap.size) La s0 0 0 0 [(0, sg_r 3), (1, sg_i x1)] []
  refine gw_aload_n F 0 rfl rfl (by decide) dX9_open_0 ?_
  refine gw_iload_n F 1 rfl rfl dX9_open_1 ?_
  obtain ⟨s1, e2⟩ : ∃ z : sg_M, z = sg_up s0 3 1 x1 := ⟨_, rfl⟩
  have hf := hf s1 e2
  refine gw_put0 F (so_3 hst) (by decide) rfl sg_lay_RX9 (j := 1) (by decide) r1 e2 tyX9_ok nmX9 rfl (tyX9_ok 1 (by decide)) rfl (host := "") (.inl kw_139) dX9_open_2 ?_
  refine gw_aload_n F 0 rfl rfl (by decide) dX9_open_5 ?_
  refine gw_iconst F dX9_open_6 ?_
  obtain ⟨s3, e4⟩ : ∃ z : sg_M, z = sg_up s1 3 4 0 := ⟨_, rfl⟩
  have hf := hf s3 e4
  refine gw_put0 F (so_3 hst) (by decide) rfl sg_lay_RX9 (j := 4) (by decide) (by decide) e4 tyX9_ok nmX9 rfl (tyX9_ok 4 (by decide)) rfl (host := "") (.inl kw_142) dX9_open_7 ?_
  refine gw_aload_n F 0 rfl rfl (by decide) dX9_open_10 ?_
  refine gw_iconst F dX9_open_11 ?_
  obtain ⟨s5, e6⟩ : ∃ z : sg_M, z = sg_up s3 3 6 0 := ⟨_, rfl⟩
  have hf := hf s5 e6
  refine gw_put0 F (so_3 hst) (by decide) rfl sg_lay_RX9 (j := 6) (by decide) (by decide) e6 tyX9_ok nmX9 rfl (tyX9_ok 6 (by decide)) rfl (host := "") (.inl kw_144) dX9_open_12 ?_
  refine gw_aload_n F 0 rfl rfl (by decide) dX9_open_15 ?_
  refine gw_iconst F dX9_open_16 ?_
  obtain ⟨s7, e8⟩ : ∃ z : sg_M, z = sg_up s5 3 7 0 := ⟨_, rfl⟩
  have hf := hf s7 e8
  refine gw_put0 F (so_3 hst) (by decide) rfl sg_lay_RX9 (j := 7) (by decide) (by decide) e8 tyX9_ok nmX9 rfl (tyX9_ok 7 (by decide)) rfl (host := "") (.inl kw_148) dX9_open_17 ?_
  refine gw_aload_n F 0 rfl rfl (by decide) dX9_open_20 ?_
  refine gk_HV F (gc_V F (S := []) (As := []) (T := TX9) (N := 8) (CX9_advance hst hf) (so_3 hst) (by decide) rfl kw_368 kw_92 kw_365 kw_366 kw_367 hcX9_advance ⟨by decide, by decide⟩ rfl rfl (Nat.le_of_ble_eq_true rfl) ⟨by decide, by decide⟩ dX9_open_21) (fun s9 hf => ?_)
  exact gr_HV F hf (by decide) (by decide) dX9_open_24

theorem dX11_blade_0 : decode cX11_blade 0 = .ok (.new 27, 3) := by decide +kernel
theorem dX11_blade_3 : decode cX11_blade 3 = .ok (.dup, 1) := by decide +kernel
theorem dX11_blade_4 : decode cX11_blade 4 = .ok (.invokespecial 29, 3) := by decide +kernel
theorem dX11_blade_7 : decode cX11_blade 7 = .ok (.astore_n 1, 1) := by decide +kernel
theorem dX11_blade_8 : decode cX11_blade 8 = .ok (.aload_n 0, 1) := by decide +kernel
theorem dX11_blade_9 : decode cX11_blade 9 = .ok (.getfield 21, 3) := by decide +kernel
theorem dX11_blade_12 : decode cX11_blade 12 = .ok (.sipush 500, 3) := by decide +kernel
theorem dX11_blade_15 : decode cX11_blade 15 = .ok (.invokevirtual 128, 3) := by decide +kernel
theorem dX11_blade_18 : decode cX11_blade 18 = .ok (.aload_n 1, 1) := by decide +kernel
theorem dX11_blade_19 : decode cX11_blade 19 = .ok (.aload_n 0, 1) := by decide +kernel
theorem dX11_blade_20 : decode cX11_blade 20 = .ok (.getfield 21, 3) := by decide +kernel
theorem dX11_blade_23 : decode cX11_blade 23 = .ok (.invokevirtual 131, 3) := by decide +kernel
theorem dX11_blade_26 : decode cX11_blade 26 = .ok (.aload_n 0, 1) := by decide +kernel
theorem dX11_blade_27 : decode cX11_blade 27 = .ok (.getfield 21, 3) := by decide +kernel
theorem dX11_blade_30 : decode cX11_blade 30 = .ok (.getfield 135, 3) := by decide +kernel
theorem dX11_blade_33 : decode cX11_blade 33 = .ok (.ifCond .ne 11, 3) := by decide +kernel
theorem dX11_blade_36 : decode cX11_blade 36 = .ok (.aload_n 0, 1) := by decide +kernel
theorem dX11_blade_37 : decode cX11_blade 37 = .ok (.getfield 39, 3) := by decide +kernel
theorem dX11_blade_40 : decode cX11_blade 40 = .ok (.aload_n 1, 1) := by decide +kernel
theorem dX11_blade_41 : decode cX11_blade 41 = .ok (.putfield 112, 3) := by decide +kernel
theorem dX11_blade_44 : decode cX11_blade 44 = .ok (.aload_n 0, 1) := by decide +kernel
theorem dX11_blade_45 : decode cX11_blade 45 = .ok (.aload_n 1, 1) := by decide +kernel
theorem dX11_blade_46 : decode cX11_blade 46 = .ok (.getfield 138, 3) := by decide +kernel
theorem dX11_blade_49 : decode cX11_blade 49 = .ok (.invokevirtual 139, 3) := by decide +kernel
theorem dX11_blade_52 : decode cX11_blade 52 = .ok (.ireturn, 1) := by decide +kernel
theorem hcX11_blade : yX11_blade.cls ≠ "java/lang/invoke/MethodHandle" ∧ yX11_blade.cls ≠ "java/lang/invoke/VarHandle" ∧ (parseMethodDescriptor yX11_blade.desc).map (fun d => d.parameters.length) = some 0 := ⟨by decide +kernel, by decide +kernel, by decide +kernel⟩
def fX11_blade (La : sg_L) (s0 : sg_M) (Q : Int → sg_L → sg_M → Prop) : Prop := ∀ (q1 : Nat) (La2 : sg_L), La2 = sg_pu La 21 q1 → ∀ s3 : sg_M, s3 = sg_nw s0 La.1 21 → ∀ o4 : Int, o4 = (La.1 : Int) → fX1_init La2 s3 o4 (fun La13 s14 => fX9_open s14 500 (fun s20 => fX1_readFrom s20 o4 (fun s22 => (((s22 3 6) ≠ 0 → fX11_closeText s22 (s22 o4 4) (fun u27 s29 => Q u27 La13 s29)) ∧ ((s22 3 6) = 0 → ∀ s31 : sg_M, s31 = sg_up s22 4 0 o4 → fX11_closeText s31 (s31 o4 4) (fun u34 s36 => Q u34 La13 s36))))))
set_option maxHeartbeats 4000000 in
set_option maxRecDepth 100000 in
theorem CX11_blade {l : Launch} {G : sg_G} {La : sg_L} {s0 : sg_M} (hst : sg_St La) {Q : Int → sg_L → sg_M → Prop} (hf : fX11_blade La s0 Q) : sg_C l G yX11_blade cX11_blade 2 (some .int) 10 5 247 La s0 [sg_r 0] (sg_BI La Q) := by
  refine sg_body (by decide +kernel) (Nat.le_of_ble_eq_true rfl) ?_
  intro p e s m args below meth c F hnm
  unfold fX11_blade at hf
  show sg_W p l e (sg_rm 10 5 247) s m args below meth c (MQ below (sg_Q (some .int) G La s.heap.size (sg_BI La Q)) args s 5 247 (sg_A La s.heap.size)) 2 G (sg_A La s.heap.size) La s0 0 0 0 [(0, sg_r 0)] []
  refine gy_new F (kd := 21) (T := TX1) (by decide) rfl sg_lay_RX1 tyX1_ok kw_152 kw_153 kw_94 ns_X1 nf_X1 nr_X1 (by decide) (by decide) (List.forall_mem_cons.mpr ⟨(Or.inl (so_0 hst).2.1), (fun _ h => absurd h List.not_mem_nil)⟩) (fun _ h => absurd h List.not_mem_nil) dX11_blade_0 (fun q1 La2 s3 o4 e5 e6 e7 t8 hX9 => ?_)
  have hf := hf q1 La2 e5 s3 e6 o4 e7
  have hn10 : La.1 ≤ o4.toNat := by rw [e7, Int.toNat_natCast]; exact (sg_X.rf : sg_X La La).1
  have hst11 := hst.X hX9
  have hX12 := sg_X.tr (sg_X.rf) hX9
  refine gw_dup F rfl dX11_blade_3 ?_
  refine gk_BV F (gc_IN F (S := [sg_r o4]) (As := []) (CX1_init t8 hf) t8.1 kw_156 kw_94 kw_154 kw_155 rfl hcX1_init ⟨by decide, by decide⟩ rfl rfl (Nat.le_of_ble_eq_true rfl) ⟨by decide, by decide⟩ dX11_blade_4) (List.forall_mem_cons.mpr ⟨(Or.inl (so_0 hst11).2.1), (fun _ h => absurd h List.not_mem_nil)⟩) (List.forall_mem_cons.mpr ⟨(Or.inl t8.2.1), (fun _ h => absurd h List.not_mem_nil)⟩) (fun La13 s14 hX15 hf => ?_)
  have t16 := (sg_O_sealed t8).X hX15
  have hst17 := (sg_St_sx hst11 t8 ⟨by decide, by decide, by decide⟩).X hX15
  have hX18 := (sg_X_sx (hX12) hn10).tr hX15
  refine gw_astore_n F rfl t16.1 (by decide) rfl dX11_blade_7 ?_
  refine gw_aload_n F 1 rfl rfl (by decide) dX11_blade_8 ?_
  refine gw_get7 F (so_0 hst17) (by decide) rfl sg_lay_RX11 (j := 1) (by decide) (o1 := 3) (by first | rfl | omega) rfl (host := "") (.inl kw_327) dX11_blade_9 (fun h19 => ?_)
  refine gw_sipush F rfl dX11_blade_12 ?_
  refine gk_HV F (gc_V F (S := []) (As := [sg_i 500]) (T := TX9) (N := 8) (CX9_open hst17 (by decide) hf) (so_3 hst17) (by decide) rfl kw_364 kw_92 kw_361 kw_362 kw_363 hcX9_open ⟨by decide, by decide⟩ rfl rfl (Nat.le_of_ble_eq_true rfl) ⟨by decide, by decide⟩ dX11_blade_15) (fun s20 hf => ?_)
  refine gw_aload_n F 0 rfl rfl t16.1 dX11_blade_18 ?_
  refine gw_aload_n F 1 rfl rfl (by decide) dX11_blade_19 ?_
  refine gw_get7 F (so_0 hst17) (by decide) rfl sg_lay_RX11 (j := 1) (by decide) (o1 := 3) (by first | rfl | omega) rfl (host := "") (.inl kw_327) dX11_blade_20 (fun h21 => ?_)
  refine gk_HV F (gc_V F (S := []) (As := [sg_r 3]) (T := TX1) (N := 7) (CX1_readFrom hst17 t16 hf) t16 (by decide) rfl kw_388 kw_94 kw_385 kw_386 kw_387 hcX1_readFrom ⟨by decide, by decide⟩ rfl rfl (Nat.le_of_ble_eq_true rfl) ⟨by decide, by decide⟩ dX11_blade_23) (fun s22 hf => ?_)
  refine gw_aload_n F 1 rfl rfl (by decide) dX11_blade_26 ?_
  refine gw_get7 F (so_0 hst17) (by decide) rfl sg_lay_RX11 (j := 1) (by decide) (o1 := 3) (by first | rfl | omega) rfl (host := "") (.inl kw_327) dX11_blade_27 (fun h23 => ?_)
  refine gw_get0 F (so_3 hst17) (by decide) rfl sg_lay_RX9 (j := 6) (by decide) rfl (.inr kw_145) dX11_blade_30 (fun h24 => ?_)
  refine gw_if_ne F (tgt := 44) dX11_blade_33 (by decide) h24 (fun c25 => ?_) (fun c25 => ?_)
  · have hf := hf.1 c25
    refine gw_aload_n F 1 rfl rfl (by decide) dX11_blade_44 ?_
    refine gw_aload_n F 0 rfl rfl t16.1 dX11_blade_45 ?_
    refine gw_get0 F t16 (by decide) rfl sg_lay_RX1 (j := 4) (by decide) rfl (.inr kw_165) dX11_blade_46 (fun h26 => ?_)
    refine gk_HI F (gc_V F (S := []) (As := [sg_i (s22 o4 4)]) (T := TX11) (N := 19) (CX11_closeText hst17 h26 hf) (so_0 hst17) (by decide) rfl kw_487 kw_90 kw_485 kw_486 kw_2 hcX11_closeText ⟨by decide, by decide⟩ rfl rfl (Nat.le_of_ble_eq_true rfl) ⟨by decide, by decide⟩ dX11_blade_49) (fun u27 s29 h28 hf => ?_)
    exact gr_BI F h28 hf (hX18) (by decide) (by decide) dX11_blade_52
  · have hf := hf.2 c25
    refine gw_aload_n F 1 rfl rfl (by decide) dX11_blade_36 ?_
    refine gw_get7 F (so_0 hst17) (by decide) rfl sg_lay_RX11 (j := 2) (by decide) (o1 := 4) (by first | rfl | omega) rfl (host := "") (.inl kw_328) dX11_blade_37 (fun h30 => ?_)
    refine gw_aload_n F 0 rfl rfl t16.1 dX11_blade_40 ?_
    obtain ⟨s31, e32⟩ : ∃ z : sg_M, z = sg_up s22 4 0 o4 := ⟨_, rfl⟩
    have hf := hf s31 e32
    refine gw_put4 F (so_4 hst17) (by decide) rfl sg_lay_RX7 (j := 0) (by decide) t16.1 t16 e32 tyX7_ok nmX7 rfl (tyX7_ok 0 (by decide)) rfl (.inr kw_234) dX11_blade_41 ?_
    refine gw_aload_n F 1 rfl rfl (by decide) dX11_blade_44 ?_
    refine gw_aload_n F 0 rfl rfl t16.1 dX11_blade_45 ?_
    refine gw_get0 F t16 (by decide) rfl sg_lay_RX1 (j := 4) (by decide) rfl (.inr kw_165) dX11_blade_46 (fun h33 => ?_)
    refine gk_HI F (gc_V F (S := []) (As := [sg_i (s31 o4 4)]) (T := TX11) (N := 19) (CX11_closeText hst17 h33 hf) (so_0 hst17) (by decide) rfl kw_487 kw_90 kw_485 kw_486 kw_2 hcX11_closeText ⟨by decide, by decide⟩ rfl rfl (Nat.le_of_ble_eq_true rfl) ⟨by decide, by decide⟩ dX11_blade_49) (fun u34 s36 h35 hf => ?_)
    exact gr_BI F h35 hf (hX18) (by decide) (by decide) dX11_blade_52

theorem dX9_init_0 : decode cX9_init 0 = .ok (.aload_n 0, 1) := by decide +kernel
theorem dX9_init_1 : decode cX9_init 1 = .ok (.invokespecial 1, 3) := by decide +kernel
theorem dX9_init_4 : decode cX9_init 4 = .ok (.aload_n 0, 1) := by decide +kernel
theorem dX9_init_5 : decode cX9_init 5 = .ok (.iconst 0, 1) := by decide +kernel
theorem dX9_init_6 : decode cX9_init 6 = .ok (.putfield 7, 3) := by decide +kernel
theorem dX9_init_9 : decode cX9_init 9 = .ok (.aload_n 0, 1) := by decide +kernel
theorem dX9_init_10 : decode cX9_init 10 = .ok (.iconst 0, 1) := by decide +kernel
theorem dX9_init_11 : decode cX9_init 11 = .ok (.putfield 13, 3) := by decide +kernel
theorem dX9_init_14 : decode cX9_init 14 = .ok (.aload_n 0, 1) := by decide +kernel
theorem dX9_init_15 : decode cX9_init 15 = .ok (.iconst 0, 1) := by decide +kernel
theorem dX9_init_16 : decode cX9_init 16 = .ok (.putfield 16, 3) := by decide +kernel
theorem dX9_init_19 : decode cX9_init 19 = .ok (.aload_n 0, 1) := by decide +kernel
theorem dX9_init_20 : decode cX9_init 20 = .ok (.iconst 0, 1) := by decide +kernel
theorem dX9_init_21 : decode cX9_init 21 = .ok (.putfield 19, 3) := by decide +kernel
theorem dX9_init_24 : decode cX9_init 24 = .ok (.aload_n 0, 1) := by decide +kernel
theorem dX9_init_25 : decode cX9_init 25 = .ok (.iconst 0, 1) := by decide +kernel
theorem dX9_init_26 : decode cX9_init 26 = .ok (.putfield 22, 3) := by decide +kernel
theorem dX9_init_29 : decode cX9_init 29 = .ok (.aload_n 0, 1) := by decide +kernel
theorem dX9_init_30 : decode cX9_init 30 = .ok (.iconst 0, 1) := by decide +kernel
theorem dX9_init_31 : decode cX9_init 31 = .ok (.putfield 25, 3) := by decide +kernel
theorem dX9_init_34 : decode cX9_init 34 = .ok (.aload_n 0, 1) := by decide +kernel
theorem dX9_init_35 : decode cX9_init 35 = .ok (.iconst 0, 1) := by decide +kernel
theorem dX9_init_36 : decode cX9_init 36 = .ok (.putfield 28, 3) := by decide +kernel
theorem dX9_init_39 : decode cX9_init 39 = .ok (.aload_n 0, 1) := by decide +kernel
theorem dX9_init_40 : decode cX9_init 40 = .ok (.aload_n 1, 1) := by decide +kernel
theorem dX9_init_41 : decode cX9_init 41 = .ok (.putfield 31, 3) := by decide +kernel
theorem dX9_init_44 : decode cX9_init 44 = .ok (.return_, 1) := by decide +kernel
theorem hcX9_init : yX9_init.cls ≠ "java/lang/invoke/MethodHandle" ∧ yX9_init.cls ≠ "java/lang/invoke/VarHandle" ∧ (parseMethodDescriptor yX9_init.desc).map (fun d => d.parameters.length) = some 1 := ⟨by decide +kernel, by decide +kernel, by decide +kernel⟩
def fX9_init (La : sg_L) (s0 : sg_M) (o : Int) (o1 : Int) (Q : sg_L → sg_M → Prop) : Prop := ∀ s1 : sg_M, s1 = sg_up s0 o 1 0 → ∀ s3 : sg_M, s3 = sg_up s1 o 2 0 → ∀ s5 : sg_M, s5 = sg_up s3 o 3 0 → ∀ s7 : sg_M, s7 = sg_up s5 o 4 0 → ∀ s9 : sg_M, s9 = sg_up s7 o 5 0 → ∀ s11 : sg_M, s11 = sg_up s9 o 6 0 → ∀ s13 : sg_M, s13 = sg_up s11 o 7 0 → ∀ s15 : sg_M, s15 = sg_up s13 o 0 o1 → sg_sealed La s15 o 29 9 ∧ ∀ La17 : sg_L, La17 = sg_se La o.toNat 9 → Q La17 s15
set_option maxHeartbeats 4000000 in
set_option maxRecDepth 100000 in
theorem CX9_init {l : Launch} {G : sg_G} {La : sg_L} {s0 : sg_M} (hst : sg_St La) {o : Int} (to : sg_O La o 29) {o1 : Int} (t1 : sg_O La o1 8) {Q : sg_L → sg_M → Prop} (hf : fX9_init La s0 o o1 Q) : sg_C l G yX9_init cX9_init 2 (none) 1 0 0 La s0 [sg_r o, sg_r o1] (sg_BV (sg_se La o.toNat 9) Q) := by
  refine sg_body (by decide +kernel) (Nat.le_of_ble_eq_true rfl) ?_
  intro p e s m args below meth c F hnm
  unfold fX9_init at hf
  show sg_W p l e (sg_rm 1 0 0) s m args below meth c (MQ below (sg_Q (none) G La s.heap.size (sg_BV (sg_se La o.toNat 9) Q)) args s 0 0 (sg_A La s.heap.size)) 2 G (sg_A La s.heap.size) La s0 0 0 0 [(0, sg_r o), (1, sg_r o1)] []
  have hin : meth.name = "<init>" := hnm
  refine gw_aload_n F 0 rfl rfl to.1 dX9_init_0 ?_
  refine gw_objInit F to.1 kw_137 kw_OI kw_OC (Nat.le_of_ble_eq_true rfl) (by decide) (by decide) dX9_init_1 ?_
  refine gw_aload_n F 0 rfl rfl to.1 dX9_init_4 ?_
  refine gw_iconst F dX9_init_5 ?_
  obtain ⟨s1, e2⟩ : ∃ z : sg_M, z = sg_up s0 o 1 0 := ⟨_, rfl⟩
  have hf := hf s1 e2
  refine gw_put0 F to (by decide) rfl sg_lay_RX9 (j := 1) (by decide) (by decide) e2 tyX9_ok nmX9 rfl (tyX9_ok 1 (by decide)) rfl (host := "") (.inl kw_139) dX9_init_6 ?_
  refine gw_aload_n F 0 rfl rfl to.1 dX9_init_9 ?_
  refine gw_iconst F dX9_init_10 ?_
  obtain ⟨s3, e4⟩ : ∃ z : sg_M, z = sg_up s1 o 2 0 := ⟨_, rfl⟩
  have hf := hf s3 e4
  refine gw_put0 F to (by decide) rfl sg_lay_RX9 (j := 2) (by decide) (by decide) e4 tyX9_ok nmX9 rfl (tyX9_ok 2 (by decide)) rfl (host := "") (.inl kw_140) dX9_init_11 ?_
  refine gw_aload_n F 0 rfl rfl to.1 dX9_init_14 ?_
  refine gw_iconst F dX9_init_15 ?_
  obtain ⟨s5, e6⟩ : ∃ z : sg_M, z = sg_up s3 o 3 0 := ⟨_, rfl⟩
  have hf := hf s5 e6
  refine gw_put0 F to (by decide) rfl sg_lay_RX9 (j := 3) (by decide) (by decide) e6 tyX9_ok nmX9 rfl (tyX9_ok 3 (by decide)) rfl (host := "") (.inl kw_141) dX9_init_16 ?_
  refine gw_aload_n F 0 rfl rfl to.1 dX9_init_19 ?_
  refine gw_iconst F dX9_init_20 ?_
  obtain ⟨s7, e8⟩ : ∃ z : sg_M, z = sg_up s5 o 4 0 := ⟨_, rfl⟩
  have hf := hf s7 e8
  refine gw_put0 F to (by decide) rfl sg_lay_RX9 (j := 4) (by decide) (by decide) e8 tyX9_ok nmX9 rfl (tyX9_ok 4 (by decide)) rfl (host := "") (.inl kw_142) dX9_init_21 ?_
  refine gw_aload_n F 0 rfl rfl to.1 dX9_init_24 ?_
  refine gw_iconst F dX9_init_25 ?_
  obtain ⟨s9, e10⟩ : ∃ z : sg_M, z = sg_up s7 o 5 0 := ⟨_, rfl⟩
  have hf := hf s9 e10
  refine gw_put0 F to (by decide) rfl sg_lay_RX9 (j := 5) (by decide) (by decide) e10 tyX9_ok nmX9 rfl (tyX9_ok 5 (by decide)) rfl (host := "") (.inl kw_143) dX9_init_26 ?_
  refine gw_aload_n F 0 rfl rfl to.1 dX9_init_29 ?_
  refine gw_iconst F dX9_init_30 ?_
  obtain ⟨s11, e12⟩ : ∃ z : sg_M, z = sg_up s9 o 6 0 := ⟨_, rfl⟩
  have hf := hf s11 e12
  refine gw_put0 F to (by decide) rfl sg_lay_RX9 (j := 6) (by decide) (by decide) e12 tyX9_ok nmX9 rfl (tyX9_ok 6 (by decide)) rfl (host := "") (.inl kw_144) dX9_init_31 ?_
  refine gw_aload_n F 0 rfl rfl to.1 dX9_init_34 ?_
  refine gw_iconst F dX9_init_35 ?_
  obtain ⟨s13, e14⟩ : ∃ z : sg_M, z = sg_up s11 o 7 0 := ⟨_, rfl⟩
  have hf := hf s13 e14
  refine gw_put0 F to (by decide) rfl sg_lay_RX9 (j := 7) (by decide) (by decide) e14 tyX9_ok nmX9 rfl (tyX9_ok 7 (by decide)) rfl (host := "") (.inl kw_148) dX9_init_36 ?_
  refine gw_aload_n F 0 rfl rfl to.1 dX9_init_39 ?_
  refine gw_aload_n F 1 rfl rfl t1.1 dX9_init_40 ?_
  obtain ⟨s15, e16⟩ : ∃ z : sg_M, z = sg_up s13 o 0 o1 := ⟨_, rfl⟩
  have hf := hf s15 e16
  refine gw_put5F F to (by decide) rfl sg_lay_RX9 (j := 0) (by decide) (D0 := tyX9 0) (fun _ => ⟨rfl, rfl⟩) t1.1 t1.2.1 e16 tyX9_ok nmX9 rfl hin rfl (tyX9_ok 0 (by decide)) rfl (host := "") kw_138 dX9_init_41 ?_
  obtain ⟨g18, hf⟩ := hf
  obtain ⟨La17, e19⟩ : ∃ z : sg_L, z = sg_se La o.toNat 9 := ⟨_, rfl⟩
  have hf := hf La17 e19
  refine gy_seal to ⟨by decide, by decide, by decide⟩ (by decide) (by decide) g18 e19 ?_
  exact gr_BC F (o := o.toNat) (kd := 9) hf (by rw [e19]; exact sg_X.both sg_X.rf) (by decide) (by decide) dX9_init_44

theorem dX11_take_0 : decode cX11_take 0 = .ok (.iload_n 1, 1) := by decide +kernel
theorem dX11_take_1 : decode cX11_take 1 = .ok (.ifCond .lt 20, 3) := by decide +kernel
theorem dX11_take_4 : decode cX11_take 4 = .ok (.iload_n 1, 1) := by decide +kernel
theorem dX11_take_5 : decode cX11_take 5 = .ok (.iconst 4, 1) := by decide +kernel
theorem dX11_take_6 : decode cX11_take 6 = .ok (.if_icmp .ge 15, 3) := by decide +kernel
theorem dX11_take_9 : decode cX11_take 9 = .ok (.aload_n 0, 1) := by decide +kernel
theorem dX11_take_10 : decode cX11_take 10 = .ok (.getfield 39, 3) := by decide +kernel
theorem dX11_take_13 : decode cX11_take 13 = .ok (.getfield 300, 3) := by decide +kernel
theorem dX11_take_16 : decode cX11_take 16 = .ok (.iload_n 1, 1) := by decide +kernel
theorem dX11_take_17 : decode cX11_take 17 = .ok (.aaload, 1) := by decide +kernel
theorem dX11_take_18 : decode cX11_take 18 = .ok (.ifnonnull 5, 3) := by decide +kernel
theorem dX11_take_21 : decode cX11_take 21 = .ok (.iconst 0, 1) := by decide +kernel
theorem dX11_take_22 : decode cX11_take 22 = .ok (.ireturn, 1) := by decide +kernel
theorem dX11_take_23 : decode cX11_take 23 = .ok (.aload_n 0, 1) := by decide +kernel
theorem dX11_take_24 : decode cX11_take 24 = .ok (.getfield 39, 3) := by decide +kernel
theorem dX11_take_27 : decode cX11_take 27 = .ok (.aload_n 0, 1) := by decide +kernel
theorem dX11_take_28 : decode cX11_take 28 = .ok (.getfield 39, 3) := by decide +kernel
theorem dX11_take_31 : decode cX11_take 31 = .ok (.getfield 300, 3) := by decide +kernel
theorem dX11_take_34 : decode cX11_take 34 = .ok (.iload_n 1, 1) := by decide +kernel
theorem dX11_take_35 : decode cX11_take 35 = .ok (.aaload, 1) := by decide +kernel
theorem dX11_take_36 : decode cX11_take 36 = .ok (.putfield 112, 3) := by decide +kernel
theorem dX11_take_39 : decode cX11_take 39 = .ok (.aload_n 0, 1) := by decide +kernel
theorem dX11_take_40 : decode cX11_take 40 = .ok (.invokevirtual 248, 3) := by decide +kernel
theorem dX11_take_43 : decode cX11_take 43 = .ok (.iconst 1, 1) := by decide +kernel
theorem dX11_take_44 : decode cX11_take 44 = .ok (.ireturn, 1) := by decide +kernel
theorem hcX11_take : yX11_take.cls ≠ "java/lang/invoke/MethodHandle" ∧ yX11_take.cls ≠ "java/lang/invoke/VarHandle" ∧ (parseMethodDescriptor yX11_take.desc).map (fun d => d.parameters.length) = some 1 := ⟨by decide +kernel, by decide +kernel, by decide +kernel⟩
def fX11_take (s0 : sg_M) (x1 : Int) (Q : Int → sg_M → Prop) : Prop := ((x1 < 0 → Q 0 s0) ∧ (¬ (x1 < 0) → ((4 ≤ x1 → Q 0 s0) ∧ (¬ (4 ≤ x1) → (0 ≤ x1 ∧ x1 < 4) ∧ ((0 ≤ (s0 25 x1) → (0 ≤ x1 ∧ x1 < 4) ∧ (0 ≤ (s0 25 x1)) ∧ ∀ s16 : sg_M, s16 = sg_up s0 4 0 (s0 25 x1) → fX11_forgetAnswers s16 (fun s18 => Q 1 s18)) ∧ ((s0 25 x1) < 0 → Q 0 s0))))))
set_option maxHeartbeats 4000000 in
set_option maxRecDepth 100000 in
theorem CX11_take {l : Launch} {G : sg_G} {La : sg_L} {s0 : sg_M} (hst : sg_St La) {x1 : Int} (r1 : sg_R x1) {Q : Int → sg_M → Prop} (hf : fX11_take s0 x1 Q) : sg_C l G yX11_take cX11_take 2 (some .boolean) 2 0 0 La s0 [sg_r 0, sg_i x1] (sg_HZ La Q) := by
  refine sg_body (by decide +kernel) (Nat.le_of_ble_eq_true rfl) ?_
  intro p e s m args below meth c F hnm
  unfold fX11_take at hf
  show sg_W p l e (sg_rm 2 0 0) s m args below meth c (MQ below (sg_Q (some .boolean) G La s.heap.size (sg_HZ La Q)) args s 0 0 (sg_A La s.heap.size)) 2 G (sg_A La s.heap.size) La s0 0 0 0 [(0, sg_r 0), (1, sg_i x1)] []
  refine gw_iload_n F 1 rfl rfl dX11_take_0 ?_
  refine gw_if_lt F (tgt := 21) dX11_take_1 (by decide) r1 (fun c1 => ?_) (fun c1 => ?_)
  · have hf := hf.1 c1
    refine gw_iconst F dX11_take_21 ?_
    exact gr_HZ F (by decide) hf (by decide) (by decide) dX11_take_22
  · have hf := hf.2 c1
    refine gw_iload_n F 1 rfl rfl dX11_take_4 ?_
    refine gw_iconst F dX11_take_5 ?_
    refine gw_icmp_ge F (tgt := 21) dX11_take_6 (by decide) r1 (by decide) (fun c2 => ?_) (fun c2 => ?_)
    · have hf := hf.1 c2
      refine gw_iconst F dX11_take_21 ?_
      exact gr_HZ F (by decide) hf (by decide) (by decide) dX11_take_22
    · have hf := hf.2 c2
      refine gw_aload_n F 0 rfl rfl (by decide) dX11_take_9 ?_
      refine gw_get7 F (so_0 hst) (by decide) rfl sg_lay_RX11 (j := 2) (by decide) (o1 := 4) (by first | rfl | omega) rfl (host := "") (.inl kw_328) dX11_take_10 (fun h3 => ?_)
      refine gw_get7 F (so_4 hst) (by decide) rfl sg_lay_RX7 (j := 4) (by decide) (o1 := 25) (by first | rfl | omega) rfl (.inr kw_242) dX11_take_13 (fun h4 => ?_)
      refine gw_iload_n F 1 rfl rfl dX11_take_16 ?_
      obtain ⟨⟨b50, b51⟩, hf⟩ := hf
      refine gw_aaldB F (n := 4) (so_25 hst) (by decide) (by decide) (by decide) b50 b51 dX11_take_17 (fun h6 => ?_)
      refine gw_ifnonnull F (tgt := 23) dX11_take_18 (by decide) (fun c7 => ?_) (fun c7 => ?_)
      · have hf := hf.1 c7
        have t8 := sg_nn h6 c7
        refine gw_aload_n F 0 rfl rfl (by decide) dX11_take_23 ?_
        refine gw_get7 F (so_0 hst) (by decide) rfl sg_lay_RX11 (j := 2) (by decide) (o1 := 4) (by first | rfl | omega) rfl (host := "") (.inl kw_328) dX11_take_24 (fun h9 => ?_)
        refine gw_aload_n F 0 rfl rfl (by decide) dX11_take_27 ?_
        refine gw_get7 F (so_0 hst) (by decide) rfl sg_lay_RX11 (j := 2) (by decide) (o1 := 4) (by first | rfl | omega) rfl (host := "") (.inl kw_328) dX11_take_28 (fun h10 => ?_)
        refine gw_get7 F (so_4 hst) (by decide) rfl sg_lay_RX7 (j := 4) (by decide) (o1 := 25) (by first | rfl | omega) rfl (.inr kw_242) dX11_take_31 (fun h11 => ?_)
        refine gw_iload_n F 1 rfl rfl dX11_take_34 ?_
        obtain ⟨⟨b120, b121⟩, hf⟩ := hf
        refine gw_aaldB F (n := 4) (so_25 hst) (by decide) (by decide) (by decide) b120 b121 dX11_take_35 (fun h13 => ?_)
        obtain ⟨g14, hf⟩ := hf
        have t15 := sg_nn h13 g14
        obtain ⟨s16, e17⟩ : ∃ z : sg_M, z = sg_up s0 4 0 (s0 25 x1) := ⟨_, rfl⟩
        have hf := hf s16 e17
        refine gw_put4 F (so_4 hst) (by decide) rfl sg_lay_RX7 (j := 0) (by decide) t15.1 t15 e17 tyX7_ok nmX7 rfl (tyX7_ok 0 (by decide)) rfl (.inr kw_234) dX11_take_36 ?_
        refine gw_aload_n F 0 rfl rfl (by decide) dX11_take_39 ?_
        refine gk_HV F (gc_V F (S := []) (As := []) (T := TX11) (N := 19) (CX11_forgetAnswers hst hf) (so_0 hst) (by decide) rfl kw_490 kw_90 kw_488 kw_489 kw_3 hcX11_forgetAnswers ⟨by decide, by decide⟩ rfl rfl (Nat.le_of_ble_eq_true rfl) ⟨by decide, by decide⟩ dX11_take_40) (fun s18 hf => ?_)
        refine gw_iconst F dX11_take_43 ?_
        exact gr_HZ F (by decide) hf (by decide) (by decide) dX11_take_44
      · have hf := hf.2 c7
        refine gw_iconst F dX11_take_21 ?_
        exact gr_HZ F (by decide) hf (by decide) (by decide) dX11_take_22

theorem dX3_knee_0 : decode cX3_knee 0 = .ok (.iload_n 1, 1) := by decide +kernel
theorem dX3_knee_1 : decode cX3_knee 1 = .ok (.iconst 1, 1) := by decide +kernel
theorem dX3_knee_2 : decode cX3_knee 2 = .ok (.if_icmp .lt 18, 3) := by decide +kernel
theorem dX3_knee_5 : decode cX3_knee 5 = .ok (.iload_n 1, 1) := by decide +kernel
theorem dX3_knee_6 : decode cX3_knee 6 = .ok (.aload_n 0, 1) := by decide +kernel
theorem dX3_knee_7 : decode cX3_knee 7 = .ok (.getfield 18, 3) := by decide +kernel
theorem dX3_knee_10 : decode cX3_knee 10 = .ok (.if_icmp .gt 10, 3) := by decide +kernel
theorem dX3_knee_13 : decode cX3_knee 13 = .ok (.iload_n 1, 1) := by decide +kernel
theorem dX3_knee_14 : decode cX3_knee 14 = .ok (.sipush 200, 3) := by decide +kernel
theorem dX3_knee_17 : decode cX3_knee 17 = .ok (.if_icmp .le 7, 3) := by decide +kernel
theorem dX3_knee_20 : decode cX3_knee 20 = .ok (.iconst 0, 1) := by decide +kernel
theorem dX3_knee_21 : decode cX3_knee 21 = .ok (.goto 11, 3) := by decide +kernel
theorem dX3_knee_24 : decode cX3_knee 24 = .ok (.aload_n 0, 1) := by decide +kernel
theorem dX3_knee_25 : decode cX3_knee 25 = .ok (.getfield 9, 3) := by decide +kernel
theorem dX3_knee_28 : decode cX3_knee 28 = .ok (.iload_n 1, 1) := by decide +kernel
theorem dX3_knee_29 : decode cX3_knee 29 = .ok (.iconst 1, 1) := by decide +kernel
theorem dX3_knee_30 : decode cX3_knee 30 = .ok (.isub, 1) := by decide +kernel
theorem dX3_knee_31 : decode cX3_knee 31 = .ok (.iaload, 1) := by decide +kernel
theorem dX3_knee_32 : decode cX3_knee 32 = .ok (.ireturn, 1) := by decide +kernel
theorem hcX3_knee : yX3_knee.cls ≠ "java/lang/invoke/MethodHandle" ∧ yX3_knee.cls ≠ "java/lang/invoke/VarHandle" ∧ (parseMethodDescriptor yX3_knee.desc).map (fun d => d.parameters.length) = some 1 := ⟨by decide +kernel, by decide +kernel, by decide +kernel⟩
def fX3_knee (s0 : sg_M) (o : Int) (x1 : Int) (Q : Int → Prop) : Prop := ((x1 < 1 → Q 0) ∧ (¬ (x1 < 1) → (((s0 o 2) < x1 → Q 0) ∧ (¬ ((s0 o 2) < x1) → ((x1 ≤ 200 → (0 ≤ (x1 - 1) ∧ (x1 - 1) < 200) ∧ Q (s0 (o + 1) (x1 - 1))) ∧ (¬ (x1 ≤ 200) → Q 0))))))
set_option maxHeartbeats 4000000 in
set_option maxRecDepth 100000 in
theorem CX3_knee {l : Launch} {G : sg_G} {La : sg_L} {s0 : sg_M} {o : Int} (to : sg_O La o 3) {x1 : Int} (r1 : sg_R x1) {Q : Int → Prop} (hf : fX3_knee s0 o x1 Q) : sg_C l G yX3_knee cX3_knee 2 (some .int) 1 0 0 La s0 [sg_r o, sg_i x1] (sg_PI La s0 Q) := by
  refine sg_body (by decide +kernel) (Nat.le_of_ble_eq_true rfl) ?_
  intro p e s m args below meth c F hnm
  unfold fX3_knee at hf
  show sg_W p l e (sg_rm 1 0 0) s m args below meth c (MQ below (sg_Q (some .int) G La s.heap.size (sg_PI La s0 Q)) args s 0 0 (sg_A La s.heap.size)) 2 G (sg_A La s.heap.size) La s0 0 0 0 [(0, sg_r o), (1, sg_i x1)] []
  refine gw_iload_n F 1 rfl rfl dX3_knee_0 ?_
  refine gw_iconst F dX3_knee_1 ?_
  refine gw_icmp_lt F (tgt := 20) dX3_knee_2 (by decide) r1 (by decide) (fun c1 => ?_) (fun c1 => ?_)
  · have hf := hf.1 c1
    refine gw_iconst F dX3_knee_20 ?_
    refine gw_goto F (tgt := 32) dX3_knee_21 (by decide) ?_
    exact gr_PI F (by decide) hf (by decide) (by decide) dX3_knee_32
  · have hf := hf.2 c1
    refine gw_iload_n F 1 rfl rfl dX3_knee_5 ?_
    refine gw_aload_n F 0 rfl rfl to.1 dX3_knee_6 ?_
    refine gw_get0 F to (by decide) rfl sg_lay_RX3 (j := 2) (by decide) rfl (host := "") (.inl kw_180) dX3_knee_7 (fun h2 => ?_)
    refine gw_icmp_gt F (tgt := 20) dX3_knee_10 (by decide) r1 h2 (fun c3 => ?_) (fun c3 => ?_)
    · have hf := hf.1 c3
      refine gw_iconst F dX3_knee_20 ?_
      refine gw_goto F (tgt := 32) dX3_knee_21 (by decide) ?_
      exact gr_PI F (by decide) hf (by decide) (by decide) dX3_knee_32
    · have hf := hf.2 c3
      refine gw_iload_n F 1 rfl rfl dX3_knee_13 ?_
      refine gw_sipush F rfl dX3_knee_14 ?_
      refine gw_icmp_le F (tgt := 24) dX3_knee_17 (by decide) r1 (by decide) (fun c4 => ?_) (fun c4 => ?_)
      · have hf := hf.1 c4
        refine gw_aload_n F 0 rfl rfl to.1 dX3_knee_24 ?_
        refine gw_get3 F to (by decide) rfl sg_lay_RX3 (j := 0) (by decide) (o1 := (o + 1)) (by first | rfl | omega) rfl (host := "") (.inl kw_178) dX3_knee_25 (fun h5 => ?_)
        refine gw_iload_n F 1 rfl rfl dX3_knee_28 ?_
        refine gw_iconst F dX3_knee_29 ?_
        refine gw_isub F rfl dX3_knee_30 ?_
        obtain ⟨⟨b60, b61⟩, hf⟩ := hf
        refine gw_iald F (sg_AN_of (sg_O_of h5 (by decide)) (by decide) (by decide) (by decide)) b60 b61 dX3_knee_31 (fun h7 => ?_)
        exact gr_PI F h7 hf (by decide) (by decide) dX3_knee_32
      · have hf := hf.2 c4
        refine gw_iconst F dX3_knee_20 ?_
        refine gw_goto F (tgt := 32) dX3_knee_21 (by decide) ?_
        exact gr_PI F (by decide) hf (by decide) (by decide) dX3_knee_32

theorem dX3_tip_0 : decode cX3_tip 0 = .ok (.iload_n 1, 1) := by decide +kernel
theorem dX3_tip_1 : decode cX3_tip 1 = .ok (.iconst 1, 1) := by decide +kernel
theorem dX3_tip_2 : decode cX3_tip 2 = .ok (.if_icmp .lt 18, 3) := by decide +kernel
theorem dX3_tip_5 : decode cX3_tip 5 = .ok (.iload_n 1, 1) := by decide +kernel
theorem dX3_tip_6 : decode cX3_tip 6 = .ok (.aload_n 0, 1) := by decide +kernel
theorem dX3_tip_7 : decode cX3_tip 7 = .ok (.getfield 18, 3) := by decide +kernel
theorem dX3_tip_10 : decode cX3_tip 10 = .ok (.if_icmp .gt 10, 3) := by decide +kernel
theorem dX3_tip_13 : decode cX3_tip 13 = .ok (.iload_n 1, 1) := by decide +kernel
theorem dX3_tip_14 : decode cX3_tip 14 = .ok (.sipush 200, 3) := by decide +kernel
theorem dX3_tip_17 : decode cX3_tip 17 = .ok (.if_icmp .le 7, 3) := by decide +kernel
theorem dX3_tip_20 : decode cX3_tip 20 = .ok (.iconst 0, 1) := by decide +kernel
theorem dX3_tip_21 : decode cX3_tip 21 = .ok (.goto 11, 3) := by decide +kernel
theorem dX3_tip_24 : decode cX3_tip 24 = .ok (.aload_n 0, 1) := by decide +kernel
theorem dX3_tip_25 : decode cX3_tip 25 = .ok (.getfield 15, 3) := by decide +kernel
theorem dX3_tip_28 : decode cX3_tip 28 = .ok (.iload_n 1, 1) := by decide +kernel
theorem dX3_tip_29 : decode cX3_tip 29 = .ok (.iconst 1, 1) := by decide +kernel
theorem dX3_tip_30 : decode cX3_tip 30 = .ok (.isub, 1) := by decide +kernel
theorem dX3_tip_31 : decode cX3_tip 31 = .ok (.iaload, 1) := by decide +kernel
theorem dX3_tip_32 : decode cX3_tip 32 = .ok (.ireturn, 1) := by decide +kernel
theorem hcX3_tip : yX3_tip.cls ≠ "java/lang/invoke/MethodHandle" ∧ yX3_tip.cls ≠ "java/lang/invoke/VarHandle" ∧ (parseMethodDescriptor yX3_tip.desc).map (fun d => d.parameters.length) = some 1 := ⟨by decide +kernel, by decide +kernel, by decide +kernel⟩
def fX3_tip (s0 : sg_M) (o : Int) (x1 : Int) (Q : Int → Prop) : Prop := ((x1 < 1 → Q 0) ∧ (¬ (x1 < 1) → (((s0 o 2) < x1 → Q 0) ∧ (¬ ((s0 o 2) < x1) → ((x1 ≤ 200 → (0 ≤ (x1 - 1) ∧ (x1 - 1) < 200) ∧ Q (s0 (o + 2) (x1 - 1))) ∧ (¬ (x1 ≤ 200) → Q 0))))))
set_option maxHeartbeats 4000000 in
set_option maxRecDepth 100000 in
theorem CX3_tip {l : Launch} {G : sg_G} {La : sg_L} {s0 : sg_M} {o : Int} (to : sg_O La o 3) {x1 : Int} (r1 : sg_R x1) {Q : Int → Prop} (hf : fX3_tip s0 o x1 Q) : sg_C l G yX3_tip cX3_tip 2 (some .int) 1 0 0 La s0 [sg_r o, sg_i x1] (sg_PI La s0 Q) := by
  refine sg_body (by decide +kernel) (Nat.le_of_ble_eq_true rfl) ?_
  intro p e s m args below meth c F hnm
  unfold fX3_tip at hf
  show sg_W p l e (sg_rm 1 0 0) s m args below meth c (MQ below (sg_Q (some .int) G La s.heap.size (sg_PI La s0 Q)) args s 0 0 (sg_A La s.heap.size)) 2 G (sg_A La s.heap.size) La s0 0 0 0 [(0, sg_r o), (1, sg_i x1)] []
  refine gw_iload_n F 1 rfl rfl dX3_tip_0 ?_
  refine gw_iconst F dX3_tip_1 ?_
  refine gw_icmp_lt F (tgt := 20) dX3_tip_2 (by decide) r1 (by decide) (fun c1 => ?_) (fun c1 => ?_)
  · have hf := hf.1 c1
    refine gw_iconst F dX3_tip_20 ?_
    refine gw_goto F (tgt := 32) dX3_tip_21 (by decide) ?_
    exact gr_PI F (by decide) hf (by decide) (by decide) dX3_tip_32
  · have hf := hf.2 c1
    refine gw_iload_n F 1 rfl rfl dX3_tip_5 ?_
    refine gw_aload_n F 0 rfl rfl to.1 dX3_tip_6 ?_
    refine gw_get0 F to (by decide) rfl sg_lay_RX3 (j := 2) (by decide) rfl (host := "") (.inl kw_180) dX3_tip_7 (fun h2 => ?_)
    refine gw_icmp_gt F (tgt := 20) dX3_tip_10 (by decide) r1 h2 (fun c3 => ?_) (fun c3 => ?_)
    · have hf := hf.1 c3
      refine gw_iconst F dX3_tip_20 ?_
      refine gw_goto F (tgt := 32) dX3_tip_21 (by decide) ?_
      exact gr_PI F (by decide) hf (by decide) (by decide) dX3_tip_32
    · have hf := hf.2 c3
      refine gw_iload_n F 1 rfl rfl dX3_tip_13 ?_
      refine gw_sipush F rfl dX3_tip_14 ?_
      refine gw_icmp_le F (tgt := 24) dX3_tip_17 (by decide) r1 (by decide) (fun c4 => ?_) (fun c4 => ?_)
      · have hf := hf.1 c4
        refine gw_aload_n F 0 rfl rfl to.1 dX3_tip_24 ?_
        refine gw_get3 F to (by decide) rfl sg_lay_RX3 (j := 1) (by decide) (o1 := (o + 2)) (by first | rfl | omega) rfl (host := "") (.inl kw_179) dX3_tip_25 (fun h5 => ?_)
        refine gw_iload_n F 1 rfl rfl dX3_tip_28 ?_
        refine gw_iconst F dX3_tip_29 ?_
        refine gw_isub F rfl dX3_tip_30 ?_
        obtain ⟨⟨b60, b61⟩, hf⟩ := hf
        refine gw_iald F (sg_AN_of (sg_O_of h5 (by decide)) (by decide) (by decide) (by decide)) b60 b61 dX3_tip_31 (fun h7 => ?_)
        exact gr_PI F h7 hf (by decide) (by decide) dX3_tip_32
      · have hf := hf.2 c4
        refine gw_iconst F dX3_tip_20 ?_
        refine gw_goto F (tgt := 32) dX3_tip_21 (by decide) ?_
        exact gr_PI F (by decide) hf (by decide) (by decide) dX3_tip_32

theorem dX5_isSo_0 : decode cX5_isSo 0 = .ok (.aload_n 0, 1) := by decide +kernel
theorem dX5_isSo_1 : decode cX5_isSo 1 = .ok (.getfield 16, 3) := by decide +kernel
theorem dX5_isSo_4 : decode cX5_isSo 4 = .ok (.iload_n 1, 1) := by decide +kernel
theorem dX5_isSo_5 : decode cX5_isSo 5 = .ok (.invokevirtual 115, 3) := by decide +kernel
theorem dX5_isSo_8 : decode cX5_isSo 8 = .ok (.tableswitch 135 0 7 #[48, 58, 68, 78, 88, 101, 108, 121], 48) := by decide +kernel
theorem dX5_isSo_56 : decode cX5_isSo 56 = .ok (.aload_n 0, 1) := by decide +kernel
theorem dX5_isSo_57 : decode cX5_isSo 57 = .ok (.aload_n 2, 1) := by decide +kernel
theorem dX5_isSo_58 : decode cX5_isSo 58 = .ok (.getfield 123, 3) := by decide +kernel
theorem dX5_isSo_61 : decode cX5_isSo 61 = .ok (.iload_n 1, 1) := by decide +kernel
theorem dX5_isSo_62 : decode cX5_isSo 62 = .ok (.invokevirtual 128, 3) := by decide +kernel
theorem dX5_isSo_65 : decode cX5_isSo 65 = .ok (.ireturn, 1) := by decide +kernel
theorem dX5_isSo_66 : decode cX5_isSo 66 = .ok (.aload_n 0, 1) := by decide +kernel
theorem dX5_isSo_67 : decode cX5_isSo 67 = .ok (.aload_n 2, 1) := by decide +kernel
theorem dX5_isSo_68 : decode cX5_isSo 68 = .ok (.getfield 132, 3) := by decide +kernel
theorem dX5_isSo_71 : decode cX5_isSo 71 = .ok (.iload_n 1, 1) := by decide +kernel
theorem dX5_isSo_72 : decode cX5_isSo 72 = .ok (.invokevirtual 128, 3) := by decide +kernel
theorem dX5_isSo_75 : decode cX5_isSo 75 = .ok (.ireturn, 1) := by decide +kernel
theorem dX5_isSo_76 : decode cX5_isSo 76 = .ok (.aload_n 0, 1) := by decide +kernel
theorem dX5_isSo_77 : decode cX5_isSo 77 = .ok (.aload_n 2, 1) := by decide +kernel
theorem dX5_isSo_78 : decode cX5_isSo 78 = .ok (.getfield 135, 3) := by decide +kernel
theorem dX5_isSo_81 : decode cX5_isSo 81 = .ok (.iload_n 1, 1) := by decide +kernel
theorem dX5_isSo_82 : decode cX5_isSo 82 = .ok (.invokevirtual 128, 3) := by decide +kernel
theorem dX5_isSo_85 : decode cX5_isSo 85 = .ok (.ireturn, 1) := by decide +kernel
theorem dX5_isSo_86 : decode cX5_isSo 86 = .ok (.aload_n 0, 1) := by decide +kernel
theorem dX5_isSo_87 : decode cX5_isSo 87 = .ok (.aload_n 2, 1) := by decide +kernel
theorem dX5_isSo_88 : decode cX5_isSo 88 = .ok (.getfield 138, 3) := by decide +kernel
theorem dX5_isSo_91 : decode cX5_isSo 91 = .ok (.iload_n 1, 1) := by decide +kernel
theorem dX5_isSo_92 : decode cX5_isSo 92 = .ok (.invokevirtual 128, 3) := by decide +kernel
theorem dX5_isSo_95 : decode cX5_isSo 95 = .ok (.ireturn, 1) := by decide +kernel
theorem dX5_isSo_96 : decode cX5_isSo 96 = .ok (.aload_n 0, 1) := by decide +kernel
theorem dX5_isSo_97 : decode cX5_isSo 97 = .ok (.aload_n 2, 1) := by decide +kernel
theorem dX5_isSo_98 : decode cX5_isSo 98 = .ok (.getfield 141, 3) := by decide +kernel
theorem dX5_isSo_101 : decode cX5_isSo 101 = .ok (.getfield 112, 3) := by decide +kernel
theorem dX5_isSo_104 : decode cX5_isSo 104 = .ok (.iload_n 1, 1) := by decide +kernel
theorem dX5_isSo_105 : decode cX5_isSo 105 = .ok (.invokevirtual 128, 3) := by decide +kernel
theorem dX5_isSo_108 : decode cX5_isSo 108 = .ok (.ireturn, 1) := by decide +kernel
theorem dX5_isSo_109 : decode cX5_isSo 109 = .ok (.aload_n 0, 1) := by decide +kernel
theorem dX5_isSo_110 : decode cX5_isSo 110 = .ok (.iload_n 3, 1) := by decide +kernel
theorem dX5_isSo_111 : decode cX5_isSo 111 = .ok (.iload_n 1, 1) := by decide +kernel
theorem dX5_isSo_112 : decode cX5_isSo 112 = .ok (.invokevirtual 128, 3) := by decide +kernel
theorem dX5_isSo_115 : decode cX5_isSo 115 = .ok (.ireturn, 1) := by decide +kernel
theorem dX5_isSo_116 : decode cX5_isSo 116 = .ok (.aload_n 2, 1) := by decide +kernel
theorem dX5_isSo_117 : decode cX5_isSo 117 = .ok (.getfield 123, 3) := by decide +kernel
theorem dX5_isSo_120 : decode cX5_isSo 120 = .ok (.ifCond .le 7, 3) := by decide +kernel
theorem dX5_isSo_123 : decode cX5_isSo 123 = .ok (.iconst 1, 1) := by decide +kernel
theorem dX5_isSo_124 : decode cX5_isSo 124 = .ok (.goto 4, 3) := by decide +kernel
theorem dX5_isSo_127 : decode cX5_isSo 127 = .ok (.iconst 0, 1) := by decide +kernel
theorem dX5_isSo_128 : decode cX5_isSo 128 = .ok (.ireturn, 1) := by decide +kernel
theorem dX5_isSo_129 : decode cX5_isSo 129 = .ok (.aload_n 2, 1) := by decide +kernel
theorem dX5_isSo_130 : decode cX5_isSo 130 = .ok (.getfield 143, 3) := by decide +kernel
theorem dX5_isSo_133 : decode cX5_isSo 133 = .ok (.iconst (-1), 1) := by decide +kernel
theorem dX5_isSo_134 : decode cX5_isSo 134 = .ok (.if_icmp .eq 7, 3) := by decide +kernel
theorem dX5_isSo_137 : decode cX5_isSo 137 = .ok (.iconst 1, 1) := by decide +kernel
theorem dX5_isSo_138 : decode cX5_isSo 138 = .ok (.goto 4, 3) := by decide +kernel
theorem dX5_isSo_141 : decode cX5_isSo 141 = .ok (.iconst 0, 1) := by decide +kernel
theorem dX5_isSo_142 : decode cX5_isSo 142 = .ok (.ireturn, 1) := by decide +kernel
theorem dX5_isSo_143 : decode cX5_isSo 143 = .ok (.aload_n 2, 1) := by decide +kernel
theorem dX5_isSo_144 : decode cX5_isSo 144 = .ok (.getfield 146, 3) := by decide +kernel
theorem dX5_isSo_147 : decode cX5_isSo 147 = .ok (.ireturn, 1) := by decide +kernel
theorem hcX5_isSo : yX5_isSo.cls ≠ "java/lang/invoke/MethodHandle" ∧ yX5_isSo.cls ≠ "java/lang/invoke/VarHandle" ∧ (parseMethodDescriptor yX5_isSo.desc).map (fun d => d.parameters.length) = some 3 := ⟨by decide +kernel, by decide +kernel, by decide +kernel⟩
def fX5_isSo (La : sg_L) (s0 : sg_M) (o : Int) (x1 : Int) (x3 : Int) (Q : Int → Prop) : Prop := fX4_at La s0 (o + 1) x1 (fun u2 => ((u2 < 0 ∨ 7 < u2 → Q (s0 32 10)) ∧ (u2 = 0 → fX5_compares La s0 o (s0 32 7) x1 (fun u7 => Q u7)) ∧ (u2 = 1 → fX5_compares La s0 o (s0 32 8) x1 (fun u10 => Q u10)) ∧ (u2 = 2 → fX5_compares La s0 o (s0 32 9) x1 (fun u13 => Q u13)) ∧ (u2 = 3 → fX5_compares La s0 o (s0 32 6) x1 (fun u16 => Q u16)) ∧ (u2 = 4 → fX5_compares La s0 o (s0 35 1) x1 (fun u20 => Q u20)) ∧ (u2 = 5 → fX5_compares La s0 o x3 x1 (fun u22 => Q u22)) ∧ (u2 = 6 → (((s0 32 7) ≤ 0 → Q 0) ∧ (¬ ((s0 32 7) ≤ 0) → Q 1))) ∧ (u2 = 7 → (((s0 32 5) = (-1) → Q 0) ∧ (¬ ((s0 32 5) = (-1)) → Q 1)))))
set_option maxHeartbeats 4000000 in
set_option maxRecDepth 100000 in
theorem CX5_isSo {l : Launch} {G : sg_G} {La : sg_L} {s0 : sg_M} (hst : sg_St La) {o : Int} (to : sg_O La o 5) {x1 : Int} (r1 : sg_R x1) {x3 : Int} (r3 : sg_R x3) {Q : Int → Prop} (hf : fX5_isSo La s0 o x1 x3 Q) : sg_C l G yX5_isSo cX5_isSo 4 (some .boolean) 3 0 0 La s0 [sg_r o, sg_i x1, sg_r 32, sg_i x3] (sg_PZ La s0 Q) := by
  refine sg_body (by decide +kernel) (Nat.le_of_ble_eq_true rfl) ?_
  intro p e s m args below meth c F hnm
  unfold fX5_isSo at hf
  show sg_W p l e (sg_rm 3 0 0) s m args below meth c (MQ below (sg_Q (some .boolean) G La s.heap.size (sg_PZ La s0 Q)) args s 0 0 (sg_A La s.heap.size)) 4 G (sg_A La s.heap.size) La s0 0 0 0 [(0, sg_r o), (1, sg_i x1), (2, sg_r 32), (3, sg_i x3)] []
  refine gw_aload_n F 0 rfl rfl to.1 dX5_isSo_0 ?_
  refine gw_get3 F to (by decide) rfl sg_lay_RX5 (j := 0) (by decide) (o1 := (o + 1)) (by first | rfl | omega) rfl (host := "") (.inl kw_207) dX5_isSo_1 (fun h1 => ?_)
  refine gw_iload_n F 1 rfl rfl dX5_isSo_4 ?_
  refine gk_PI F (gc_V F (S := []) (As := [sg_i x1]) (T := TX4) (N := 3) (CX4_at (sg_O_of h1 (by decide)) r1 hf) (sg_O_of h1 (by decide)) (by decide) rfl kw_546 kw_97 kw_847 kw_544 kw_545 hcX4_at ⟨by decide, by decide⟩ rfl rfl (Nat.le_of_ble_eq_true rfl) ⟨by decide, by decide⟩ dX5_isSo_5) (fun u2 h3 hf => ?_)
  refine gw_switch F dX5_isSo_8 h3 (td := 143) (by decide) (fun c4 => ?_) (fun i hi1 hi2 => ?_)
  · have hf := hf.1 c4
    refine gw_aload_n F 2 rfl rfl (by decide) dX5_isSo_143 ?_
    refine gw_get1 F (so_32 hst) (by decide) rfl sg_lay_RX0 (j := 10) (by decide) rfl (.inr kw_274) dX5_isSo_144 (fun h5 => ?_)
    exact gr_PZ F h5 hf (by decide) (by decide) dX5_isSo_147
  · rcases (show i = 0 ∨ i = 1 ∨ i = 2 ∨ i = 3 ∨ i = 4 ∨ i = 5 ∨ i = 6 ∨ i = 7 by omega) with rfl | rfl | rfl | rfl | rfl | rfl | rfl | rfl
    · have hf := hf.2.1 (by omega)
      refine ⟨48, 56, rfl, by decide, ?_⟩
      refine gw_aload_n F 0 rfl rfl to.1 dX5_isSo_56 ?_
      refine gw_aload_n F 2 rfl rfl (by decide) dX5_isSo_57 ?_
      refine gw_get0 F (so_32 hst) (by decide) rfl sg_lay_RX0 (j := 7) (by decide) rfl (.inr kw_265) dX5_isSo_58 (fun h6 => ?_)
      refine gw_iload_n F 1 rfl rfl dX5_isSo_61 ?_
      refine gk_PZ F (gc_V F (S := []) (As := [sg_i (s0 32 7), sg_i x1]) (T := TX5) (N := 4) (CX5_compares to h6 r1 hf) to (by decide) rfl kw_853 kw_96 kw_851 kw_852 kw_37 hcX5_compares ⟨by decide, by decide⟩ rfl rfl (Nat.le_of_ble_eq_true rfl) ⟨by decide, by decide⟩ dX5_isSo_62) (fun u7 h8 hf => ?_)
      exact gr_PZ F h8 hf (by decide) (by decide) dX5_isSo_65
    · have hf := hf.2.2.1 (by omega)
      refine ⟨58, 66, rfl, by decide, ?_⟩
      refine gw_aload_n F 0 rfl rfl to.1 dX5_isSo_66 ?_
      refine gw_aload_n F 2 rfl rfl (by decide) dX5_isSo_67 ?_
      refine gw_get0 F (so_32 hst) (by decide) rfl sg_lay_RX0 (j := 8) (by decide) rfl (.inr kw_268) dX5_isSo_68 (fun h9 => ?_)
      refine gw_iload_n F 1 rfl rfl dX5_isSo_71 ?_
      refine gk_PZ F (gc_V F (S := []) (As := [sg_i (s0 32 8), sg_i x1]) (T := TX5) (N := 4) (CX5_compares to h9 r1 hf) to (by decide) rfl kw_853 kw_96 kw_851 kw_852 kw_37 hcX5_compares ⟨by decide, by decide⟩ rfl rfl (Nat.le_of_ble_eq_true rfl) ⟨by decide, by decide⟩ dX5_isSo_72) (fun u10 h11 hf => ?_)
      exact gr_PZ F h11 hf (by decide) (by decide) dX5_isSo_75
    · have hf := hf.2.2.2.1 (by omega)
      refine ⟨68, 76, rfl, by decide, ?_⟩
      refine gw_aload_n F 0 rfl rfl to.1 dX5_isSo_76 ?_
      refine gw_aload_n F 2 rfl rfl (by decide) dX5_isSo_77 ?_
      refine gw_get0 F (so_32 hst) (by decide) rfl sg_lay_RX0 (j := 9) (by decide) rfl (.inr kw_271) dX5_isSo_78 (fun h12 => ?_)
      refine gw_iload_n F 1 rfl rfl dX5_isSo_81 ?_
      refine gk_PZ F (gc_V F (S := []) (As := [sg_i (s0 32 9), sg_i x1]) (T := TX5) (N := 4) (CX5_compares to h12 r1 hf) to (by decide) rfl kw_853 kw_96 kw_851 kw_852 kw_37 hcX5_compares ⟨by decide, by decide⟩ rfl rfl (Nat.le_of_ble_eq_true rfl) ⟨by decide, by decide⟩ dX5_isSo_82) (fun u13 h14 hf => ?_)
      exact gr_PZ F h14 hf (by decide) (by decide) dX5_isSo_85
    · have hf := hf.2.2.2.2.1 (by omega)
      refine ⟨78, 86, rfl, by decide, ?_⟩
      refine gw_aload_n F 0 rfl rfl to.1 dX5_isSo_86 ?_
      refine gw_aload_n F 2 rfl rfl (by decide) dX5_isSo_87 ?_
      refine gw_get0 F (so_32 hst) (by decide) rfl sg_lay_RX0 (j := 6) (by decide) rfl (.inr kw_263) dX5_isSo_88 (fun h15 => ?_)
      refine gw_iload_n F 1 rfl rfl dX5_isSo_91 ?_
      refine gk_PZ F (gc_V F (S := []) (As := [sg_i (s0 32 6), sg_i x1]) (T := TX5) (N := 4) (CX5_compares to h15 r1 hf) to (by decide) rfl kw_853 kw_96 kw_851 kw_852 kw_37 hcX5_compares ⟨by decide, by decide⟩ rfl rfl (Nat.le_of_ble_eq_true rfl) ⟨by decide, by decide⟩ dX5_isSo_92) (fun u16 h17 hf => ?_)
      exact gr_PZ F h17 hf (by decide) (by decide) dX5_isSo_95
    · have hf := hf.2.2.2.2.2.1 (by omega)
      refine ⟨88, 96, rfl, by decide, ?_⟩
      refine gw_aload_n F 0 rfl rfl to.1 dX5_isSo_96 ?_
      refine gw_aload_n F 2 rfl rfl (by decide) dX5_isSo_97 ?_
      refine gw_get3 F (so_32 hst) (by decide) rfl sg_lay_RX0 (j := 2) (by decide) (o1 := 35) (by first | rfl | omega) rfl (.inr kw_256) dX5_isSo_98 (fun h18 => ?_)
      refine gw_get0 F (so_35 hst) (by decide) rfl sg_lay_RX4 (j := 1) (by decide) rfl (.inr kw_203) dX5_isSo_101 (fun h19 => ?_)
      refine gw_iload_n F 1 rfl rfl dX5_isSo_104 ?_
      refine gk_PZ F (gc_V F (S := []) (As := [sg_i (s0 35 1), sg_i x1]) (T := TX5) (N := 4) (CX5_compares to h19 r1 hf) to (by decide) rfl kw_853 kw_96 kw_851 kw_852 kw_37 hcX5_compares ⟨by decide, by decide⟩ rfl rfl (Nat.le_of_ble_eq_true rfl) ⟨by decide, by decide⟩ dX5_isSo_105) (fun u20 h21 hf => ?_)
      exact gr_PZ F h21 hf (by decide) (by decide) dX5_isSo_108
    · have hf := hf.2.2.2.2.2.2.1 (by omega)
      refine ⟨101, 109, rfl, by decide, ?_⟩
      refine gw_aload_n F 0 rfl rfl to.1 dX5_isSo_109 ?_
      refine gw_iload_n F 3 rfl rfl dX5_isSo_110 ?_
      refine gw_iload_n F 1 rfl rfl dX5_isSo_111 ?_
      refine gk_PZ F (gc_V F (S := []) (As := [sg_i x3, sg_i x1]) (T := TX5) (N := 4) (CX5_compares to r3 r1 hf) to (by decide) rfl kw_853 kw_96 kw_851 kw_852 kw_37 hcX5_compares ⟨by decide, by decide⟩ rfl rfl (Nat.le_of_ble_eq_true rfl) ⟨by decide, by decide⟩ dX5_isSo_112) (fun u22 h23 hf => ?_)
      exact gr_PZ F h23 hf (by decide) (by decide) dX5_isSo_115
    · have hf := hf.2.2.2.2.2.2.2.1 (by omega)
      refine ⟨108, 116, rfl, by decide, ?_⟩
      refine gw_aload_n F 2 rfl rfl (by decide) dX5_isSo_116 ?_
      refine gw_get0 F (so_32 hst) (by decide) rfl sg_lay_RX0 (j := 7) (by decide) rfl (.inr kw_265) dX5_isSo_117 (fun h24 => ?_)
      refine gw_if_le F (tgt := 127) dX5_isSo_120 (by decide) h24 (fun c25 => ?_) (fun c25 => ?_)
      · have hf := hf.1 c25
        refine gw_iconst F dX5_isSo_127 ?_
        exact gr_PZ F (by decide) hf (by decide) (by decide) dX5_isSo_128
      · have hf := hf.2 c25
        refine gw_iconst F dX5_isSo_123 ?_
        refine gw_goto F (tgt := 128) dX5_isSo_124 (by decide) ?_
        exact gr_PZ F (by decide) hf (by decide) (by decide) dX5_isSo_128
    · have hf := hf.2.2.2.2.2.2.2.2 (by omega)
      refine ⟨121, 129, rfl, by decide, ?_⟩
      refine gw_aload_n F 2 rfl rfl (by decide) dX5_isSo_129 ?_
      refine gw_get0 F (so_32 hst) (by decide) rfl sg_lay_RX0 (j := 5) (by decide) rfl (.inr kw_261) dX5_isSo_130 (fun h26 => ?_)
      refine gw_iconst F dX5_isSo_133 ?_
      refine gw_icmp_eq F (tgt := 141) dX5_isSo_134 (by decide) h26 (by decide) (fun c27 => ?_) (fun c27 => ?_)
      · have hf := hf.1 c27
        refine gw_iconst F dX5_isSo_141 ?_
        exact gr_PZ F (by decide) hf (by decide) (by decide) dX5_isSo_142
      · have hf := hf.2 c27
        refine gw_iconst F dX5_isSo_137 ?_
        refine gw_goto F (tgt := 142) dX5_isSo_138 (by decide) ?_
        exact gr_PZ F (by decide) hf (by decide) (by decide) dX5_isSo_142

theorem dX5_holds_0 : decode cX5_holds 0 = .ok (.iconst 0, 1) := by decide +kernel
theorem dX5_holds_1 : decode cX5_holds 1 = .ok (.istore_n 3, 1) := by decide +kernel
theorem dX5_holds_2 : decode cX5_holds 2 = .ok (.iconst 0, 1) := by decide +kernel
theorem dX5_holds_3 : decode cX5_holds 3 = .ok (.istore 4, 2) := by decide +kernel
theorem dX5_holds_5 : decode cX5_holds 5 = .ok (.iload 4, 2) := by decide +kernel
theorem dX5_holds_7 : decode cX5_holds 7 = .ok (.aload_n 0, 1) := by decide +kernel
theorem dX5_holds_8 : decode cX5_holds 8 = .ok (.getfield 16, 3) := by decide +kernel
theorem dX5_holds_11 : decode cX5_holds 11 = .ok (.getfield 112, 3) := by decide +kernel
theorem dX5_holds_14 : decode cX5_holds 14 = .ok (.if_icmp .ge 99, 3) := by decide +kernel
theorem dX5_holds_17 : decode cX5_holds 17 = .ok (.iload_n 3, 1) := by decide +kernel
theorem dX5_holds_18 : decode cX5_holds 18 = .ok (.iconst 1, 1) := by decide +kernel
theorem dX5_holds_19 : decode cX5_holds 19 = .ok (.iand, 1) := by decide +kernel
theorem dX5_holds_20 : decode cX5_holds 20 = .ok (.istore 5, 2) := by decide +kernel
theorem dX5_holds_22 : decode cX5_holds 22 = .ok (.aload_n 0, 1) := by decide +kernel
theorem dX5_holds_23 : decode cX5_holds 23 = .ok (.getfield 16, 3) := by decide +kernel
theorem dX5_holds_26 : decode cX5_holds 26 = .ok (.iload 4, 2) := by decide +kernel
theorem dX5_holds_28 : decode cX5_holds 28 = .ok (.invokevirtual 115, 3) := by decide +kernel
theorem dX5_holds_31 : decode cX5_holds 31 = .ok (.tableswitch 55 9 11 #[25, 32, 45], 25) := by decide +kernel
theorem dX5_holds_56 : decode cX5_holds 56 = .ok (.iload_n 3, 1) := by decide +kernel
theorem dX5_holds_57 : decode cX5_holds 57 = .ok (.iconst 1, 1) := by decide +kernel
theorem dX5_holds_58 : decode cX5_holds 58 = .ok (.ixor, 1) := by decide +kernel
theorem dX5_holds_59 : decode cX5_holds 59 = .ok (.istore_n 3, 1) := by decide +kernel
theorem dX5_holds_60 : decode cX5_holds 60 = .ok (.goto 47, 3) := by decide +kernel
theorem dX5_holds_63 : decode cX5_holds 63 = .ok (.iload_n 3, 1) := by decide +kernel
theorem dX5_holds_64 : decode cX5_holds 64 = .ok (.iconst 1, 1) := by decide +kernel
theorem dX5_holds_65 : decode cX5_holds 65 = .ok (.iushr, 1) := by decide +kernel
theorem dX5_holds_66 : decode cX5_holds 66 = .ok (.iload 5, 2) := by decide +kernel
theorem dX5_holds_68 : decode cX5_holds 68 = .ok (.bipush (-2), 2) := by decide +kernel
theorem dX5_holds_70 : decode cX5_holds 70 = .ok (.ior, 1) := by decide +kernel
theorem dX5_holds_71 : decode cX5_holds 71 = .ok (.iand, 1) := by decide +kernel
theorem dX5_holds_72 : decode cX5_holds 72 = .ok (.istore_n 3, 1) := by decide +kernel
theorem dX5_holds_73 : decode cX5_holds 73 = .ok (.goto 34, 3) := by decide +kernel
theorem dX5_holds_76 : decode cX5_holds 76 = .ok (.iload_n 3, 1) := by decide +kernel
theorem dX5_holds_77 : decode cX5_holds 77 = .ok (.iconst 1, 1) := by decide +kernel
theorem dX5_holds_78 : decode cX5_holds 78 = .ok (.iushr, 1) := by decide +kernel
theorem dX5_holds_79 : decode cX5_holds 79 = .ok (.iload 5, 2) := by decide +kernel
theorem dX5_holds_81 : decode cX5_holds 81 = .ok (.ior, 1) := by decide +kernel
theorem dX5_holds_82 : decode cX5_holds 82 = .ok (.istore_n 3, 1) := by decide +kernel
theorem dX5_holds_83 : decode cX5_holds 83 = .ok (.goto 24, 3) := by decide +kernel
theorem dX5_holds_86 : decode cX5_holds 86 = .ok (.iload_n 3, 1) := by decide +kernel
theorem dX5_holds_87 : decode cX5_holds 87 = .ok (.iconst 1, 1) := by decide +kernel
theorem dX5_holds_88 : decode cX5_holds 88 = .ok (.ishl, 1) := by decide +kernel
theorem dX5_holds_89 : decode cX5_holds 89 = .ok (.aload_n 0, 1) := by decide +kernel
theorem dX5_holds_90 : decode cX5_holds 90 = .ok (.iload 4, 2) := by decide +kernel
theorem dX5_holds_92 : decode cX5_holds 92 = .ok (.aload_n 1, 1) := by decide +kernel
theorem dX5_holds_93 : decode cX5_holds 93 = .ok (.iload_n 2, 1) := by decide +kernel
theorem dX5_holds_94 : decode cX5_holds 94 = .ok (.invokevirtual 119, 3) := by decide +kernel
theorem dX5_holds_97 : decode cX5_holds 97 = .ok (.ifCond .eq 7, 3) := by decide +kernel
theorem dX5_holds_100 : decode cX5_holds 100 = .ok (.iconst 1, 1) := by decide +kernel
theorem dX5_holds_101 : decode cX5_holds 101 = .ok (.goto 4, 3) := by decide +kernel
theorem dX5_holds_104 : decode cX5_holds 104 = .ok (.iconst 0, 1) := by decide +kernel
theorem dX5_holds_105 : decode cX5_holds 105 = .ok (.ior, 1) := by decide +kernel
theorem dX5_holds_106 : decode cX5_holds 106 = .ok (.istore_n 3, 1) := by decide +kernel
theorem dX5_holds_107 : decode cX5_holds 107 = .ok (.iinc 4 1, 3) := by decide +kernel
theorem dX5_holds_110 : decode cX5_holds 110 = .ok (.goto (-105), 3) := by decide +kernel
theorem dX5_holds_113 : decode cX5_holds 113 = .ok (.iload_n 3, 1) := by decide +kernel
theorem dX5_holds_114 : decode cX5_holds 114 = .ok (.iconst 1, 1) := by decide +kernel
theorem dX5_holds_115 : decode cX5_holds 115 = .ok (.iand, 1) := by decide +kernel
theorem dX5_holds_116 : decode cX5_holds 116 = .ok (.iconst 1, 1) := by decide +kernel
theorem dX5_holds_117 : decode cX5_holds 117 = .ok (.if_icmp .ne 7, 3) := by decide +kernel
theorem dX5_holds_120 : decode cX5_holds 120 = .ok (.iconst 1, 1) := by decide +kernel
theorem dX5_holds_121 : decode cX5_holds 121 = .ok (.goto 4, 3) := by decide +kernel
theorem dX5_holds_124 : decode cX5_holds 124 = .ok (.iconst 0, 1) := by decide +kernel
theorem dX5_holds_125 : decode cX5_holds 125 = .ok (.ireturn, 1) := by decide +kernel
theorem hcX5_holds : yX5_holds.cls ≠ "java/lang/invoke/MethodHandle" ∧ yX5_holds.cls ≠ "java/lang/invoke/VarHandle" ∧ (parseMethodDescriptor yX5_holds.desc).map (fun d => d.parameters.length) = some 2 := ⟨by decide +kernel, by decide +kernel, by decide +kernel⟩
def fX5_holds_j107 (x4_5 : Int) (k5 : Int → Int → Prop) (x3_107 : Int) : Prop := sg_R (x4_5 + 1) ∧ k5 x3_107 (x4_5 + 1)
def fX5_holds_j105 (x3_5 : Int) (k107 : Int → Prop) (y0_105 : Int) : Prop := k107 (sg_or (sg_shl x3_5 1) y0_105)
def fX5_holds_L5 (La : sg_L) (s0 : sg_M) (o : Int) (x2 : Int) (k113 : Int → Prop) : Nat → Int → Int → Prop
  | 0, _, _ => False
  | n_5 + 1, x3_5, x4_5 => (((s0 (o + 1) 1) ≤ x4_5 → k113 x3_5) ∧ (¬ ((s0 (o + 1) 1) ≤ x4_5) → fX4_at La s0 (o + 1) x4_5 (fun u5 => ((u5 < 9 ∨ 11 < u5 → fX5_isSo La s0 o x4_5 x2 (fun u9 => ((u9 = 0 → (fX5_holds_j105 x3_5 (fX5_holds_j107 x4_5 (fX5_holds_L5 La s0 o x2 k113 n_5))) 0) ∧ (¬ (u9 = 0) → (fX5_holds_j105 x3_5 (fX5_holds_j107 x4_5 (fX5_holds_L5 La s0 o x2 k113 n_5))) 1)))) ∧ (u5 = 9 → (fX5_holds_j107 x4_5 (fX5_holds_L5 La s0 o x2 k113 n_5)) (sg_xor x3_5 1)) ∧ (u5 = 10 → ∀ v12 : Int, v12 = (sg_and (sg_ushr x3_5 1) (sg_or (sg_and x3_5 1) (-2))) → sg_R v12 ∧ (fX5_holds_j107 x4_5 (fX5_holds_L5 La s0 o x2 k113 n_5)) v12) ∧ (u5 = 11 → ∀ v15 : Int, v15 = (sg_or (sg_ushr x3_5 1) (sg_and x3_5 1)) → sg_R v15 ∧ (fX5_holds_j107 x4_5 (fX5_holds_L5 La s0 o x2 k113 n_5)) v15)))))
def fX5_holds (La : sg_L) (s0 : sg_M) (o : Int) (x2 : Int) (Q : Int → Prop) : Prop := (∃ n18 : Nat, fX5_holds_L5 La s0 o x2 (fun x3_113e5 => (((sg_and x3_113e5 1) ≠ 1 → Q 0) ∧ ((sg_and x3_113e5 1) = 1 → Q 1))) n18 0 0)
set_option maxHeartbeats 4000000 in
set_option maxRecDepth 100000 in
theorem CX5_holds {l : Launch} {G : sg_G} {La : sg_L} {s0 : sg_M} (hst : sg_St La) {o : Int} (to : sg_O La o 5) {x2 : Int} (r2 : sg_R x2) {Q : Int → Prop} (hf : fX5_holds La s0 o x2 Q) : sg_C l G yX5_holds cX5_holds 6 (some .boolean) 4 0 0 La s0 [sg_r o, sg_r 32, sg_i x2] (sg_PZ La s0 Q) := by
  refine sg_body (by decide +kernel) (Nat.le_of_ble_eq_true rfl) ?_
  intro p e s m args below meth c F hnm
  unfold fX5_holds at hf
  show sg_W p l e (sg_rm 4 0 0) s m args below meth c (MQ below (sg_Q (some .boolean) G La s.heap.size (sg_PZ La s0 Q)) args s 0 0 (sg_A La s.heap.size)) 6 G (sg_A La s.heap.size) La s0 0 0 0 [(0, sg_r o), (1, sg_r 32), (2, sg_i x2)] []
  refine gw_iconst F dX5_holds_0 ?_
  refine gw_istore_n F rfl (by decide) rfl dX5_holds_1 ?_
  refine gw_iconst F dX5_holds_2 ?_
  refine gw_istore F (by decide) rfl dX5_holds_3 ?_
  have L5 : ∀ (k113 : Int → Prop) (hk113 : ∀ (x3_113e5 : Int), sg_R x3_113e5 → k113 x3_113e5 → sg_W p l e (sg_rm 4 0 0) s m args below meth c (MQ below (sg_Q (some .boolean) G La s.heap.size (sg_PZ La s0 Q)) args s 0 0 (sg_A La s.heap.size)) 6 G (sg_A La s.heap.size) La s0 0 0 113 [(3, sg_i x3_113e5)] []), ∀ n_5 : Nat, ∀ (x3_5 : Int) (x4_5 : Int), sg_R x3_5 → sg_R x4_5 → fX5_holds_L5 La s0 o x2 k113 n_5 x3_5 x4_5 → sg_W p l e (sg_rm 4 0 0) s m args below meth c (MQ below (sg_Q (some .boolean) G La s.heap.size (sg_PZ La s0 Q)) args s 0 0 (sg_A La s.heap.size)) 6 G (sg_A La s.heap.size) La s0 0 0 5 [(0, sg_r o), (1, sg_r 32), (2, sg_i x2), (3, sg_i x3_5), (4, sg_i x4_5)] [] := by
    intro k113 hk113 n_5
    induction n_5 with
    | zero => intro x3_5 x4_5 r3_5 r4_5 hf; exact hf.elim
    | succ n_5 ih =>
      intro x3_5 x4_5 r3_5 r4_5 hf
      unfold fX5_holds_L5 at hf
      refine gw_iload F 4 rfl dX5_holds_5 ?_
      refine gw_aload_n F 0 rfl rfl to.1 dX5_holds_7 ?_
      refine gw_get3 F to (by decide) rfl sg_lay_RX5 (j := 0) (by decide) (o1 := (o + 1)) (by first | rfl | omega) rfl (host := "") (.inl kw_207) dX5_holds_8 (fun h1 => ?_)
      refine gw_get0 F (sg_O_of h1 (by decide)) (by decide) rfl sg_lay_RX4 (j := 1) (by decide) rfl (.inr kw_203) dX5_holds_11 (fun h2 => ?_)
      refine gw_icmp_ge F (tgt := 113) dX5_holds_14 (by decide) r4_5 h2 (fun c3 => ?_) (fun c3 => ?_)
      · have hf := hf.1 c3
        refine gw_sub [3] rfl ?_
        exact hk113 x3_5 r3_5 hf
      · have hf := hf.2 c3
        refine gw_iload_n F 3 rfl rfl dX5_holds_17 ?_
        refine gw_iconst F dX5_holds_18 ?_
        refine gw_iand F rfl dX5_holds_19 ?_
        refine gw_istore F (by decide) rfl dX5_holds_20 ?_
        refine gw_aload_n F 1 rfl rfl to.1 dX5_holds_22 ?_
        refine gw_get3 F to (by decide) rfl sg_lay_RX5 (j := 0) (by decide) (o1 := (o + 1)) (by first | rfl | omega) rfl (host := "") (.inl kw_207) dX5_holds_23 (fun h4 => ?_)
        refine gw_iload F 5 rfl dX5_holds_26 ?_
        refine gk_PI F (gc_V F (S := []) (As := [sg_i x4_5]) (T := TX4) (N := 3) (CX4_at (sg_O_of h4 (by decide)) r4_5 hf) (sg_O_of h4 (by decide)) (by decide) rfl kw_546 kw_97 kw_847 kw_544 kw_545 hcX4_at ⟨by decide, by decide⟩ rfl rfl (Nat.le_of_ble_eq_true rfl) ⟨by decide, by decide⟩ dX5_holds_28) (fun u5 h6 hf => ?_)
        have J107 : ∀ (x3_107 : Int), sg_R x3_107 → (fX5_holds_j107 x4_5 (fX5_holds_L5 La s0 o x2 k113 n_5)) x3_107 → sg_W p l e (sg_rm 4 0 0) s m args below meth c (MQ below (sg_Q (some .boolean) G La s.heap.size (sg_PZ La s0 Q)) args s 0 0 (sg_A La s.heap.size)) 6 G (sg_A La s.heap.size) La s0 0 0 107 [(0, sg_r o), (1, sg_r 32), (2, sg_i x2), (3, sg_i x3_107), (4, sg_i x4_5)] [] := by
          intro x3_107 r3_107 hf
          unfold fX5_holds_j107 at hf
          refine gw_iinc F (z := (x4_5 + 1)) 4 rfl (by omega) (by decide) rfl dX5_holds_107 ?_
          refine gw_goto F (tgt := 5) dX5_holds_110 (by decide) ?_
          obtain ⟨g7, hf⟩ := hf
          refine gw_sub [1, 2, 3, 4, 0] rfl ?_
          exact ih x3_107 (x4_5 + 1) r3_107 g7 hf
        refine gw_switch F dX5_holds_31 h6 (td := 86) (by decide) (fun c8 => ?_) (fun i hi1 hi2 => ?_)
        · have hf := hf.1 c8
          refine gw_iload_n F 4 rfl rfl dX5_holds_86 ?_
          refine gw_iconst F dX5_holds_87 ?_
          refine gw_ishl F rfl dX5_holds_88 ?_
          refine gw_aload_n F 1 rfl rfl to.1 dX5_holds_89 ?_
          refine gw_iload F 5 rfl dX5_holds_90 ?_
          refine gw_aload_n F 2 rfl rfl (by decide) dX5_holds_92 ?_
          refine gw_iload_n F 3 rfl rfl dX5_holds_93 ?_
          refine gk_PZ F (gc_V F (S := [sg_i (sg_shl x3_5 1)]) (As := [sg_i x4_5, sg_r 32, sg_i x2]) (T := TX5) (N := 4) (CX5_isSo hst to r4_5 r2 hf) to (by decide) rfl kw_850 kw_96 kw_848 kw_849 kw_36 hcX5_isSo ⟨by decide, by decide⟩ rfl rfl (Nat.le_of_ble_eq_true rfl) ⟨by decide, by decide⟩ dX5_holds_94) (fun u9 h10 hf => ?_)
          have J105 : ∀ (y0_105 : Int), sg_R y0_105 → (fX5_holds_j105 x3_5 (fX5_holds_j107 x4_5 (fX5_holds_L5 La s0 o x2 k113 n_5))) y0_105 → sg_W p l e (sg_rm 4 0 0) s m args below meth c (MQ below (sg_Q (some .boolean) G La s.heap.size (sg_PZ La s0 Q)) args s 0 0 (sg_A La s.heap.size)) 6 G (sg_A La s.heap.size) La s0 0 0 105 [(0, sg_r o), (1, sg_r 32), (2, sg_i x2), (4, sg_i x4_5)] [sg_i y0_105, sg_i (sg_shl x3_5 1)] := by
            intro y0_105 ry0_105 hf
            unfold fX5_holds_j105 at hf
            refine gw_ior F rfl dX5_holds_105 ?_
            refine gw_istore_n F rfl (by decide) rfl dX5_holds_106 ?_
            refine gw_sub [1, 2, 3, 0, 4] rfl ?_
            exact J107 (sg_or (sg_shl x3_5 1) y0_105) (sg_or_R _ _) hf
          refine gw_if_eq F (tgt := 104) dX5_holds_97 (by decide) (sg_B_R h10) (fun c11 => ?_) (fun c11 => ?_)
          · have hf := hf.1 c11
            refine gw_iconst F dX5_holds_104 ?_
            refine gw_sub [1, 2, 3, 5] rfl ?_
            exact J105 0 (by decide) hf
          · have hf := hf.2 c11
            refine gw_iconst F dX5_holds_100 ?_
            refine gw_goto F (tgt := 105) dX5_holds_101 (by decide) ?_
            refine gw_sub [1, 2, 3, 5] rfl ?_
            exact J105 1 (by decide) hf
        · rcases (show i = 0 ∨ i = 1 ∨ i = 2 by omega) with rfl | rfl | rfl
          · have hf := hf.2.1 (by omega)
            refine ⟨25, 56, rfl, by decide, ?_⟩
            refine gw_iload_n F 4 rfl rfl dX5_holds_56 ?_
            refine gw_iconst F dX5_holds_57 ?_
            refine gw_ixor F rfl dX5_holds_58 ?_
            refine gw_istore_n F rfl (by decide) rfl dX5_holds_59 ?_
            refine gw_goto F (tgt := 107) dX5_holds_60 (by decide) ?_
            refine gw_sub [2, 3, 4, 0, 5] rfl ?_
            exact J107 (sg_xor x3_5 1) (sg_xor_R _ _) hf
          · have hf := hf.2.2.1 (by omega)
            refine ⟨32, 63, rfl, by decide, ?_⟩
            refine gw_iload_n F 4 rfl rfl dX5_holds_63 ?_
            refine gw_iconst F dX5_holds_64 ?_
            refine gw_iushr F rfl dX5_holds_65 ?_
            refine gw_iload F 0 rfl dX5_holds_66 ?_
            refine gw_bipush F rfl dX5_holds_68 ?_
            refine gw_ior F rfl dX5_holds_70 ?_
            refine gw_iand F rfl dX5_holds_71 ?_
            obtain ⟨v12, e13⟩ : ∃ z : Int, z = (sg_and (sg_ushr x3_5 1) (sg_or (sg_and x3_5 1) (-2))) := ⟨_, rfl⟩
            obtain ⟨g14, hf⟩ := hf v12 e13
            refine gw_nmI e13 ?_
            refine gw_istore_n F rfl (by decide) rfl dX5_holds_72 ?_
            refine gw_goto F (tgt := 107) dX5_holds_73 (by decide) ?_
            refine gw_sub [2, 3, 4, 0, 5] rfl ?_
            exact J107 v12 g14 hf
          · have hf := hf.2.2.2 (by omega)
            refine ⟨45, 76, rfl, by decide, ?_⟩
            refine gw_iload_n F 4 rfl rfl dX5_holds_76 ?_
            refine gw_iconst F dX5_holds_77 ?_
            refine gw_iushr F rfl dX5_holds_78 ?_
            refine gw_iload F 0 rfl dX5_holds_79 ?_
            refine gw_ior F rfl dX5_holds_81 ?_
            obtain ⟨v15, e16⟩ : ∃ z : Int, z = (sg_or (sg_ushr x3_5 1) (sg_and x3_5 1)) := ⟨_, rfl⟩
            obtain ⟨g17, hf⟩ := hf v15 e16
            refine gw_nmI e16 ?_
            refine gw_istore_n F rfl (by decide) rfl dX5_holds_82 ?_
            refine gw_goto F (tgt := 107) dX5_holds_83 (by decide) ?_
            refine gw_sub [2, 3, 4, 0, 5] rfl ?_
            exact J107 v15 g17 hf
  obtain ⟨n18, hf⟩ := hf
  refine gw_sub [2, 3, 4, 1, 0] rfl ?_
  refine L5 _ (fun x3_113e5 r3_113e5 hf => ?_) n18 0 0 (by decide) (by decide) hf
  refine gw_iload_n F 0 rfl rfl dX5_holds_113 ?_
  refine gw_iconst F dX5_holds_114 ?_
  refine gw_iand F rfl dX5_holds_115 ?_
  refine gw_iconst F dX5_holds_116 ?_
  refine gw_icmp_ne F (tgt := 124) dX5_holds_117 (by decide) (sg_and_R _ _) (by decide) (fun c19 => ?_) (fun c19 => ?_)
  · have hf := hf.1 c19
    refine gw_iconst F dX5_holds_124 ?_
    exact gr_PZ F (by decide) hf (by decide) (by decide) dX5_holds_125
  · have hf := hf.2 c19
    refine gw_iconst F dX5_holds_120 ?_
    refine gw_goto F (tgt := 125) dX5_holds_121 (by decide) ?_
    exact gr_PZ F (by decide) hf (by decide) (by decide) dX5_holds_125

theorem dX11_askTicks_0 : decode cX11_askTicks 0 = .ok (.aload_n 0, 1) := by decide +kernel
theorem dX11_askTicks_1 : decode cX11_askTicks 1 = .ok (.getfield 99, 3) := by decide +kernel
theorem dX11_askTicks_4 : decode cX11_askTicks 4 = .ok (.getfield 346, 3) := by decide +kernel
theorem dX11_askTicks_7 : decode cX11_askTicks 7 = .ok (.ifCond .eq 4, 3) := by decide +kernel
theorem dX11_askTicks_10 : decode cX11_askTicks 10 = .ok (.return_, 1) := by decide +kernel
theorem dX11_askTicks_11 : decode cX11_askTicks 11 = .ok (.aload_n 0, 1) := by decide +kernel
theorem dX11_askTicks_12 : decode cX11_askTicks 12 = .ok (.getfield 99, 3) := by decide +kernel
theorem dX11_askTicks_15 : decode cX11_askTicks 15 = .ok (.invokevirtual 271, 3) := by decide +kernel
theorem dX11_askTicks_18 : decode cX11_askTicks 18 = .ok (.iconst 1, 1) := by decide +kernel
theorem dX11_askTicks_19 : decode cX11_askTicks 19 = .ok (.istore_n 1, 1) := by decide +kernel
theorem dX11_askTicks_20 : decode cX11_askTicks 20 = .ok (.iload_n 1, 1) := by decide +kernel
theorem dX11_askTicks_21 : decode cX11_askTicks 21 = .ok (.aload_n 0, 1) := by decide +kernel
theorem dX11_askTicks_22 : decode cX11_askTicks 22 = .ok (.getfield 39, 3) := by decide +kernel
theorem dX11_askTicks_25 : decode cX11_askTicks 25 = .ok (.getfield 212, 3) := by decide +kernel
theorem dX11_askTicks_28 : decode cX11_askTicks 28 = .ok (.getfield 216, 3) := by decide +kernel
theorem dX11_askTicks_31 : decode cX11_askTicks 31 = .ok (.if_icmp .gt 68, 3) := by decide +kernel
theorem dX11_askTicks_34 : decode cX11_askTicks 34 = .ok (.aload_n 0, 1) := by decide +kernel
theorem dX11_askTicks_35 : decode cX11_askTicks 35 = .ok (.aload_n 0, 1) := by decide +kernel
theorem dX11_askTicks_36 : decode cX11_askTicks 36 = .ok (.getfield 39, 3) := by decide +kernel
theorem dX11_askTicks_39 : decode cX11_askTicks 39 = .ok (.getfield 112, 3) := by decide +kernel
theorem dX11_askTicks_42 : decode cX11_askTicks 42 = .ok (.aload_n 0, 1) := by decide +kernel
theorem dX11_askTicks_43 : decode cX11_askTicks 43 = .ok (.getfield 39, 3) := by decide +kernel
theorem dX11_askTicks_46 : decode cX11_askTicks 46 = .ok (.getfield 212, 3) := by decide +kernel
theorem dX11_askTicks_49 : decode cX11_askTicks 49 = .ok (.iload_n 1, 1) := by decide +kernel
theorem dX11_askTicks_50 : decode cX11_askTicks 50 = .ok (.invokevirtual 219, 3) := by decide +kernel
theorem dX11_askTicks_53 : decode cX11_askTicks 53 = .ok (.aload_n 0, 1) := by decide +kernel
theorem dX11_askTicks_54 : decode cX11_askTicks 54 = .ok (.getfield 39, 3) := by decide +kernel
theorem dX11_askTicks_57 : decode cX11_askTicks 57 = .ok (.getfield 212, 3) := by decide +kernel
theorem dX11_askTicks_60 : decode cX11_askTicks 60 = .ok (.iload_n 1, 1) := by decide +kernel
theorem dX11_askTicks_61 : decode cX11_askTicks 61 = .ok (.invokevirtual 222, 3) := by decide +kernel
theorem dX11_askTicks_64 : decode cX11_askTicks 64 = .ok (.invokevirtual 225, 3) := by decide +kernel
theorem dX11_askTicks_67 : decode cX11_askTicks 67 = .ok (.aload_n 0, 1) := by decide +kernel
theorem dX11_askTicks_68 : decode cX11_askTicks 68 = .ok (.getfield 39, 3) := by decide +kernel
theorem dX11_askTicks_71 : decode cX11_askTicks 71 = .ok (.getfield 324, 3) := by decide +kernel
theorem dX11_askTicks_74 : decode cX11_askTicks 74 = .ok (.aload_n 0, 1) := by decide +kernel
theorem dX11_askTicks_75 : decode cX11_askTicks 75 = .ok (.getfield 54, 3) := by decide +kernel
theorem dX11_askTicks_78 : decode cX11_askTicks 78 = .ok (.iload_n 1, 1) := by decide +kernel
theorem dX11_askTicks_79 : decode cX11_askTicks 79 = .ok (.invokevirtual 358, 3) := by decide +kernel
theorem dX11_askTicks_82 : decode cX11_askTicks 82 = .ok (.ifCond .eq 11, 3) := by decide +kernel
theorem dX11_askTicks_85 : decode cX11_askTicks 85 = .ok (.aload_n 0, 1) := by decide +kernel
theorem dX11_askTicks_86 : decode cX11_askTicks 86 = .ok (.getfield 99, 3) := by decide +kernel
theorem dX11_askTicks_89 : decode cX11_askTicks 89 = .ok (.iload_n 1, 1) := by decide +kernel
theorem dX11_askTicks_90 : decode cX11_askTicks 90 = .ok (.invokevirtual 278, 3) := by decide +kernel
theorem dX11_askTicks_93 : decode cX11_askTicks 93 = .ok (.iinc 1 1, 3) := by decide +kernel
theorem dX11_askTicks_96 : decode cX11_askTicks 96 = .ok (.goto (-76), 3) := by decide +kernel
theorem dX11_askTicks_99 : decode cX11_askTicks 99 = .ok (.aload_n 0, 1) := by decide +kernel
theorem dX11_askTicks_100 : decode cX11_askTicks 100 = .ok (.getfield 99, 3) := by decide +kernel
theorem dX11_askTicks_103 : decode cX11_askTicks 103 = .ok (.iconst 1, 1) := by decide +kernel
theorem dX11_askTicks_104 : decode cX11_askTicks 104 = .ok (.putfield 346, 3) := by decide +kernel
theorem dX11_askTicks_107 : decode cX11_askTicks 107 = .ok (.return_, 1) := by decide +kernel
theorem hcX11_askTicks : yX11_askTicks.cls ≠ "java/lang/invoke/MethodHandle" ∧ yX11_askTicks.cls ≠ "java/lang/invoke/VarHandle" ∧ (parseMethodDescriptor yX11_askTicks.desc).map (fun d => d.parameters.length) = some 0 := ⟨by decide +kernel, by decide +kernel, by decide +kernel⟩
def fX11_askTicks_j93 (x1_20 : Int) (k20 : sg_M → Int → Prop) (s_93 : sg_M) : Prop := sg_R (x1_20 + 1) ∧ k20 s_93 (x1_20 + 1)
def fX11_askTicks_L20 (La : sg_L) (Q : sg_M → Prop) : Nat → sg_M → Int → Prop
  | 0, _, _ => False
  | n_20 + 1, s_20, x1_20 => (0 ≤ (s_20 4 1)) ∧ (((s_20 (s_20 4 1) 2) < x1_20 → ∀ s13 : sg_M, s13 = sg_up s_20 62 2 1 → Q s13) ∧ (¬ ((s_20 (s_20 4 1) 2) < x1_20) → (0 ≤ (s_20 4 1)) ∧ fX3_knee s_20 (s_20 4 1) x1_20 (fun u21 => (0 ≤ (s_20 4 1)) ∧ fX3_tip s_20 (s_20 4 1) x1_20 (fun u27 => (0 ≤ (s_20 4 0)) ∧ fX11_listenTo La s_20 (s_20 4 0) u21 u27 (fun s31 => (0 ≤ (s31 4 2)) ∧ fX5_holds La s31 (s31 4 2) x1_20 (fun u37 => ((u37 = 0 → (fX11_askTicks_j93 x1_20 (fX11_askTicks_L20 La Q n_20)) s31) ∧ (¬ (u37 = 0) → fX4_add La s31 62 x1_20 (fun s42 => (fX11_askTicks_j93 x1_20 (fX11_askTicks_L20 La Q n_20)) s42)))))))))
def fX11_askTicks (La : sg_L) (s0 : sg_M) (Q : sg_M → Prop) : Prop := (((s0 62 2) = 0 → fX4_clear s0 62 (fun s5 => (∃ n43 : Nat, fX11_askTicks_L20 La Q n43 s5 1))) ∧ (¬ ((s0 62 2) = 0) → Q s0))
set_option maxHeartbeats 4000000 in
set_option maxRecDepth 100000 in
theorem CX11_askTicks {l : Launch} {G : sg_G} {La : sg_L} {s0 : sg_M} (hst : sg_St La) {Q : sg_M → Prop} (hf : fX11_askTicks La s0 Q) : sg_C l G yX11_askTicks cX11_askTicks 2 (none) 6 0 0 La s0 [sg_r 0] (sg_HV La Q) := by
  refine sg_body (by decide +kernel) (Nat.le_of_ble_eq_true rfl) ?_
  intro p e s m args below meth c F hnm
  unfold fX11_askTicks at hf
  show sg_W p l e (sg_rm 6 0 0) s m args below meth c (MQ below (sg_Q (none) G La s.heap.size (sg_HV La Q)) args s 0 0 (sg_A La s.heap.size)) 2 G (sg_A La s.heap.size) La s0 0 0 0 [(0, sg_r 0)] []
  refine gw_aload_n F 0 rfl rfl (by decide) dX11_askTicks_0 ?_
  refine gw_get7 F (so_0 hst) (by decide) rfl sg_lay_RX11 (j := 15) (by decide) (o1 := 62) (by first | rfl | omega) rfl (host := "") (.inl kw_341) dX11_askTicks_1 (fun h1 => ?_)
  refine gw_get1 F (so_62 hst) (by decide) rfl sg_lay_RX4 (j := 2) (by decide) rfl (.inr kw_206) dX11_askTicks_4 (fun h2 => ?_)
  refine gw_if_eq F (tgt := 11) dX11_askTicks_7 (by decide) (sg_B_R h2) (fun c3 => ?_) (fun c3 => ?_)
  · have hf := hf.1 c3
    refine gw_aload_n F 0 rfl rfl (by decide) dX11_askTicks_11 ?_
    refine gw_get7 F (so_0 hst) (by decide) rfl sg_lay_RX11 (j := 15) (by decide) (o1 := 62) (by first | rfl | omega) rfl (host := "") (.inl kw_341) dX11_askTicks_12 (fun h4 => ?_)
    refine gk_HV F (gc_V F (S := []) (As := []) (T := TX4) (N := 3) (CX4_clear (so_62 hst) hf) (so_62 hst) (by decide) rfl kw_531 kw_97 kw_652 kw_529 kw_530 hcX4_clear ⟨by decide, by decide⟩ rfl rfl (Nat.le_of_ble_eq_true rfl) ⟨by decide, by decide⟩ dX11_askTicks_15) (fun s5 hf => ?_)
    refine gw_iconst F dX11_askTicks_18 ?_
    refine gw_istore_n F rfl (by decide) rfl dX11_askTicks_19 ?_
    have L20 : ∀ n_20 : Nat, ∀ (s_20 : sg_M) (x1_20 : Int), sg_R x1_20 → fX11_askTicks_L20 La Q n_20 s_20 x1_20 → sg_W p l e (sg_rm 6 0 0) s m args below meth c (MQ below (sg_Q (none) G La s.heap.size (sg_HV La Q)) args s 0 0 (sg_A La s.heap.size)) 2 G (sg_A La s.heap.size) La s_20 0 0 20 [(0, sg_r 0), (1, sg_i x1_20)] [] := by
      intro n_20
      induction n_20 with
      | zero => intro s_20 x1_20 r1_20 hf; exact hf.elim
      | succ n_20 ih =>
        intro s_20 x1_20 r1_20 hf
        unfold fX11_askTicks_L20 at hf
        refine gw_iload_n F 1 rfl rfl dX11_askTicks_20 ?_
        refine gw_aload_n F 0 rfl rfl (by decide) dX11_askTicks_21 ?_
        refine gw_get7 F (so_0 hst) (by decide) rfl sg_lay_RX11 (j := 2) (by decide) (o1 := 4) (by first | rfl | omega) rfl (host := "") (.inl kw_328) dX11_askTicks_22 (fun h6 => ?_)
        refine gw_get4 F (so_4 hst) (by decide) rfl sg_lay_RX7 (j := 1) (by decide) rfl (.inr kw_236) dX11_askTicks_25 (fun h7 => ?_)
        obtain ⟨g8, hf⟩ := hf
        have t9 := sg_nn h7 g8
        refine gw_get0 F t9 (by decide) rfl sg_lay_RX3 (j := 2) (by decide) rfl (.inr kw_181) dX11_askTicks_28 (fun h10 => ?_)
        refine gw_icmp_gt F (tgt := 99) dX11_askTicks_31 (by decide) r1_20 h10 (fun c11 => ?_) (fun c11 => ?_)
        · have hf := hf.1 c11
          refine gw_aload_n F 0 rfl rfl (by decide) dX11_askTicks_99 ?_
          refine gw_get7 F (so_0 hst) (by decide) rfl sg_lay_RX11 (j := 15) (by decide) (o1 := 62) (by first | rfl | omega) rfl (host := "") (.inl kw_341) dX11_askTicks_100 (fun h12 => ?_)
          refine gw_iconst F dX11_askTicks_103 ?_
          obtain ⟨s13, e14⟩ : ∃ z : sg_M, z = sg_up s_20 62 2 1 := ⟨_, rfl⟩
          have hf := hf s13 e14
          refine gw_put1 F (so_62 hst) (by decide) rfl sg_lay_RX4 (j := 2) (by decide) (by decide) e14 tyX4_ok nmX4 rfl (tyX4_ok 2 (by decide)) rfl (.inr kw_206) dX11_askTicks_104 ?_
          exact gr_HV F hf (by decide) (by decide) dX11_askTicks_107
        · have hf := hf.2 c11
          refine gw_aload_n F 0 rfl rfl (by decide) dX11_askTicks_34 ?_
          refine gw_aload_n F 0 rfl rfl (by decide) dX11_askTicks_35 ?_
          refine gw_get7 F (so_0 hst) (by decide) rfl sg_lay_RX11 (j := 2) (by decide) (o1 := 4) (by first | rfl | omega) rfl (host := "") (.inl kw_328) dX11_askTicks_36 (fun h15 => ?_)
          refine gw_get4 F (so_4 hst) (by decide) rfl sg_lay_RX7 (j := 0) (by decide) rfl (.inr kw_234) dX11_askTicks_39 (fun h16 => ?_)
          refine gw_aload_n F 0 rfl rfl (by decide) dX11_askTicks_42 ?_
          refine gw_get7 F (so_0 hst) (by decide) rfl sg_lay_RX11 (j := 2) (by decide) (o1 := 4) (by first | rfl | omega) rfl (host := "") (.inl kw_328) dX11_askTicks_43 (fun h17 => ?_)
          refine gw_get4 F (so_4 hst) (by decide) rfl sg_lay_RX7 (j := 1) (by decide) rfl (.inr kw_236) dX11_askTicks_46 (fun h18 => ?_)
          refine gw_iload_n F 1 rfl rfl dX11_askTicks_49 ?_
          obtain ⟨g19, hf⟩ := hf
          have t20 := sg_nn h18 g19
          refine gk_PI F (gc_V F (S := [sg_r (s_20 4 0), sg_r 0]) (As := [sg_i x1_20]) (T := TX3) (N := 5) (CX3_knee t20 r1_20 hf) t20 (by decide) rfl kw_838 kw_95 kw_835 kw_836 kw_837 hcX3_knee ⟨by decide, by decide⟩ rfl rfl (Nat.le_of_ble_eq_true rfl) ⟨by decide, by decide⟩ dX11_askTicks_50) (fun u21 h22 hf => ?_)
          refine gw_aload_n F 0 rfl rfl (by decide) dX11_askTicks_53 ?_
          refine gw_get7 F (so_0 hst) (by decide) rfl sg_lay_RX11 (j := 2) (by decide) (o1 := 4) (by first | rfl | omega) rfl (host := "") (.inl kw_328) dX11_askTicks_54 (fun h23 => ?_)
          refine gw_get4 F (so_4 hst) (by decide) rfl sg_lay_RX7 (j := 1) (by decide) rfl (.inr kw_236) dX11_askTicks_57 (fun h24 => ?_)
          refine gw_iload_n F 1 rfl rfl dX11_askTicks_60 ?_
          obtain ⟨g25, hf⟩ := hf
          have t26 := sg_nn h24 g25
          refine gk_PI F (gc_V F (S := [sg_i u21, sg_r (s_20 4 0), sg_r 0]) (As := [sg_i x1_20]) (T := TX3) (N := 5) (CX3_tip t26 r1_20 hf) t26 (by decide) rfl kw_842 kw_95 kw_839 kw_840 kw_841 hcX3_tip ⟨by decide, by decide⟩ rfl rfl (Nat.le_of_ble_eq_true rfl) ⟨by decide, by decide⟩ dX11_askTicks_61) (fun u27 h28 hf => ?_)
          obtain ⟨g29, hf⟩ := hf
          have t30 := sg_nn h16 g29
          refine gk_HV F (gc_V F (S := []) (As := [sg_r (s_20 4 0), sg_i u21, sg_i u27]) (T := TX11) (N := 19) (CX11_listenTo hst t30 h22 h28 hf) (so_0 hst) (by decide) rfl kw_655 kw_90 kw_653 kw_654 kw_20 hcX11_listenTo ⟨by decide, by decide⟩ rfl rfl (Nat.le_of_ble_eq_true rfl) ⟨by decide, by decide⟩ dX11_askTicks_64) (fun s31 hf => ?_)
          refine gw_aload_n F 0 rfl rfl (by decide) dX11_askTicks_67 ?_
          refine gw_get7 F (so_0 hst) (by decide) rfl sg_lay_RX11 (j := 2) (by decide) (o1 := 4) (by first | rfl | omega) rfl (host := "") (.inl kw_328) dX11_askTicks_68 (fun h32 => ?_)
          refine gw_get4 F (so_4 hst) (by decide) rfl sg_lay_RX7 (j := 2) (by decide) rfl (.inr kw_238) dX11_askTicks_71 (fun h33 => ?_)
          refine gw_aload_n F 0 rfl rfl (by decide) dX11_askTicks_74 ?_
          refine gw_get7 F (so_0 hst) (by decide) rfl sg_lay_RX11 (j := 5) (by decide) (o1 := 32) (by first | rfl | omega) rfl (host := "") (.inl kw_331) dX11_askTicks_75 (fun h34 => ?_)
          refine gw_iload_n F 1 rfl rfl dX11_askTicks_78 ?_
          obtain ⟨g35, hf⟩ := hf
          have t36 := sg_nn h33 g35
          refine gk_PZ F (gc_V F (S := []) (As := [sg_r 32, sg_i x1_20]) (T := TX5) (N := 4) (CX5_holds hst t36 r1_20 hf) t36 (by decide) rfl kw_846 kw_96 kw_843 kw_844 kw_845 hcX5_holds ⟨by decide, by decide⟩ rfl rfl (Nat.le_of_ble_eq_true rfl) ⟨by decide, by decide⟩ dX11_askTicks_79) (fun u37 h38 hf => ?_)
          have J93 : ∀ (s_93 : sg_M), (fX11_askTicks_j93 x1_20 (fX11_askTicks_L20 La Q n_20)) s_93 → sg_W p l e (sg_rm 6 0 0) s m args below meth c (MQ below (sg_Q (none) G La s.heap.size (sg_HV La Q)) args s 0 0 (sg_A La s.heap.size)) 2 G (sg_A La s.heap.size) La s_93 0 0 93 [(0, sg_r 0), (1, sg_i x1_20)] [] := by
            intro s_93 hf
            unfold fX11_askTicks_j93 at hf
            refine gw_iinc F (z := (x1_20 + 1)) 1 rfl (by omega) (by decide) rfl dX11_askTicks_93 ?_
            refine gw_goto F (tgt := 20) dX11_askTicks_96 (by decide) ?_
            obtain ⟨g39, hf⟩ := hf
            refine gw_sub [1, 0] rfl ?_
            exact ih s_93 (x1_20 + 1) g39 hf
          refine gw_if_eq F (tgt := 93) dX11_askTicks_82 (by decide) (sg_B_R h38) (fun c40 => ?_) (fun c40 => ?_)
          · have hf := hf.1 c40
            refine gw_sub [0, 1] rfl ?_
            exact J93 s31 hf
          · have hf := hf.2 c40
            refine gw_aload_n F 0 rfl rfl (by decide) dX11_askTicks_85 ?_
            refine gw_get7 F (so_0 hst) (by decide) rfl sg_lay_RX11 (j := 15) (by decide) (o1 := 62) (by first | rfl | omega) rfl (host := "") (.inl kw_341) dX11_askTicks_86 (fun h41 => ?_)
            refine gw_iload_n F 1 rfl rfl dX11_askTicks_89 ?_
            refine gk_HV F (gc_V F (S := []) (As := [sg_i x1_20]) (T := TX4) (N := 3) (CX4_add (so_62 hst) r1_20 hf) (so_62 hst) (by decide) rfl kw_538 kw_97 kw_663 kw_536 kw_537 hcX4_add ⟨by decide, by decide⟩ rfl rfl (Nat.le_of_ble_eq_true rfl) ⟨by decide, by decide⟩ dX11_askTicks_90) (fun s42 hf => ?_)
            refine gw_sub [0, 1] rfl ?_
            exact J93 s42 hf
    obtain ⟨n43, hf⟩ := hf
    refine gw_sub [1, 0] rfl ?_
    refine L20   n43 s5 1 (by decide) hf
  · have hf := hf.2 c3
    exact gr_HV F hf (by decide) (by decide) dX11_askTicks_10

theorem dX11_said_0 : decode cX11_said 0 = .ok (.aload_n 0, 1) := by decide +kernel
theorem dX11_said_1 : decode cX11_said 1 = .ok (.getfield 39, 3) := by decide +kernel
theorem dX11_said_4 : decode cX11_said 4 = .ok (.getfield 324, 3) := by decide +kernel
theorem dX11_said_7 : decode cX11_said 7 = .ok (.getfield 328, 3) := by decide +kernel
theorem dX11_said_10 : decode cX11_said 10 = .ok (.ifCond .ne 5, 3) := by decide +kernel
theorem dX11_said_13 : decode cX11_said 13 = .ok (.iconst (-1), 1) := by decide +kernel
theorem dX11_said_14 : decode cX11_said 14 = .ok (.ireturn, 1) := by decide +kernel
theorem dX11_said_15 : decode cX11_said 15 = .ok (.aload_n 0, 1) := by decide +kernel
theorem dX11_said_16 : decode cX11_said 16 = .ok (.invokevirtual 331, 3) := by decide +kernel
theorem dX11_said_19 : decode cX11_said 19 = .ok (.iload_n 1, 1) := by decide +kernel
theorem dX11_said_20 : decode cX11_said 20 = .ok (.iconst (-1), 1) := by decide +kernel
theorem dX11_said_21 : decode cX11_said 21 = .ok (.if_icmp .ne 13, 3) := by decide +kernel
theorem dX11_said_24 : decode cX11_said 24 = .ok (.aload_n 0, 1) := by decide +kernel
theorem dX11_said_25 : decode cX11_said 25 = .ok (.getfield 99, 3) := by decide +kernel
theorem dX11_said_28 : decode cX11_said 28 = .ok (.getfield 181, 3) := by decide +kernel
theorem dX11_said_31 : decode cX11_said 31 = .ok (.goto 11, 3) := by decide +kernel
theorem dX11_said_34 : decode cX11_said 34 = .ok (.aload_n 0, 1) := by decide +kernel
theorem dX11_said_35 : decode cX11_said 35 = .ok (.getfield 99, 3) := by decide +kernel
theorem dX11_said_38 : decode cX11_said 38 = .ok (.iload_n 1, 1) := by decide +kernel
theorem dX11_said_39 : decode cX11_said 39 = .ok (.invokevirtual 182, 3) := by decide +kernel
theorem dX11_said_42 : decode cX11_said 42 = .ok (.ireturn, 1) := by decide +kernel
theorem hcX11_said : yX11_said.cls ≠ "java/lang/invoke/MethodHandle" ∧ yX11_said.cls ≠ "java/lang/invoke/VarHandle" ∧ (parseMethodDescriptor yX11_said.desc).map (fun d => d.parameters.length) = some 1 := ⟨by decide +kernel, by decide +kernel, by decide +kernel⟩
def fX11_said (La : sg_L) (s0 : sg_M) (x1 : Int) (Q : Int → sg_M → Prop) : Prop := (0 ≤ (s0 4 2)) ∧ (((s0 (s0 4 2) 3) ≠ 0 → fX11_askTicks La s0 (fun s7 => ((x1 ≠ (-1) → fX4_at La s7 62 x1 (fun u10 => Q u10 s7)) ∧ (x1 = (-1) → Q (s7 62 1) s7)))) ∧ ((s0 (s0 4 2) 3) = 0 → Q (-1) s0))
set_option maxHeartbeats 4000000 in
set_option maxRecDepth 100000 in
theorem CX11_said {l : Launch} {G : sg_G} {La : sg_L} {s0 : sg_M} (hst : sg_St La) {x1 : Int} (r1 : sg_R x1) {Q : Int → sg_M → Prop} (hf : fX11_said La s0 x1 Q) : sg_C l G yX11_said cX11_said 2 (some .int) 7 0 0 La s0 [sg_r 0, sg_i x1] (sg_HI La Q) := by
  refine sg_body (by decide +kernel) (Nat.le_of_ble_eq_true rfl) ?_
  intro p e s m args below meth c F hnm
  unfold fX11_said at hf
  show sg_W p l e (sg_rm 7 0 0) s m args below meth c (MQ below (sg_Q (some .int) G La s.heap.size (sg_HI La Q)) args s 0 0 (sg_A La s.heap.size)) 2 G (sg_A La s.heap.size) La s0 0 0 0 [(0, sg_r 0), (1, sg_i x1)] []
  refine gw_aload_n F 0 rfl rfl (by decide) dX11_said_0 ?_
  refine gw_get7 F (so_0 hst) (by decide) rfl sg_lay_RX11 (j := 2) (by decide) (o1 := 4) (by first | rfl | omega) rfl (host := "") (.inl kw_328) dX11_said_1 (fun h1 => ?_)
  refine gw_get4 F (so_4 hst) (by decide) rfl sg_lay_RX7 (j := 2) (by decide) rfl (.inr kw_238) dX11_said_4 (fun h2 => ?_)
  obtain ⟨g3, hf⟩ := hf
  have t4 := sg_nn h2 g3
  refine gw_get0 F t4 (by decide) rfl sg_lay_RX5 (j := 3) (by decide) rfl (.inr kw_211) dX11_said_7 (fun h5 => ?_)
  refine gw_if_ne F (tgt := 15) dX11_said_10 (by decide) h5 (fun c6 => ?_) (fun c6 => ?_)
  · have hf := hf.1 c6
    refine gw_aload_n F 0 rfl rfl (by decide) dX11_said_15 ?_
    refine gk_HV F (gc_V F (S := []) (As := []) (T := TX11) (N := 19) (CX11_askTicks hst hf) (so_0 hst) (by decide) rfl kw_834 kw_90 kw_832 kw_833 kw_35 hcX11_askTicks ⟨by decide, by decide⟩ rfl rfl (Nat.le_of_ble_eq_true rfl) ⟨by decide, by decide⟩ dX11_said_16) (fun s7 hf => ?_)
    refine gw_iload_n F 1 rfl rfl dX11_said_19 ?_
    refine gw_iconst F dX11_said_20 ?_
    refine gw_icmp_ne F (tgt := 34) dX11_said_21 (by decide) r1 (by decide) (fun c8 => ?_) (fun c8 => ?_)
    · have hf := hf.1 c8
      refine gw_aload_n F 0 rfl rfl (by decide) dX11_said_34 ?_
      refine gw_get7 F (so_0 hst) (by decide) rfl sg_lay_RX11 (j := 15) (by decide) (o1 := 62) (by first | rfl | omega) rfl (host := "") (.inl kw_341) dX11_said_35 (fun h9 => ?_)
      refine gw_iload_n F 1 rfl rfl dX11_said_38 ?_
      refine gk_PI F (gc_V F (S := []) (As := [sg_i x1]) (T := TX4) (N := 3) (CX4_at (so_62 hst) r1 hf) (so_62 hst) (by decide) rfl kw_546 kw_97 kw_543 kw_544 kw_545 hcX4_at ⟨by decide, by decide⟩ rfl rfl (Nat.le_of_ble_eq_true rfl) ⟨by decide, by decide⟩ dX11_said_39) (fun u10 h11 hf => ?_)
      exact gr_HI F h11 hf (by decide) (by decide) dX11_said_42
    · have hf := hf.2 c8
      refine gw_aload_n F 0 rfl rfl (by decide) dX11_said_24 ?_
      refine gw_get7 F (so_0 hst) (by decide) rfl sg_lay_RX11 (j := 15) (by decide) (o1 := 62) (by first | rfl | omega) rfl (host := "") (.inl kw_341) dX11_said_25 (fun h12 => ?_)
      refine gw_get0 F (so_62 hst) (by decide) rfl sg_lay_RX4 (j := 1) (by decide) rfl (.inr kw_204) dX11_said_28 (fun h13 => ?_)
      refine gw_goto F (tgt := 42) dX11_said_31 (by decide) ?_
      exact gr_HI F h13 hf (by decide) (by decide) dX11_said_42
  · have hf := hf.2 c6
    refine gw_iconst F dX11_said_13 ?_
    exact gr_HI F (by decide) hf (by decide) (by decide) dX11_said_14

theorem dX11_isSlip_0 : decode cX11_isSlip 0 = .ok (.iload_n 0, 1) := by decide +kernel
theorem dX11_isSlip_1 : decode cX11_isSlip 1 = .ok (.ifCond .lt 14, 3) := by decide +kernel
theorem dX11_isSlip_4 : decode cX11_isSlip 4 = .ok (.iload_n 0, 1) := by decide +kernel
theorem dX11_isSlip_5 : decode cX11_isSlip 5 = .ok (.sipush 200, 3) := by decide +kernel
theorem dX11_isSlip_8 : decode cX11_isSlip 8 = .ok (.if_icmp .gt 7, 3) := by decide +kernel
theorem dX11_isSlip_11 : decode cX11_isSlip 11 = .ok (.iconst 1, 1) := by decide +kernel
theorem dX11_isSlip_12 : decode cX11_isSlip 12 = .ok (.goto 4, 3) := by decide +kernel
theorem dX11_isSlip_15 : decode cX11_isSlip 15 = .ok (.iconst 0, 1) := by decide +kernel
theorem dX11_isSlip_16 : decode cX11_isSlip 16 = .ok (.ireturn, 1) := by decide +kernel
theorem hcX11_isSlip : yX11_isSlip.cls ≠ "java/lang/invoke/MethodHandle" ∧ yX11_isSlip.cls ≠ "java/lang/invoke/VarHandle" ∧ (parseMethodDescriptor yX11_isSlip.desc).map (fun d => d.parameters.length) = some 1 := ⟨by decide +kernel, by decide +kernel, by decide +kernel⟩
def fX11_isSlip (x0 : Int) (Q : Int → Prop) : Prop := ((x0 < 0 → Q 0) ∧ (¬ (x0 < 0) → ((200 < x0 → Q 0) ∧ (¬ (200 < x0) → Q 1))))
set_option maxHeartbeats 4000000 in
set_option maxRecDepth 100000 in
theorem CX11_isSlip {l : Launch} {G : sg_G} {La : sg_L} {s0 : sg_M} {x0 : Int} (r0 : sg_R x0) {Q : Int → Prop} (hf : fX11_isSlip x0 Q) : sg_C l G yX11_isSlip cX11_isSlip 1 (some .boolean) 1 0 0 La s0 [sg_i x0] (sg_PZ La s0 Q) := by
  refine sg_body (by decide +kernel) (Nat.le_of_ble_eq_true rfl) ?_
  intro p e s m args below meth c F hnm
  unfold fX11_isSlip at hf
  show sg_W p l e (sg_rm 1 0 0) s m args below meth c (MQ below (sg_Q (some .boolean) G La s.heap.size (sg_PZ La s0 Q)) args s 0 0 (sg_A La s.heap.size)) 1 G (sg_A La s.heap.size) La s0 0 0 0 [(0, sg_i x0)] []
  refine gw_iload_n F 0 rfl rfl dX11_isSlip_0 ?_
  refine gw_if_lt F (tgt := 15) dX11_isSlip_1 (by decide) r0 (fun c1 => ?_) (fun c1 => ?_)
  · have hf := hf.1 c1
    refine gw_iconst F dX11_isSlip_15 ?_
    exact gr_PZ F (by decide) hf (by decide) (by decide) dX11_isSlip_16
  · have hf := hf.2 c1
    refine gw_iload_n F 0 rfl rfl dX11_isSlip_4 ?_
    refine gw_sipush F rfl dX11_isSlip_5 ?_
    refine gw_icmp_gt F (tgt := 15) dX11_isSlip_8 (by decide) r0 (by decide) (fun c2 => ?_) (fun c2 => ?_)
    · have hf := hf.1 c2
      refine gw_iconst F dX11_isSlip_15 ?_
      exact gr_PZ F (by decide) hf (by decide) (by decide) dX11_isSlip_16
    · have hf := hf.2 c2
      refine gw_iconst F dX11_isSlip_11 ?_
      refine gw_goto F (tgt := 16) dX11_isSlip_12 (by decide) ?_
      exact gr_PZ F (by decide) hf (by decide) (by decide) dX11_isSlip_16

theorem dX5_addStep_0 : decode cX5_addStep 0 = .ok (.aload_n 0, 1) := by decide +kernel
theorem dX5_addStep_1 : decode cX5_addStep 1 = .ok (.getfield 16, 3) := by decide +kernel
theorem dX5_addStep_4 : decode cX5_addStep 4 = .ok (.iload_n 1, 1) := by decide +kernel
theorem dX5_addStep_5 : decode cX5_addStep 5 = .ok (.invokevirtual 109, 3) := by decide +kernel
theorem dX5_addStep_8 : decode cX5_addStep 8 = .ok (.aload_n 0, 1) := by decide +kernel
theorem dX5_addStep_9 : decode cX5_addStep 9 = .ok (.getfield 20, 3) := by decide +kernel
theorem dX5_addStep_12 : decode cX5_addStep 12 = .ok (.iload_n 2, 1) := by decide +kernel
theorem dX5_addStep_13 : decode cX5_addStep 13 = .ok (.invokevirtual 109, 3) := by decide +kernel
theorem dX5_addStep_16 : decode cX5_addStep 16 = .ok (.aload_n 0, 1) := by decide +kernel
theorem dX5_addStep_17 : decode cX5_addStep 17 = .ok (.getfield 23, 3) := by decide +kernel
theorem dX5_addStep_20 : decode cX5_addStep 20 = .ok (.iload_n 3, 1) := by decide +kernel
theorem dX5_addStep_21 : decode cX5_addStep 21 = .ok (.invokevirtual 109, 3) := by decide +kernel
theorem dX5_addStep_24 : decode cX5_addStep 24 = .ok (.return_, 1) := by decide +kernel
theorem hcX5_addStep : yX5_addStep.cls ≠ "java/lang/invoke/MethodHandle" ∧ yX5_addStep.cls ≠ "java/lang/invoke/VarHandle" ∧ (parseMethodDescriptor yX5_addStep.desc).map (fun d => d.parameters.length) = some 3 := ⟨by decide +kernel, by decide +kernel, by decide +kernel⟩
def fX5_addStep (La : sg_L) (s0 : sg_M) (o : Int) (x1 : Int) (x2 : Int) (x3 : Int) (Q : sg_M → Prop) : Prop := fX4_add La s0 (o + 1) x1 (fun s2 => fX4_add La s2 (o + 3) x2 (fun s4 => fX4_add La s4 (o + 5) x3 (fun s6 => Q s6)))
set_option maxHeartbeats 4000000 in
set_option maxRecDepth 100000 in
theorem CX5_addStep {l : Launch} {G : sg_G} {La : sg_L} {s0 : sg_M} {o : Int} (to : sg_O La o 5) {x1 : Int} (r1 : sg_R x1) {x2 : Int} (r2 : sg_R x2) {x3 : Int} (r3 : sg_R x3) {Q : sg_M → Prop} (hf : fX5_addStep La s0 o x1 x2 x3 Q) : sg_C l G yX5_addStep cX5_addStep 4 (none) 2 0 0 La s0 [sg_r o, sg_i x1, sg_i x2, sg_i x3] (sg_HV La Q) := by
  refine sg_body (by decide +kernel) (Nat.le_of_ble_eq_true rfl) ?_
  intro p e s m args below meth c F hnm
  unfold fX5_addStep at hf
  show sg_W p l e (sg_rm 2 0 0) s m args below meth c (MQ below (sg_Q (none) G La s.heap.size (sg_HV La Q)) args s 0 0 (sg_A La s.heap.size)) 4 G (sg_A La s.heap.size) La s0 0 0 0 [(0, sg_r o), (1, sg_i x1), (2, sg_i x2), (3, sg_i x3)] []
  refine gw_aload_n F 0 rfl rfl to.1 dX5_addStep_0 ?_
  refine gw_get3 F to (by decide) rfl sg_lay_RX5 (j := 0) (by decide) (o1 := (o + 1)) (by first | rfl | omega) rfl (host := "") (.inl kw_207) dX5_addStep_1 (fun h1 => ?_)
  refine gw_iload_n F 1 rfl rfl dX5_addStep_4 ?_
  refine gk_HV F (gc_V F (S := []) (As := [sg_i x1]) (T := TX4) (N := 3) (CX4_add (sg_O_of h1 (by decide)) r1 hf) (sg_O_of h1 (by decide)) (by decide) rfl kw_538 kw_97 kw_819 kw_536 kw_537 hcX4_add ⟨by decide, by decide⟩ rfl rfl (Nat.le_of_ble_eq_true rfl) ⟨by decide, by decide⟩ dX5_addStep_5) (fun s2 hf => ?_)
  refine gw_aload_n F 0 rfl rfl to.1 dX5_addStep_8 ?_
  refine gw_get3 F to (by decide) rfl sg_lay_RX5 (j := 1) (by decide) (o1 := (o + 3)) (by first | rfl | omega) rfl (host := "") (.inl kw_208) dX5_addStep_9 (fun h3 => ?_)
  refine gw_iload_n F 2 rfl rfl dX5_addStep_12 ?_
  refine gk_HV F (gc_V F (S := []) (As := [sg_i x2]) (T := TX4) (N := 3) (CX4_add (sg_O_of h3 (by decide)) r2 hf) (sg_O_of h3 (by decide)) (by decide) rfl kw_538 kw_97 kw_819 kw_536 kw_537 hcX4_add ⟨by decide, by decide⟩ rfl rfl (Nat.le_of_ble_eq_true rfl) ⟨by decide, by decide⟩ dX5_addStep_13) (fun s4 hf => ?_)
  refine gw_aload_n F 0 rfl rfl to.1 dX5_addStep_16 ?_
  refine gw_get3 F to (by decide) rfl sg_lay_RX5 (j := 2) (by decide) (o1 := (o + 5)) (by first | rfl | omega) rfl (host := "") (.inl kw_209) dX5_addStep_17 (fun h5 => ?_)
  refine gw_iload_n F 3 rfl rfl dX5_addStep_20 ?_
  refine gk_HV F (gc_V F (S := []) (As := [sg_i x3]) (T := TX4) (N := 3) (CX4_add (sg_O_of h5 (by decide)) r3 hf) (sg_O_of h5 (by decide)) (by decide) rfl kw_538 kw_97 kw_819 kw_536 kw_537 hcX4_add ⟨by decide, by decide⟩ rfl rfl (Nat.le_of_ble_eq_true rfl) ⟨by decide, by decide⟩ dX5_addStep_21) (fun s6 hf => ?_)
  exact gr_HV F hf (by decide) (by decide) dX5_addStep_24

theorem dX2_add_0 : decode cX2_add 0 = .ok (.aload_n 0, 1) := by decide +kernel
theorem dX2_add_1 : decode cX2_add 1 = .ok (.getfield 23, 3) := by decide +kernel
theorem dX2_add_4 : decode cX2_add 4 = .ok (.bipush 40, 2) := by decide +kernel
theorem dX2_add_6 : decode cX2_add 6 = .ok (.if_icmp .ge 29, 3) := by decide +kernel
theorem dX2_add_9 : decode cX2_add 9 = .ok (.aload_n 0, 1) := by decide +kernel
theorem dX2_add_10 : decode cX2_add 10 = .ok (.getfield 14, 3) := by decide +kernel
theorem dX2_add_13 : decode cX2_add 13 = .ok (.iload_n 1, 1) := by decide +kernel
theorem dX2_add_14 : decode cX2_add 14 = .ok (.invokevirtual 27, 3) := by decide +kernel
theorem dX2_add_17 : decode cX2_add 17 = .ok (.aload_n 0, 1) := by decide +kernel
theorem dX2_add_18 : decode cX2_add 18 = .ok (.getfield 20, 3) := by decide +kernel
theorem dX2_add_21 : decode cX2_add 21 = .ok (.iload_n 2, 1) := by decide +kernel
theorem dX2_add_22 : decode cX2_add 22 = .ok (.invokevirtual 27, 3) := by decide +kernel
theorem dX2_add_25 : decode cX2_add 25 = .ok (.aload_n 0, 1) := by decide +kernel
theorem dX2_add_26 : decode cX2_add 26 = .ok (.dup, 1) := by decide +kernel
theorem dX2_add_27 : decode cX2_add 27 = .ok (.getfield 23, 3) := by decide +kernel
theorem dX2_add_30 : decode cX2_add 30 = .ok (.iconst 1, 1) := by decide +kernel
theorem dX2_add_31 : decode cX2_add 31 = .ok (.iadd, 1) := by decide +kernel
theorem dX2_add_32 : decode cX2_add 32 = .ok (.putfield 23, 3) := by decide +kernel
theorem dX2_add_35 : decode cX2_add 35 = .ok (.return_, 1) := by decide +kernel
theorem hcX2_add : yX2_add.cls ≠ "java/lang/invoke/MethodHandle" ∧ yX2_add.cls ≠ "java/lang/invoke/VarHandle" ∧ (parseMethodDescriptor yX2_add.desc).map (fun d => d.parameters.length) = some 2 := ⟨by decide +kernel, by decide +kernel, by decide +kernel⟩
def fX2_add (La : sg_L) (s0 : sg_M) (o : Int) (x1 : Int) (x2 : Int) (Q : sg_M → Prop) : Prop := ((40 ≤ (s0 o 2) → Q s0) ∧ (¬ (40 ≤ (s0 o 2)) → fX4_add La s0 (o + 1) x1 (fun s4 => fX4_add La s4 (o + 3) x2 (fun s6 => sg_R ((s6 o 2) + 1) ∧ ∀ s9 : sg_M, s9 = sg_up s6 o 2 ((s6 o 2) + 1) → Q s9))))
set_option maxHeartbeats 4000000 in
set_option maxRecDepth 100000 in
theorem CX2_add {l : Launch} {G : sg_G} {La : sg_L} {s0 : sg_M} {o : Int} (to : sg_O La o 2) {x1 : Int} (r1 : sg_R x1) {x2 : Int} (r2 : sg_R x2) {Q : sg_M → Prop} (hf : fX2_add La s0 o x1 x2 Q) : sg_C l G yX2_add cX2_add 3 (none) 2 0 0 La s0 [sg_r o, sg_i x1, sg_i x2] (sg_HV La Q) := by
  refine sg_body (by decide +kernel) (Nat.le_of_ble_eq_true rfl) ?_
  intro p e s m args below meth c F hnm
  unfold fX2_add at hf
  show sg_W p l e (sg_rm 2 0 0) s m args below meth c (MQ below (sg_Q (none) G La s.heap.size (sg_HV La Q)) args s 0 0 (sg_A La s.heap.size)) 3 G (sg_A La s.heap.size) La s0 0 0 0 [(0, sg_r o), (1, sg_i x1), (2, sg_i x2)] []
  refine gw_aload_n F 0 rfl rfl to.1 dX2_add_0 ?_
  refine gw_get0 F to (by decide) rfl sg_lay_RX2 (j := 2) (by decide) rfl (host := "") (.inl kw_228) dX2_add_1 (fun h1 => ?_)
  refine gw_bipush F rfl dX2_add_4 ?_
  refine gw_icmp_ge F (tgt := 35) dX2_add_6 (by decide) h1 (by decide) (fun c2 => ?_) (fun c2 => ?_)
  · have hf := hf.1 c2
    exact gr_HV F hf (by decide) (by decide) dX2_add_35
  · have hf := hf.2 c2
    refine gw_aload_n F 0 rfl rfl to.1 dX2_add_9 ?_
    refine gw_get3 F to (by decide) rfl sg_lay_RX2 (j := 0) (by decide) (o1 := (o + 1)) (by first | rfl | omega) rfl (host := "") (.inl kw_224) dX2_add_10 (fun h3 => ?_)
    refine gw_iload_n F 1 rfl rfl dX2_add_13 ?_
    refine gk_HV F (gc_V F (S := []) (As := [sg_i x1]) (T := TX4) (N := 3) (CX4_add (sg_O_of h3 (by decide)) r1 hf) (sg_O_of h3 (by decide)) (by decide) rfl kw_538 kw_97 kw_644 kw_536 kw_537 hcX4_add ⟨by decide, by decide⟩ rfl rfl (Nat.le_of_ble_eq_true rfl) ⟨by decide, by decide⟩ dX2_add_14) (fun s4 hf => ?_)
    refine gw_aload_n F 0 rfl rfl to.1 dX2_add_17 ?_
    refine gw_get3 F to (by decide) rfl sg_lay_RX2 (j := 1) (by decide) (o1 := (o + 3)) (by first | rfl | omega) rfl (host := "") (.inl kw_226) dX2_add_18 (fun h5 => ?_)
    refine gw_iload_n F 2 rfl rfl dX2_add_21 ?_
    refine gk_HV F (gc_V F (S := []) (As := [sg_i x2]) (T := TX4) (N := 3) (CX4_add (sg_O_of h5 (by decide)) r2 hf) (sg_O_of h5 (by decide)) (by decide) rfl kw_538 kw_97 kw_644 kw_536 kw_537 hcX4_add ⟨by decide, by decide⟩ rfl rfl (Nat.le_of_ble_eq_true rfl) ⟨by decide, by decide⟩ dX2_add_22) (fun s6 hf => ?_)
    refine gw_aload_n F 0 rfl rfl to.1 dX2_add_25 ?_
    refine gw_dup F rfl dX2_add_26 ?_
    refine gw_get0 F to (by decide) rfl sg_lay_RX2 (j := 2) (by decide) rfl (host := "") (.inl kw_228) dX2_add_27 (fun h7 => ?_)
    refine gw_iconst F dX2_add_30 ?_
    refine gw_iadd F rfl dX2_add_31 ?_
    obtain ⟨g8, hf⟩ := hf
    obtain ⟨s9, e10⟩ : ∃ z : sg_M, z = sg_up s6 o 2 ((s6 o 2) + 1) := ⟨_, rfl⟩
    have hf := hf s9 e10
    refine gw_put0 F to (by decide) rfl sg_lay_RX2 (j := 2) (by decide) g8 e10 tyX2_ok nmX2 rfl (tyX2_ok 2 (by decide)) rfl (host := "") (.inl kw_228) dX2_add_32 ?_
    exact gr_HV F hf (by decide) (by decide) dX2_add_35

theorem dX11_write_0 : decode cX11_write 0 = .ok (.iload_n 1, 1) := by decide +kernel
theorem dX11_write_1 : decode cX11_write 1 = .ok (.iload_n 2, 1) := by decide +kernel
theorem dX11_write_2 : decode cX11_write 2 = .ok (.invokestatic 158, 3) := by decide +kernel
theorem dX11_write_5 : decode cX11_write 5 = .ok (.ifCond .eq 18, 3) := by decide +kernel
theorem dX11_write_8 : decode cX11_write 8 = .ok (.aload_n 0, 1) := by decide +kernel
theorem dX11_write_9 : decode cX11_write 9 = .ok (.getfield 39, 3) := by decide +kernel
theorem dX11_write_12 : decode cX11_write 12 = .ok (.getfield 237, 3) := by decide +kernel
theorem dX11_write_15 : decode cX11_write 15 = .ok (.getfield 241, 3) := by decide +kernel
theorem dX11_write_18 : decode cX11_write 18 = .ok (.bipush 40, 2) := by decide +kernel
theorem dX11_write_20 : decode cX11_write 20 = .ok (.if_icmp .lt 5, 3) := by decide +kernel
theorem dX11_write_23 : decode cX11_write 23 = .ok (.iconst (-1), 1) := by decide +kernel
theorem dX11_write_24 : decode cX11_write 24 = .ok (.ireturn, 1) := by decide +kernel
theorem dX11_write_25 : decode cX11_write 25 = .ok (.aload_n 0, 1) := by decide +kernel
theorem dX11_write_26 : decode cX11_write 26 = .ok (.getfield 39, 3) := by decide +kernel
theorem dX11_write_29 : decode cX11_write 29 = .ok (.getfield 237, 3) := by decide +kernel
theorem dX11_write_32 : decode cX11_write 32 = .ok (.iload_n 1, 1) := by decide +kernel
theorem dX11_write_33 : decode cX11_write 33 = .ok (.iload_n 2, 1) := by decide +kernel
theorem dX11_write_34 : decode cX11_write 34 = .ok (.invokevirtual 244, 3) := by decide +kernel
theorem dX11_write_37 : decode cX11_write 37 = .ok (.aload_n 0, 1) := by decide +kernel
theorem dX11_write_38 : decode cX11_write 38 = .ok (.invokevirtual 248, 3) := by decide +kernel
theorem dX11_write_41 : decode cX11_write 41 = .ok (.aload_n 0, 1) := by decide +kernel
theorem dX11_write_42 : decode cX11_write 42 = .ok (.getfield 39, 3) := by decide +kernel
theorem dX11_write_45 : decode cX11_write 45 = .ok (.getfield 237, 3) := by decide +kernel
theorem dX11_write_48 : decode cX11_write 48 = .ok (.getfield 241, 3) := by decide +kernel
theorem dX11_write_51 : decode cX11_write 51 = .ok (.iconst 1, 1) := by decide +kernel
theorem dX11_write_52 : decode cX11_write 52 = .ok (.isub, 1) := by decide +kernel
theorem dX11_write_53 : decode cX11_write 53 = .ok (.ireturn, 1) := by decide +kernel
theorem hcX11_write : yX11_write.cls ≠ "java/lang/invoke/MethodHandle" ∧ yX11_write.cls ≠ "java/lang/invoke/VarHandle" ∧ (parseMethodDescriptor yX11_write.desc).map (fun d => d.parameters.length) = some 2 := ⟨by decide +kernel, by decide +kernel, by decide +kernel⟩
def fX11_write (La : sg_L) (s0 : sg_M) (x1 : Int) (x2 : Int) (Q : Int → sg_M → Prop) : Prop := fX11_isBend x1 x2 (fun u1 => ((u1 = 0 → Q (-1) s0) ∧ (¬ (u1 = 0) → (((s0 20 2) < 40 → fX2_add La s0 20 x1 x2 (fun s10 => fX11_forgetAnswers s10 (fun s11 => sg_R ((s11 20 2) - 1) ∧ Q ((s11 20 2) - 1) s11))) ∧ (¬ ((s0 20 2) < 40) → Q (-1) s0)))))
set_option maxHeartbeats 4000000 in
set_option maxRecDepth 100000 in
theorem CX11_write {l : Launch} {G : sg_G} {La : sg_L} {s0 : sg_M} (hst : sg_St La) {x1 : Int} (r1 : sg_R x1) {x2 : Int} (r2 : sg_R x2) {Q : Int → sg_M → Prop} (hf : fX11_write La s0 x1 x2 Q) : sg_C l G yX11_write cX11_write 3 (some .int) 3 0 0 La s0 [sg_r 0, sg_i x1, sg_i x2] (sg_HI La Q) := by
  refine sg_body (by decide +kernel) (Nat.le_of_ble_eq_true rfl) ?_
  intro p e s m args below meth c F hnm
  unfold fX11_write at hf
  show sg_W p l e (sg_rm 3 0 0) s m args below meth c (MQ below (sg_Q (some .int) G La s.heap.size (sg_HI La Q)) args s 0 0 (sg_A La s.heap.size)) 3 G (sg_A La s.heap.size) La s0 0 0 0 [(0, sg_r 0), (1, sg_i x1), (2, sg_i x2)] []
  refine gw_iload_n F 1 rfl rfl dX11_write_0 ?_
  refine gw_iload_n F 2 rfl rfl dX11_write_1 ?_
  refine gk_PZ F (gc_S F (S := []) (As := [sg_i x1, sg_i x2]) (CX11_isBend r1 r2 hf) kw_502 kw_90 kw_500 kw_501 hcX11_isBend ⟨by decide, by decide⟩ rfl rfl (Nat.le_of_ble_eq_true rfl) ⟨by decide, by decide⟩ dX11_write_2) (fun u1 h2 hf => ?_)
  refine gw_if_eq F (tgt := 23) dX11_write_5 (by decide) (sg_B_R h2) (fun c3 => ?_) (fun c3 => ?_)
  · have hf := hf.1 c3
    refine gw_iconst F dX11_write_23 ?_
    exact gr_HI F (by decide) hf (by decide) (by decide) dX11_write_24
  · have hf := hf.2 c3
    refine gw_aload_n F 0 rfl rfl (by decide) dX11_write_8 ?_
    refine gw_get7 F (so_0 hst) (by decide) rfl sg_lay_RX11 (j := 2) (by decide) (o1 := 4) (by first | rfl | omega) rfl (host := "") (.inl kw_328) dX11_write_9 (fun h4 => ?_)
    refine gw_get7 F (so_4 hst) (by decide) rfl sg_lay_RX7 (j := 3) (by decide) (o1 := 20) (by first | rfl | omega) rfl (.inr kw_240) dX11_write_12 (fun h5 => ?_)
    refine gw_get0 F (so_20 hst) (by decide) rfl sg_lay_RX2 (j := 2) (by decide) rfl (.inr kw_230) dX11_write_15 (fun h6 => ?_)
    refine gw_bipush F rfl dX11_write_18 ?_
    refine gw_icmp_lt F (tgt := 25) dX11_write_20 (by decide) h6 (by decide) (fun c7 => ?_) (fun c7 => ?_)
    · have hf := hf.1 c7
      refine gw_aload_n F 0 rfl rfl (by decide) dX11_write_25 ?_
      refine gw_get7 F (so_0 hst) (by decide) rfl sg_lay_RX11 (j := 2) (by decide) (o1 := 4) (by first | rfl | omega) rfl (host := "") (.inl kw_328) dX11_write_26 (fun h8 => ?_)
      refine gw_get7 F (so_4 hst) (by decide) rfl sg_lay_RX7 (j := 3) (by decide) (o1 := 20) (by first | rfl | omega) rfl (.inr kw_240) dX11_write_29 (fun h9 => ?_)
      refine gw_iload_n F 1 rfl rfl dX11_write_32 ?_
      refine gw_iload_n F 2 rfl rfl dX11_write_33 ?_
      refine gk_HV F (gc_V F (S := []) (As := [sg_i x1, sg_i x2]) (T := TX2) (N := 3) (CX2_add (so_20 hst) r1 r2 hf) (so_20 hst) (by decide) rfl kw_643 kw_99 kw_640 kw_641 kw_642 hcX2_add ⟨by decide, by decide⟩ rfl rfl (Nat.le_of_ble_eq_true rfl) ⟨by decide, by decide⟩ dX11_write_34) (fun s10 hf => ?_)
      refine gw_aload_n F 0 rfl rfl (by decide) dX11_write_37 ?_
      refine gk_HV F (gc_V F (S := []) (As := []) (T := TX11) (N := 19) (CX11_forgetAnswers hst hf) (so_0 hst) (by decide) rfl kw_490 kw_90 kw_488 kw_489 kw_3 hcX11_forgetAnswers ⟨by decide, by decide⟩ rfl rfl (Nat.le_of_ble_eq_true rfl) ⟨by decide, by decide⟩ dX11_write_38) (fun s11 hf => ?_)
      refine gw_aload_n F 0 rfl rfl (by decide) dX11_write_41 ?_
      refine gw_get7 F (so_0 hst) (by decide) rfl sg_lay_RX11 (j := 2) (by decide) (o1 := 4) (by first | rfl | omega) rfl (host := "") (.inl kw_328) dX11_write_42 (fun h12 => ?_)
      refine gw_get7 F (so_4 hst) (by decide) rfl sg_lay_RX7 (j := 3) (by decide) (o1 := 20) (by first | rfl | omega) rfl (.inr kw_240) dX11_write_45 (fun h13 => ?_)
      refine gw_get0 F (so_20 hst) (by decide) rfl sg_lay_RX2 (j := 2) (by decide) rfl (.inr kw_230) dX11_write_48 (fun h14 => ?_)
      refine gw_iconst F dX11_write_51 ?_
      refine gw_isub F rfl dX11_write_52 ?_
      obtain ⟨g15, hf⟩ := hf
      exact gr_HI F g15 hf (by decide) (by decide) dX11_write_53
    · have hf := hf.2 c7
      refine gw_iconst F dX11_write_23 ?_
      exact gr_HI F (by decide) hf (by decide) (by decide) dX11_write_24

theorem dX11_songAt_0 : decode cX11_songAt 0 = .ok (.aload_n 0, 1) := by decide +kernel
theorem dX11_songAt_1 : decode cX11_songAt 1 = .ok (.getfield 74, 3) := by decide +kernel
theorem dX11_songAt_4 : decode cX11_songAt 4 = .ok (.getfield 265, 3) := by decide +kernel
theorem dX11_songAt_7 : decode cX11_songAt 7 = .ok (.iload_n 1, 1) := by decide +kernel
theorem dX11_songAt_8 : decode cX11_songAt 8 = .ok (.invokevirtual 182, 3) := by decide +kernel
theorem dX11_songAt_11 : decode cX11_songAt 11 = .ok (.ireturn, 1) := by decide +kernel
theorem hcX11_songAt : yX11_songAt.cls ≠ "java/lang/invoke/MethodHandle" ∧ yX11_songAt.cls ≠ "java/lang/invoke/VarHandle" ∧ (parseMethodDescriptor yX11_songAt.desc).map (fun d => d.parameters.length) = some 1 := ⟨by decide +kernel, by decide +kernel, by decide +kernel⟩
def fX11_songAt (La : sg_L) (s0 : sg_M) (x1 : Int) (Q : Int → Prop) : Prop := fX4_at La s0 50 x1 (fun u3 => Q u3)
set_option maxHeartbeats 4000000 in
set_option maxRecDepth 100000 in
theorem CX11_songAt {l : Launch} {G : sg_G} {La : sg_L} {s0 : sg_M} (hst : sg_St La) {x1 : Int} (r1 : sg_R x1) {Q : Int → Prop} (hf : fX11_songAt La s0 x1 Q) : sg_C l G yX11_songAt cX11_songAt 2 (some .int) 2 0 0 La s0 [sg_r 0, sg_i x1] (sg_PI La s0 Q) := by
  refine sg_body (by decide +kernel) (Nat.le_of_ble_eq_true rfl) ?_
  intro p e s m args below meth c F hnm
  unfold fX11_songAt at hf
  show sg_W p l e (sg_rm 2 0 0) s m args below meth c (MQ below (sg_Q (some .int) G La s.heap.size (sg_PI La s0 Q)) args s 0 0 (sg_A La s.heap.size)) 2 G (sg_A La s.heap.size) La s0 0 0 0 [(0, sg_r 0), (1, sg_i x1)] []
  refine gw_aload_n F 0 rfl rfl (by decide) dX11_songAt_0 ?_
  refine gw_get7 F (so_0 hst) (by decide) rfl sg_lay_RX11 (j := 9) (by decide) (o1 := 46) (by first | rfl | omega) rfl (host := "") (.inl kw_335) dX11_songAt_1 (fun h1 => ?_)
  refine gw_get3 F (so_46 hst) (by decide) rfl sg_lay_RX6 (j := 2) (by decide) (o1 := 50) (by first | rfl | omega) rfl (.inr kw_315) dX11_songAt_4 (fun h2 => ?_)
  refine gw_iload_n F 1 rfl rfl dX11_songAt_7 ?_
  refine gk_PI F (gc_V F (S := []) (As := [sg_i x1]) (T := TX4) (N := 3) (CX4_at (so_50 hst) r1 hf) (so_50 hst) (by decide) rfl kw_546 kw_97 kw_543 kw_544 kw_545 hcX4_at ⟨by decide, by decide⟩ rfl rfl (Nat.le_of_ble_eq_true rfl) ⟨by decide, by decide⟩ dX11_songAt_8) (fun u3 h4 hf => ?_)
  exact gr_PI F h4 hf (by decide) (by decide) dX11_songAt_11

theorem dX11_forge_0 : decode cX11_forge 0 = .ok (.iload_n 1, 1) := by decide +kernel
theorem dX11_forge_1 : decode cX11_forge 1 = .ok (.iconst 1, 1) := by decide +kernel
theorem dX11_forge_2 : decode cX11_forge 2 = .ok (.if_icmp .lt 20, 3) := by decide +kernel
theorem dX11_forge_5 : decode cX11_forge 5 = .ok (.iload_n 1, 1) := by decide +kernel
theorem dX11_forge_6 : decode cX11_forge 6 = .ok (.bipush 20, 2) := by decide +kernel
theorem dX11_forge_8 : decode cX11_forge 8 = .ok (.if_icmp .gt 14, 3) := by decide +kernel
theorem dX11_forge_11 : decode cX11_forge 11 = .ok (.iload_n 2, 1) := by decide +kernel
theorem dX11_forge_12 : decode cX11_forge 12 = .ok (.iconst 1, 1) := by decide +kernel
theorem dX11_forge_13 : decode cX11_forge 13 = .ok (.if_icmp .lt 9, 3) := by decide +kernel
theorem dX11_forge_16 : decode cX11_forge 16 = .ok (.iload_n 2, 1) := by decide +kernel
theorem dX11_forge_17 : decode cX11_forge 17 = .ok (.bipush 20, 2) := by decide +kernel
theorem dX11_forge_19 : decode cX11_forge 19 = .ok (.if_icmp .le 5, 3) := by decide +kernel
theorem dX11_forge_22 : decode cX11_forge 22 = .ok (.iconst 0, 1) := by decide +kernel
theorem dX11_forge_23 : decode cX11_forge 23 = .ok (.ireturn, 1) := by decide +kernel
theorem dX11_forge_24 : decode cX11_forge 24 = .ok (.new 27, 3) := by decide +kernel
theorem dX11_forge_27 : decode cX11_forge 27 = .ok (.dup, 1) := by decide +kernel
theorem dX11_forge_28 : decode cX11_forge 28 = .ok (.invokespecial 29, 3) := by decide +kernel
theorem dX11_forge_31 : decode cX11_forge 31 = .ok (.astore_n 3, 1) := by decide +kernel
theorem dX11_forge_32 : decode cX11_forge 32 = .ok (.aload_n 3, 1) := by decide +kernel
theorem dX11_forge_33 : decode cX11_forge 33 = .ok (.aload_n 0, 1) := by decide +kernel
theorem dX11_forge_34 : decode cX11_forge 34 = .ok (.getfield 39, 3) := by decide +kernel
theorem dX11_forge_37 : decode cX11_forge 37 = .ok (.getfield 112, 3) := by decide +kernel
theorem dX11_forge_40 : decode cX11_forge 40 = .ok (.invokevirtual 312, 3) := by decide +kernel
theorem dX11_forge_43 : decode cX11_forge 43 = .ok (.aload_n 3, 1) := by decide +kernel
theorem dX11_forge_44 : decode cX11_forge 44 = .ok (.iload_n 1, 1) := by decide +kernel
theorem dX11_forge_45 : decode cX11_forge 45 = .ok (.iload_n 2, 1) := by decide +kernel
theorem dX11_forge_46 : decode cX11_forge 46 = .ok (.invokevirtual 316, 3) := by decide +kernel
theorem dX11_forge_49 : decode cX11_forge 49 = .ok (.aload_n 0, 1) := by decide +kernel
theorem dX11_forge_50 : decode cX11_forge 50 = .ok (.getfield 39, 3) := by decide +kernel
theorem dX11_forge_53 : decode cX11_forge 53 = .ok (.aload_n 3, 1) := by decide +kernel
theorem dX11_forge_54 : decode cX11_forge 54 = .ok (.putfield 112, 3) := by decide +kernel
theorem dX11_forge_57 : decode cX11_forge 57 = .ok (.aload_n 0, 1) := by decide +kernel
theorem dX11_forge_58 : decode cX11_forge 58 = .ok (.invokevirtual 248, 3) := by decide +kernel
theorem dX11_forge_61 : decode cX11_forge 61 = .ok (.iconst 1, 1) := by decide +kernel
theorem dX11_forge_62 : decode cX11_forge 62 = .ok (.ireturn, 1) := by decide +kernel
theorem hcX11_forge : yX11_forge.cls ≠ "java/lang/invoke/MethodHandle" ∧ yX11_forge.cls ≠ "java/lang/invoke/VarHandle" ∧ (parseMethodDescriptor yX11_forge.desc).map (fun d => d.parameters.length) = some 2 := ⟨by decide +kernel, by decide +kernel, by decide +kernel⟩
def fX11_forge (La : sg_L) (s0 : sg_M) (x1 : Int) (x2 : Int) (Q : Int → sg_L → sg_M → Prop) : Prop := ((x1 < 1 → Q 0 La s0) ∧ (¬ (x1 < 1) → ((20 < x1 → Q 0 La s0) ∧ (¬ (20 < x1) → ((x2 < 1 → Q 0 La s0) ∧ (¬ (x2 < 1) → ((x2 ≤ 20 → ∀ (q5 : Nat) (La6 : sg_L), La6 = sg_pu La 21 q5 → ∀ s7 : sg_M, s7 = sg_nw s0 La.1 21 → ∀ o8 : Int, o8 = (La.1 : Int) → fX1_init La6 s7 o8 (fun La17 s18 => (0 ≤ (s18 4 0)) ∧ fX1_copyFrom s18 o8 (s18 4 0) (fun s27 => fX1_thicken s27 o8 x1 x2 (fun s28 => ∀ s30 : sg_M, s30 = sg_up s28 4 0 o8 → fX11_forgetAnswers s30 (fun s32 => Q 1 La17 s32))))) ∧ (¬ (x2 ≤ 20) → Q 0 La s0))))))))
set_option maxHeartbeats 4000000 in
set_option maxRecDepth 100000 in
theorem CX11_forge {l : Launch} {G : sg_G} {La : sg_L} {s0 : sg_M} (hst : sg_St La) {x1 : Int} (r1 : sg_R x1) {x2 : Int} (r2 : sg_R x2) {Q : Int → sg_L → sg_M → Prop} (hf : fX11_forge La s0 x1 x2 Q) : sg_C l G yX11_forge cX11_forge 4 (some .boolean) 3 5 247 La s0 [sg_r 0, sg_i x1, sg_i x2] (sg_BZ La Q) := by
  refine sg_body (by decide +kernel) (Nat.le_of_ble_eq_true rfl) ?_
  intro p e s m args below meth c F hnm
  unfold fX11_forge at hf
  show sg_W p l e (sg_rm 3 5 247) s m args below meth c (MQ below (sg_Q (some .boolean) G La s.heap.size (sg_BZ La Q)) args s 5 247 (sg_A La s.heap.size)) 4 G (sg_A La s.heap.size) La s0 0 0 0 [(0, sg_r 0), (1, sg_i x1), (2, sg_i x2)] []
  refine gw_iload_n F 1 rfl rfl dX11_forge_0 ?_
  refine gw_iconst F dX11_forge_1 ?_
  refine gw_icmp_lt F (tgt := 22) dX11_forge_2 (by decide) r1 (by decide) (fun c1 => ?_) (fun c1 => ?_)
  · have hf := hf.1 c1
    refine gw_iconst F dX11_forge_22 ?_
    exact gr_BZ F (by decide) hf (sg_X.rf) (by decide) (by decide) dX11_forge_23
  · have hf := hf.2 c1
    refine gw_iload_n F 1 rfl rfl dX11_forge_5 ?_
    refine gw_bipush F rfl dX11_forge_6 ?_
    refine gw_icmp_gt F (tgt := 22) dX11_forge_8 (by decide) r1 (by decide) (fun c2 => ?_) (fun c2 => ?_)
    · have hf := hf.1 c2
      refine gw_iconst F dX11_forge_22 ?_
      exact gr_BZ F (by decide) hf (sg_X.rf) (by decide) (by decide) dX11_forge_23
    · have hf := hf.2 c2
      refine gw_iload_n F 2 rfl rfl dX11_forge_11 ?_
      refine gw_iconst F dX11_forge_12 ?_
      refine gw_icmp_lt F (tgt := 22) dX11_forge_13 (by decide) r2 (by decide) (fun c3 => ?_) (fun c3 => ?_)
      · have hf := hf.1 c3
        refine gw_iconst F dX11_forge_22 ?_
        exact gr_BZ F (by decide) hf (sg_X.rf) (by decide) (by decide) dX11_forge_23
      · have hf := hf.2 c3
        refine gw_iload_n F 2 rfl rfl dX11_forge_16 ?_
        refine gw_bipush F rfl dX11_forge_17 ?_
        refine gw_icmp_le F (tgt := 24) dX11_forge_19 (by decide) r2 (by decide) (fun c4 => ?_) (fun c4 => ?_)
        · have hf := hf.1 c4
          refine gy_new F (kd := 21) (T := TX1) (by decide) rfl sg_lay_RX1 tyX1_ok kw_152 kw_153 kw_94 ns_X1 nf_X1 nr_X1 (by decide) (by decide) (List.forall_mem_cons.mpr ⟨(Or.inl (so_0 hst).2.1), (List.forall_mem_cons.mpr ⟨True.intro, (List.forall_mem_cons.mpr ⟨True.intro, (fun _ h => absurd h List.not_mem_nil)⟩)⟩)⟩) (fun _ h => absurd h List.not_mem_nil) dX11_forge_24 (fun q5 La6 s7 o8 e9 e10 e11 t12 hX13 => ?_)
          have hf := hf q5 La6 e9 s7 e10 o8 e11
          have hn14 : La.1 ≤ o8.toNat := by rw [e11, Int.toNat_natCast]; exact (sg_X.rf : sg_X La La).1
          have hst15 := hst.X hX13
          have hX16 := sg_X.tr (sg_X.rf) hX13
          refine gw_dup F rfl dX11_forge_27 ?_
          refine gk_BV F (gc_IN F (S := [sg_r o8]) (As := []) (CX1_init t12 hf) t12.1 kw_156 kw_94 kw_154 kw_155 rfl hcX1_init ⟨by decide, by decide⟩ rfl rfl (Nat.le_of_ble_eq_true rfl) ⟨by decide, by decide⟩ dX11_forge_28) (List.forall_mem_cons.mpr ⟨(Or.inl (so_0 hst15).2.1), (List.forall_mem_cons.mpr ⟨True.intro, (List.forall_mem_cons.mpr ⟨True.intro, (fun _ h => absurd h List.not_mem_nil)⟩)⟩)⟩) (List.forall_mem_cons.mpr ⟨(Or.inl t12.2.1), (fun _ h => absurd h List.not_mem_nil)⟩) (fun La17 s18 hX19 hf => ?_)
          have t20 := (sg_O_sealed t12).X hX19
          have hst21 := (sg_St_sx hst15 t12 ⟨by decide, by decide, by decide⟩).X hX19
          have hX22 := (sg_X_sx (hX16) hn14).tr hX19
          refine gw_astore_n F rfl t20.1 (by decide) rfl dX11_forge_31 ?_
          refine gw_aload_n F 0 rfl rfl t20.1 dX11_forge_32 ?_
          refine gw_aload_n F 1 rfl rfl (by decide) dX11_forge_33 ?_
          refine gw_get7 F (so_0 hst21) (by decide) rfl sg_lay_RX11 (j := 2) (by decide) (o1 := 4) (by first | rfl | omega) rfl (host := "") (.inl kw_328) dX11_forge_34 (fun h23 => ?_)
          refine gw_get4 F (so_4 hst21) (by decide) rfl sg_lay_RX7 (j := 0) (by decide) rfl (.inr kw_234) dX11_forge_37 (fun h24 => ?_)
          obtain ⟨g25, hf⟩ := hf
          have t26 := sg_nn h24 g25
          refine gk_HV F (gc_V F (S := []) (As := [sg_r (s18 4 0)]) (T := TX1) (N := 7) (CX1_copyFrom t20 t26 hf) t20 (by decide) rfl kw_776 kw_94 kw_773 kw_774 kw_775 hcX1_copyFrom ⟨by decide, by decide⟩ rfl rfl (Nat.le_of_ble_eq_true rfl) ⟨by decide, by decide⟩ dX11_forge_40) (fun s27 hf => ?_)
          refine gw_aload_n F 0 rfl rfl t20.1 dX11_forge_43 ?_
          refine gw_iload_n F 2 rfl rfl dX11_forge_44 ?_
          refine gw_iload_n F 3 rfl rfl dX11_forge_45 ?_
          refine gk_HV F (gc_V F (S := []) (As := [sg_i x1, sg_i x2]) (T := TX1) (N := 7) (CX1_thicken t20 r1 r2 hf) t20 (by decide) rfl kw_780 kw_94 kw_777 kw_778 kw_779 hcX1_thicken ⟨by decide, by decide⟩ rfl rfl (Nat.le_of_ble_eq_true rfl) ⟨by decide, by decide⟩ dX11_forge_46) (fun s28 hf => ?_)
          refine gw_aload_n F 1 rfl rfl (by decide) dX11_forge_49 ?_
          refine gw_get7 F (so_0 hst21) (by decide) rfl sg_lay_RX11 (j := 2) (by decide) (o1 := 4) (by first | rfl | omega) rfl (host := "") (.inl kw_328) dX11_forge_50 (fun h29 => ?_)
          refine gw_aload_n F 0 rfl rfl t20.1 dX11_forge_53 ?_
          obtain ⟨s30, e31⟩ : ∃ z : sg_M, z = sg_up s28 4 0 o8 := ⟨_, rfl⟩
          have hf := hf s30 e31
          refine gw_put4 F (so_4 hst21) (by decide) rfl sg_lay_RX7 (j := 0) (by decide) t20.1 t20 e31 tyX7_ok nmX7 rfl (tyX7_ok 0 (by decide)) rfl (.inr kw_234) dX11_forge_54 ?_
          refine gw_aload_n F 1 rfl rfl (by decide) dX11_forge_57 ?_
          refine gk_HV F (gc_V F (S := []) (As := []) (T := TX11) (N := 19) (CX11_forgetAnswers hst21 hf) (so_0 hst21) (by decide) rfl kw_490 kw_90 kw_488 kw_489 kw_3 hcX11_forgetAnswers ⟨by decide, by decide⟩ rfl rfl (Nat.le_of_ble_eq_true rfl) ⟨by decide, by decide⟩ dX11_forge_58) (fun s32 hf => ?_)
          refine gw_iconst F dX11_forge_61 ?_
          exact gr_BZ F (by decide) hf (hX22) (by decide) (by decide) dX11_forge_62
        · have hf := hf.2 c4
          refine gw_iconst F dX11_forge_22 ?_
          exact gr_BZ F (by decide) hf (sg_X.rf) (by decide) (by decide) dX11_forge_23

theorem dX9_comparison_0 : decode cX9_comparison 0 = .ok (.aload_n 0, 1) := by decide +kernel
theorem dX9_comparison_1 : decode cX9_comparison 1 = .ok (.getfield 22, 3) := by decide +kernel
theorem dX9_comparison_4 : decode cX9_comparison 4 = .ok (.istore_n 1, 1) := by decide +kernel
theorem dX9_comparison_5 : decode cX9_comparison 5 = .ok (.aload_n 0, 1) := by decide +kernel
theorem dX9_comparison_6 : decode cX9_comparison 6 = .ok (.getfield 13, 3) := by decide +kernel
theorem dX9_comparison_9 : decode cX9_comparison 9 = .ok (.iconst 3, 1) := by decide +kernel
theorem dX9_comparison_10 : decode cX9_comparison 10 = .ok (.if_icmp .ne 15, 3) := by decide +kernel
theorem dX9_comparison_13 : decode cX9_comparison 13 = .ok (.iload_n 1, 1) := by decide +kernel
theorem dX9_comparison_14 : decode cX9_comparison 14 = .ok (.bipush 60, 2) := by decide +kernel
theorem dX9_comparison_16 : decode cX9_comparison 16 = .ok (.if_icmp .lt 9, 3) := by decide +kernel
theorem dX9_comparison_19 : decode cX9_comparison 19 = .ok (.iload_n 1, 1) := by decide +kernel
theorem dX9_comparison_20 : decode cX9_comparison 20 = .ok (.bipush 62, 2) := by decide +kernel
theorem dX9_comparison_22 : decode cX9_comparison 22 = .ok (.if_icmp .le 8, 3) := by decide +kernel
theorem dX9_comparison_25 : decode cX9_comparison 25 = .ok (.aload_n 0, 1) := by decide +kernel
theorem dX9_comparison_26 : decode cX9_comparison 26 = .ok (.iconst 1, 1) := by decide +kernel
theorem dX9_comparison_27 : decode cX9_comparison 27 = .ok (.invokevirtual 81, 3) := by decide +kernel
theorem dX9_comparison_30 : decode cX9_comparison 30 = .ok (.aload_n 0, 1) := by decide +kernel
theorem dX9_comparison_31 : decode cX9_comparison 31 = .ok (.getfield 25, 3) := by decide +kernel
theorem dX9_comparison_34 : decode cX9_comparison 34 = .ok (.ifCond .eq 5, 3) := by decide +kernel
theorem dX9_comparison_37 : decode cX9_comparison 37 = .ok (.iconst 0, 1) := by decide +kernel
theorem dX9_comparison_38 : decode cX9_comparison 38 = .ok (.ireturn, 1) := by decide +kernel
theorem dX9_comparison_39 : decode cX9_comparison 39 = .ok (.aload_n 0, 1) := by decide +kernel
theorem dX9_comparison_40 : decode cX9_comparison 40 = .ok (.invokevirtual 35, 3) := by decide +kernel
theorem dX9_comparison_43 : decode cX9_comparison 43 = .ok (.iload_n 1, 1) := by decide +kernel
theorem dX9_comparison_44 : decode cX9_comparison 44 = .ok (.ireturn, 1) := by decide +kernel
theorem hcX9_comparison : yX9_comparison.cls ≠ "java/lang/invoke/MethodHandle" ∧ yX9_comparison.cls ≠ "java/lang/invoke/VarHandle" ∧ (parseMethodDescriptor yX9_comparison.desc).map (fun d => d.parameters.length) = some 0 := ⟨by decide +kernel, by decide +kernel, by decide +kernel⟩
def fX9_comparison_j30 (s0 : sg_M) (Q : Int → sg_M → Prop) (s_30 : sg_M) : Prop := (((s_30 3 6) = 0 → fX9_advance s_30 (fun s5 => Q (s0 3 5) s5)) ∧ (¬ ((s_30 3 6) = 0) → Q 0 s_30))
def fX9_comparison_j25 (s0 : sg_M) (k30 : sg_M → Prop)  : Prop := fX9_fail s0 1 (fun s6 => k30 s6)
def fX9_comparison (s0 : sg_M) (Q : Int → sg_M → Prop) : Prop := (((s0 3 2) ≠ 3 → (fX9_comparison_j25 s0 (fX9_comparison_j30 s0 Q))) ∧ ((s0 3 2) = 3 → (((s0 3 5) < 60 → (fX9_comparison_j25 s0 (fX9_comparison_j30 s0 Q))) ∧ (¬ ((s0 3 5) < 60) → (((s0 3 5) ≤ 62 → (fX9_comparison_j30 s0 Q) s0) ∧ (¬ ((s0 3 5) ≤ 62) → (fX9_comparison_j25 s0 (fX9_comparison_j30 s0 Q))))))))
set_option maxHeartbeats 4000000 in
set_option maxRecDepth 100000 in
theorem CX9_comparison {l : Launch} {G : sg_G} {La : sg_L} {s0 : sg_M} (hst : sg_St La) {Q : Int → sg_M → Prop} (hf : fX9_comparison s0 Q) : sg_C l G yX9_comparison cX9_comparison 2 (some .int) 3 0 0 La s0 [sg_r 3] (sg_HI La Q) := by
  refine sg_body (by decide +kernel) (Nat.le_of_ble_eq_true rfl) ?_
  intro p e s m args below meth c F hnm
  unfold fX9_comparison at hf
  show sg_W p l e (sg_rm 3 0 0) s m args below meth c (MQ below (sg_Q (some .int) G La s.heap.size (sg_HI La Q)) args s 0 0 (sg_A La s.heap.size)) 2 G (sg_A La s.heap.size) La s0 0 0 0 [(0, sg_r 3)] []
  refine gw_aload_n F 0 rfl rfl (by decide) dX9_comparison_0 ?_
  refine gw_get0 F (so_3 hst) (by decide) rfl sg_lay_RX9 (j := 5) (by decide) rfl (host := "") (.inl kw_143) dX9_comparison_1 (fun h1 => ?_)
  refine gw_istore_n F rfl (by decide) rfl dX9_comparison_4 ?_
  refine gw_aload_n F 1 rfl rfl (by decide) dX9_comparison_5 ?_
  refine gw_get0 F (so_3 hst) (by decide) rfl sg_lay_RX9 (j := 2) (by decide) rfl (host := "") (.inl kw_140) dX9_comparison_6 (fun h2 => ?_)
  refine gw_iconst F dX9_comparison_9 ?_
  have J30 : ∀ (s_30 : sg_M), (fX9_comparison_j30 s0 Q) s_30 → sg_W p l e (sg_rm 3 0 0) s m args below meth c (MQ below (sg_Q (some .int) G La s.heap.size (sg_HI La Q)) args s 0 0 (sg_A La s.heap.size)) 2 G (sg_A La s.heap.size) La s_30 0 0 30 [(0, sg_r 3), (1, sg_i (s0 3 5))] [] := by
    intro s_30 hf
    unfold fX9_comparison_j30 at hf
    refine gw_aload_n F 0 rfl rfl (by decide) dX9_comparison_30 ?_
    refine gw_get0 F (so_3 hst) (by decide) rfl sg_lay_RX9 (j := 6) (by decide) rfl (host := "") (.inl kw_144) dX9_comparison_31 (fun h3 => ?_)
    refine gw_if_eq F (tgt := 39) dX9_comparison_34 (by decide) h3 (fun c4 => ?_) (fun c4 => ?_)
    · have hf := hf.1 c4
      refine gw_aload_n F 0 rfl rfl (by decide) dX9_comparison_39 ?_
      refine gk_HV F (gc_V F (S := []) (As := []) (T := TX9) (N := 8) (CX9_advance hst hf) (so_3 hst) (by decide) rfl kw_368 kw_92 kw_365 kw_366 kw_367 hcX9_advance ⟨by decide, by decide⟩ rfl rfl (Nat.le_of_ble_eq_true rfl) ⟨by decide, by decide⟩ dX9_comparison_40) (fun s5 hf => ?_)
      refine gw_iload_n F 1 rfl rfl dX9_comparison_43 ?_
      exact gr_HI F h1 hf (by decide) (by decide) dX9_comparison_44
    · have hf := hf.2 c4
      refine gw_iconst F dX9_comparison_37 ?_
      exact gr_HI F (by decide) hf (by decide) (by decide) dX9_comparison_38
  have J25 : (fX9_comparison_j25 s0 (fX9_comparison_j30 s0 Q)) → sg_W p l e (sg_rm 3 0 0) s m args below meth c (MQ below (sg_Q (some .int) G La s.heap.size (sg_HI La Q)) args s 0 0 (sg_A La s.heap.size)) 2 G (sg_A La s.heap.size) La s0 0 0 25 [(0, sg_r 3), (1, sg_i (s0 3 5))] [] := by
    intro hf
    unfold fX9_comparison_j25 at hf
    refine gw_aload_n F 0 rfl rfl (by decide) dX9_comparison_25 ?_
    refine gw_iconst F dX9_comparison_26 ?_
    refine gk_HV F (gc_V F (S := []) (As := [sg_i 1]) (T := TX9) (N := 8) (CX9_fail hst (by decide) hf) (so_3 hst) (by decide) rfl kw_457 kw_92 kw_454 kw_455 kw_456 hcX9_fail ⟨by decide, by decide⟩ rfl rfl (Nat.le_of_ble_eq_true rfl) ⟨by decide, by decide⟩ dX9_comparison_27) (fun s6 hf => ?_)
    refine gw_sub [0, 1] rfl ?_
    exact J30 s6 hf
  refine gw_icmp_ne F (tgt := 25) dX9_comparison_10 (by decide) h2 (by decide) (fun c7 => ?_) (fun c7 => ?_)
  · have hf := hf.1 c7
    refine gw_sub [1, 0] rfl ?_
    exact J25  hf
  · have hf := hf.2 c7
    refine gw_iload_n F 0 rfl rfl dX9_comparison_13 ?_
    refine gw_bipush F rfl dX9_comparison_14 ?_
    refine gw_icmp_lt F (tgt := 25) dX9_comparison_16 (by decide) h1 (by decide) (fun c8 => ?_) (fun c8 => ?_)
    · have hf := hf.1 c8
      refine gw_sub [1, 0] rfl ?_
      exact J25  hf
    · have hf := hf.2 c8
      refine gw_iload_n F 0 rfl rfl dX9_comparison_19 ?_
      refine gw_bipush F rfl dX9_comparison_20 ?_
      refine gw_icmp_le F (tgt := 30) dX9_comparison_22 (by decide) h1 (by decide) (fun c9 => ?_) (fun c9 => ?_)
      · have hf := hf.1 c9
        refine gw_sub [1, 0] rfl ?_
        exact J30 s0 hf
      · have hf := hf.2 c9
        refine gw_sub [1, 0] rfl ?_
        exact J25  hf

theorem dX11_image_0 : decode cX11_image 0 = .ok (.iload_n 1, 1) := by decide +kernel
theorem dX11_image_1 : decode cX11_image 1 = .ok (.ifCond .lt 8, 3) := by decide +kernel
theorem dX11_image_4 : decode cX11_image 4 = .ok (.iload_n 1, 1) := by decide +kernel
theorem dX11_image_5 : decode cX11_image 5 = .ok (.iconst 2, 1) := by decide +kernel
theorem dX11_image_6 : decode cX11_image 6 = .ok (.if_icmp .lt 5, 3) := by decide +kernel
theorem dX11_image_9 : decode cX11_image 9 = .ok (.iconst 0, 1) := by decide +kernel
theorem dX11_image_10 : decode cX11_image 10 = .ok (.ireturn, 1) := by decide +kernel
theorem dX11_image_11 : decode cX11_image 11 = .ok (.aload_n 0, 1) := by decide +kernel
theorem dX11_image_12 : decode cX11_image 12 = .ok (.getfield 43, 3) := by decide +kernel
theorem dX11_image_15 : decode cX11_image 15 = .ok (.iload_n 1, 1) := by decide +kernel
theorem dX11_image_16 : decode cX11_image 16 = .ok (.aaload, 1) := by decide +kernel
theorem dX11_image_17 : decode cX11_image 17 = .ok (.ifnonnull 37, 3) := by decide +kernel
theorem dX11_image_20 : decode cX11_image 20 = .ok (.aload_n 0, 1) := by decide +kernel
theorem dX11_image_21 : decode cX11_image 21 = .ok (.getfield 43, 3) := by decide +kernel
theorem dX11_image_24 : decode cX11_image 24 = .ok (.iload_n 1, 1) := by decide +kernel
theorem dX11_image_25 : decode cX11_image 25 = .ok (.new 25, 3) := by decide +kernel
theorem dX11_image_28 : decode cX11_image 28 = .ok (.dup, 1) := by decide +kernel
theorem dX11_image_29 : decode cX11_image 29 = .ok (.aload_n 0, 1) := by decide +kernel
theorem dX11_image_30 : decode cX11_image 30 = .ok (.getfield 39, 3) := by decide +kernel
theorem dX11_image_33 : decode cX11_image 33 = .ok (.getfield 112, 3) := by decide +kernel
theorem dX11_image_36 : decode cX11_image 36 = .ok (.aload_n 0, 1) := by decide +kernel
theorem dX11_image_37 : decode cX11_image 37 = .ok (.getfield 39, 3) := by decide +kernel
theorem dX11_image_40 : decode cX11_image 40 = .ok (.getfield 212, 3) := by decide +kernel
theorem dX11_image_43 : decode cX11_image 43 = .ok (.aload_n 0, 1) := by decide +kernel
theorem dX11_image_44 : decode cX11_image 44 = .ok (.getfield 39, 3) := by decide +kernel
theorem dX11_image_47 : decode cX11_image 47 = .ok (.getfield 324, 3) := by decide +kernel
theorem dX11_image_50 : decode cX11_image 50 = .ok (.invokespecial 36, 3) := by decide +kernel
theorem dX11_image_53 : decode cX11_image 53 = .ok (.aastore, 1) := by decide +kernel
theorem dX11_image_54 : decode cX11_image 54 = .ok (.aload_n 0, 1) := by decide +kernel
theorem dX11_image_55 : decode cX11_image 55 = .ok (.getfield 43, 3) := by decide +kernel
theorem dX11_image_58 : decode cX11_image 58 = .ok (.iload_n 1, 1) := by decide +kernel
theorem dX11_image_59 : decode cX11_image 59 = .ok (.aaload, 1) := by decide +kernel
theorem dX11_image_60 : decode cX11_image 60 = .ok (.aload_n 0, 1) := by decide +kernel
theorem dX11_image_61 : decode cX11_image 61 = .ok (.getfield 39, 3) := by decide +kernel
theorem dX11_image_64 : decode cX11_image 64 = .ok (.invokevirtual 334, 3) := by decide +kernel
theorem dX11_image_67 : decode cX11_image 67 = .ok (.iconst 1, 1) := by decide +kernel
theorem dX11_image_68 : decode cX11_image 68 = .ok (.ireturn, 1) := by decide +kernel
theorem hcX11_image : yX11_image.cls ≠ "java/lang/invoke/MethodHandle" ∧ yX11_image.cls ≠ "java/lang/invoke/VarHandle" ∧ (parseMethodDescriptor yX11_image.desc).map (fun d => d.parameters.length) = some 1 := ⟨by decide +kernel, by decide +kernel, by decide +kernel⟩
def fX11_image (La : sg_L) (s0 : sg_M) (x1 : Int) (Q : Int → sg_L → sg_M → Prop) : Prop := ((x1 < 0 → Q 0 La s0) ∧ (¬ (x1 < 0) → ((x1 < 2 → (0 ≤ x1 ∧ x1 < 2) ∧ ((0 ≤ (s0 26 x1) → (0 ≤ x1 ∧ x1 < 2) ∧ (0 ≤ (s0 26 x1)) ∧ fX7_copyFrom_B La s0 (s0 26 x1) (fun s14 => Q 1 La s14)) ∧ ((s0 26 x1) < 0 → ∀ (q16 : Nat) (La17 : sg_L), La17 = sg_pu La 47 q16 → ∀ s18 : sg_M, s18 = sg_nw s0 La.1 47 → ∀ o19 : Int, o19 = (La.1 : Int) → (0 ≤ (s18 4 0)) ∧ (0 ≤ (s18 4 1)) ∧ (0 ≤ (s18 4 2)) ∧ fX7_init_B La17 s18 o19 (s18 4 0) (s18 4 1) (s18 4 2) (fun La40 s41 => (0 ≤ x1 ∧ x1 < 2) ∧ ∀ s47 : sg_M, s47 = sg_up s41 26 x1 o19 → (0 ≤ x1 ∧ x1 < 2) ∧ (0 ≤ (s47 26 x1)) ∧ fX7_copyFrom_B La40 s47 (s47 26 x1) (fun s55 => Q 1 La40 s55))))) ∧ (¬ (x1 < 2) → Q 0 La s0))))
set_option maxHeartbeats 4000000 in
set_option maxRecDepth 100000 in
theorem CX11_image {l : Launch} {G : sg_G} {La : sg_L} {s0 : sg_M} (hst : sg_St La) {x1 : Int} (r1 : sg_R x1) {Q : Int → sg_L → sg_M → Prop} (hf : fX11_image La s0 x1 Q) : sg_C l G yX11_image cX11_image 2 (some .boolean) 5 7 418 La s0 [sg_r 0, sg_i x1] (sg_BZ La Q) := by
  refine sg_body (by decide +kernel) (Nat.le_of_ble_eq_true rfl) ?_
  intro p e s m args below meth c F hnm
  unfold fX11_image at hf
  show sg_W p l e (sg_rm 5 7 418) s m args below meth c (MQ below (sg_Q (some .boolean) G La s.heap.size (sg_BZ La Q)) args s 7 418 (sg_A La s.heap.size)) 2 G (sg_A La s.heap.size) La s0 0 0 0 [(0, sg_r 0), (1, sg_i x1)] []
  refine gw_iload_n F 1 rfl rfl dX11_image_0 ?_
  refine gw_if_lt F (tgt := 9) dX11_image_1 (by decide) r1 (fun c1 => ?_) (fun c1 => ?_)
  · have hf := hf.1 c1
    refine gw_iconst F dX11_image_9 ?_
    exact gr_BZ F (by decide) hf (sg_X.rf) (by decide) (by decide) dX11_image_10
  · have hf := hf.2 c1
    refine gw_iload_n F 1 rfl rfl dX11_image_4 ?_
    refine gw_iconst F dX11_image_5 ?_
    refine gw_icmp_lt F (tgt := 11) dX11_image_6 (by decide) r1 (by decide) (fun c2 => ?_) (fun c2 => ?_)
    · have hf := hf.1 c2
      refine gw_aload_n F 0 rfl rfl (by decide) dX11_image_11 ?_
      refine gw_get7 F (so_0 hst) (by decide) rfl sg_lay_RX11 (j := 3) (by decide) (o1 := 26) (by first | rfl | omega) rfl (host := "") (.inl kw_329) dX11_image_12 (fun h3 => ?_)
      refine gw_iload_n F 1 rfl rfl dX11_image_15 ?_
      obtain ⟨⟨b40, b41⟩, hf⟩ := hf
      refine gw_aaldS F (n := 2) (so_26 hst) (by decide) (by decide) (by decide) b40 b41 dX11_image_16 (fun h5 => ?_)
      refine gw_ifnonnull F (tgt := 54) dX11_image_17 (by decide) (fun c6 => ?_) (fun c6 => ?_)
      · have hf := hf.1 c6
        have t7 := sg_nn h5 c6
        refine gw_aload_n F 0 rfl rfl (by decide) dX11_image_54 ?_
        refine gw_get7 F (so_0 hst) (by decide) rfl sg_lay_RX11 (j := 3) (by decide) (o1 := 26) (by first | rfl | omega) rfl (host := "") (.inl kw_329) dX11_image_55 (fun h8 => ?_)
        refine gw_iload_n F 1 rfl rfl dX11_image_58 ?_
        obtain ⟨⟨b90, b91⟩, hf⟩ := hf
        refine gw_aaldS F (n := 2) (so_26 hst) (by decide) (by decide) (by decide) b90 b91 dX11_image_59 (fun h10 => ?_)
        refine gw_aload_n F 0 rfl rfl (by decide) dX11_image_60 ?_
        refine gw_get7 F (so_0 hst) (by decide) rfl sg_lay_RX11 (j := 2) (by decide) (o1 := 4) (by first | rfl | omega) rfl (host := "") (.inl kw_328) dX11_image_61 (fun h11 => ?_)
        obtain ⟨g12, hf⟩ := hf
        have t13 := sg_nn h10 g12
        refine gk_HV F (gc_V F (S := []) (As := [sg_r 4]) (T := TX7) (N := 5) (CX7_copyFrom_B hst t13 hf) t13 (by decide) rfl kw_861 kw_93 kw_858 kw_859 kw_860 hcX7_copyFrom ⟨by decide, by decide⟩ rfl rfl (Nat.le_of_ble_eq_true rfl) ⟨by decide, by decide⟩ dX11_image_64) (fun s14 hf => ?_)
        refine gw_iconst F dX11_image_67 ?_
        exact gr_BZ F (by decide) hf (sg_X.rf) (by decide) (by decide) dX11_image_68
      · have hf := hf.2 c6
        refine gw_aload_n F 0 rfl rfl (by decide) dX11_image_20 ?_
        refine gw_get7 F (so_0 hst) (by decide) rfl sg_lay_RX11 (j := 3) (by decide) (o1 := 26) (by first | rfl | omega) rfl (host := "") (.inl kw_329) dX11_image_21 (fun h15 => ?_)
        refine gw_iload_n F 1 rfl rfl dX11_image_24 ?_
        refine gy_new F (kd := 47) (T := TX7) (by decide) rfl sg_lay_RX7 tyX7_ok kw_150 kw_151 kw_93 ns_X7 nf_X7 nr_X7 (by decide) (by decide) (List.forall_mem_cons.mpr ⟨(Or.inl (so_0 hst).2.1), (List.forall_mem_cons.mpr ⟨True.intro, (fun _ h => absurd h List.not_mem_nil)⟩)⟩) (List.forall_mem_cons.mpr ⟨True.intro, (List.forall_mem_cons.mpr ⟨(Or.inl (so_26 hst).2.1), (fun _ h => absurd h List.not_mem_nil)⟩)⟩) dX11_image_25 (fun q16 La17 s18 o19 e20 e21 e22 t23 hX24 => ?_)
        have hf := hf q16 La17 e20 s18 e21 o19 e22
        have hn25 : La.1 ≤ o19.toNat := by rw [e22, Int.toNat_natCast]; exact (sg_X.rf : sg_X La La).1
        have hst26 := hst.X hX24
        have hX27 := sg_X.tr (sg_X.rf) hX24
        refine gw_dup F rfl dX11_image_28 ?_
        refine gw_aload_n F 0 rfl rfl (by decide) dX11_image_29 ?_
        refine gw_get7 F (so_0 hst26) (by decide) rfl sg_lay_RX11 (j := 2) (by decide) (o1 := 4) (by first | rfl | omega) rfl (host := "") (.inl kw_328) dX11_image_30 (fun h28 => ?_)
        refine gw_get4 F (so_4 hst26) (by decide) rfl sg_lay_RX7 (j := 0) (by decide) rfl (.inr kw_234) dX11_image_33 (fun h29 => ?_)
        refine gw_aload_n F 0 rfl rfl (by decide) dX11_image_36 ?_
        refine gw_get7 F (so_0 hst26) (by decide) rfl sg_lay_RX11 (j := 2) (by decide) (o1 := 4) (by first | rfl | omega) rfl (host := "") (.inl kw_328) dX11_image_37 (fun h30 => ?_)
        refine gw_get4 F (so_4 hst26) (by decide) rfl sg_lay_RX7 (j := 1) (by decide) rfl (.inr kw_236) dX11_image_40 (fun h31 => ?_)
        refine gw_aload_n F 0 rfl rfl (by decide) dX11_image_43 ?_
        refine gw_get7 F (so_0 hst26) (by decide) rfl sg_lay_RX11 (j := 2) (by decide) (o1 := 4) (by first | rfl | omega) rfl (host := "") (.inl kw_328) dX11_image_44 (fun h32 => ?_)
        refine gw_get4 F (so_4 hst26) (by decide) rfl sg_lay_RX7 (j := 2) (by decide) rfl (.inr kw_238) dX11_image_47 (fun h33 => ?_)
        obtain ⟨g34, hf⟩ := hf
        have t35 := sg_nn h29 g34
        obtain ⟨g36, hf⟩ := hf
        have t37 := sg_nn h31 g36
        obtain ⟨g38, hf⟩ := hf
        have t39 := sg_nn h33 g38
        refine gk_BV F (gc_I F (S := [sg_r o19, sg_i x1, sg_r 26]) (As := [sg_r (s18 4 0), sg_r (s18 4 1), sg_r (s18 4 2)]) (CX7_init_B t23 t35 t37 t39 hf) t23.1 kw_214 kw_93 kw_212 kw_213 rfl hcX7_init ⟨by decide, by decide⟩ rfl rfl (Nat.le_of_ble_eq_true rfl) ⟨by decide, by decide⟩ dX11_image_50) (List.forall_mem_cons.mpr ⟨(Or.inl (so_0 hst26).2.1), (List.forall_mem_cons.mpr ⟨True.intro, (fun _ h => absurd h List.not_mem_nil)⟩)⟩) (List.forall_mem_cons.mpr ⟨(Or.inl t23.2.1), (List.forall_mem_cons.mpr ⟨True.intro, (List.forall_mem_cons.mpr ⟨(Or.inl (so_26 hst26).2.1), (fun _ h => absurd h List.not_mem_nil)⟩)⟩)⟩) (fun La40 s41 hX42 hf => ?_)
        have t43 := (sg_O_sealed t23).X hX42
        have hst44 := (sg_St_sx hst26 t23 ⟨by decide, by decide, by decide⟩).X hX42
        have hX45 := (sg_X_sx (hX27) hn25).tr hX42
        obtain ⟨⟨b460, b461⟩, hf⟩ := hf
        obtain ⟨s47, e48⟩ : ∃ z : sg_M, z = sg_up s41 26 x1 o19 := ⟨_, rfl⟩
        have hf := hf s47 e48
        refine gw_aastS F (n := 2) (so_26 hst44) (by decide) (by decide) (by decide) b460 b461 t43 e48 dX11_image_53 ?_
        refine gw_aload_n F 0 rfl rfl (by decide) dX11_image_54 ?_
        refine gw_get7 F (so_0 hst44) (by decide) rfl sg_lay_RX11 (j := 3) (by decide) (o1 := 26) (by first | rfl | omega) rfl (host := "") (.inl kw_329) dX11_image_55 (fun h49 => ?_)
        refine gw_iload_n F 1 rfl rfl dX11_image_58 ?_
        obtain ⟨⟨b500, b501⟩, hf⟩ := hf
        refine gw_aaldS F (n := 2) (so_26 hst44) (by decide) (by decide) (by decide) b500 b501 dX11_image_59 (fun h51 => ?_)
        refine gw_aload_n F 0 rfl rfl (by decide) dX11_image_60 ?_
        refine gw_get7 F (so_0 hst44) (by decide) rfl sg_lay_RX11 (j := 2) (by decide) (o1 := 4) (by first | rfl | omega) rfl (host := "") (.inl kw_328) dX11_image_61 (fun h52 => ?_)
        obtain ⟨g53, hf⟩ := hf
        have t54 := sg_nn h51 g53
        refine gk_HV F (gc_V F (S := []) (As := [sg_r 4]) (T := TX7) (N := 5) (CX7_copyFrom_B hst44 t54 hf) t54 (by decide) rfl kw_861 kw_93 kw_858 kw_859 kw_860 hcX7_copyFrom ⟨by decide, by decide⟩ rfl rfl (Nat.le_of_ble_eq_true rfl) ⟨by decide, by decide⟩ dX11_image_64) (fun s55 hf => ?_)
        refine gw_iconst F dX11_image_67 ?_
        exact gr_BZ F (by decide) hf (hX45) (by decide) (by decide) dX11_image_68
    · have hf := hf.2 c2
      refine gw_iconst F dX11_image_9 ?_
      exact gr_BZ F (by decide) hf (sg_X.rf) (by decide) (by decide) dX11_image_10

theorem dX5_leafAt_0 : decode cX5_leafAt 0 = .ok (.aload_n 0, 1) := by decide +kernel
theorem dX5_leafAt_1 : decode cX5_leafAt 1 = .ok (.ldc 91, 2) := by decide +kernel
theorem dX5_leafAt_3 : decode cX5_leafAt 3 = .ok (.invokevirtual 67, 3) := by decide +kernel
theorem dX5_leafAt_6 : decode cX5_leafAt 6 = .ok (.ifCond .eq 5, 3) := by decide +kernel
theorem dX5_leafAt_9 : decode cX5_leafAt 9 = .ok (.iconst 0, 1) := by decide +kernel
theorem dX5_leafAt_10 : decode cX5_leafAt 10 = .ok (.ireturn, 1) := by decide +kernel
theorem dX5_leafAt_11 : decode cX5_leafAt 11 = .ok (.aload_n 0, 1) := by decide +kernel
theorem dX5_leafAt_12 : decode cX5_leafAt 12 = .ok (.ldc 93, 2) := by decide +kernel
theorem dX5_leafAt_14 : decode cX5_leafAt 14 = .ok (.invokevirtual 67, 3) := by decide +kernel
theorem dX5_leafAt_17 : decode cX5_leafAt 17 = .ok (.ifCond .eq 5, 3) := by decide +kernel
theorem dX5_leafAt_20 : decode cX5_leafAt 20 = .ok (.iconst 1, 1) := by decide +kernel
theorem dX5_leafAt_21 : decode cX5_leafAt 21 = .ok (.ireturn, 1) := by decide +kernel
theorem dX5_leafAt_22 : decode cX5_leafAt 22 = .ok (.aload_n 0, 1) := by decide +kernel
theorem dX5_leafAt_23 : decode cX5_leafAt 23 = .ok (.ldc 95, 2) := by decide +kernel
theorem dX5_leafAt_25 : decode cX5_leafAt 25 = .ok (.invokevirtual 67, 3) := by decide +kernel
theorem dX5_leafAt_28 : decode cX5_leafAt 28 = .ok (.ifCond .eq 5, 3) := by decide +kernel
theorem dX5_leafAt_31 : decode cX5_leafAt 31 = .ok (.iconst 2, 1) := by decide +kernel
theorem dX5_leafAt_32 : decode cX5_leafAt 32 = .ok (.ireturn, 1) := by decide +kernel
theorem dX5_leafAt_33 : decode cX5_leafAt 33 = .ok (.aload_n 0, 1) := by decide +kernel
theorem dX5_leafAt_34 : decode cX5_leafAt 34 = .ok (.ldc 97, 2) := by decide +kernel
theorem dX5_leafAt_36 : decode cX5_leafAt 36 = .ok (.invokevirtual 67, 3) := by decide +kernel
theorem dX5_leafAt_39 : decode cX5_leafAt 39 = .ok (.ifCond .eq 5, 3) := by decide +kernel
theorem dX5_leafAt_42 : decode cX5_leafAt 42 = .ok (.iconst 3, 1) := by decide +kernel
theorem dX5_leafAt_43 : decode cX5_leafAt 43 = .ok (.ireturn, 1) := by decide +kernel
theorem dX5_leafAt_44 : decode cX5_leafAt 44 = .ok (.aload_n 0, 1) := by decide +kernel
theorem dX5_leafAt_45 : decode cX5_leafAt 45 = .ok (.ldc 99, 2) := by decide +kernel
theorem dX5_leafAt_47 : decode cX5_leafAt 47 = .ok (.invokevirtual 67, 3) := by decide +kernel
theorem dX5_leafAt_50 : decode cX5_leafAt 50 = .ok (.ifCond .eq 5, 3) := by decide +kernel
theorem dX5_leafAt_53 : decode cX5_leafAt 53 = .ok (.iconst 4, 1) := by decide +kernel
theorem dX5_leafAt_54 : decode cX5_leafAt 54 = .ok (.ireturn, 1) := by decide +kernel
theorem dX5_leafAt_55 : decode cX5_leafAt 55 = .ok (.aload_n 0, 1) := by decide +kernel
theorem dX5_leafAt_56 : decode cX5_leafAt 56 = .ok (.ldc 101, 2) := by decide +kernel
theorem dX5_leafAt_58 : decode cX5_leafAt 58 = .ok (.invokevirtual 67, 3) := by decide +kernel
theorem dX5_leafAt_61 : decode cX5_leafAt 61 = .ok (.ifCond .eq 5, 3) := by decide +kernel
theorem dX5_leafAt_64 : decode cX5_leafAt 64 = .ok (.iconst 5, 1) := by decide +kernel
theorem dX5_leafAt_65 : decode cX5_leafAt 65 = .ok (.ireturn, 1) := by decide +kernel
theorem dX5_leafAt_66 : decode cX5_leafAt 66 = .ok (.aload_n 0, 1) := by decide +kernel
theorem dX5_leafAt_67 : decode cX5_leafAt 67 = .ok (.ldc 103, 2) := by decide +kernel
theorem dX5_leafAt_69 : decode cX5_leafAt 69 = .ok (.invokevirtual 67, 3) := by decide +kernel
theorem dX5_leafAt_72 : decode cX5_leafAt 72 = .ok (.ifCond .eq 6, 3) := by decide +kernel
theorem dX5_leafAt_75 : decode cX5_leafAt 75 = .ok (.bipush 6, 2) := by decide +kernel
theorem dX5_leafAt_77 : decode cX5_leafAt 77 = .ok (.ireturn, 1) := by decide +kernel
theorem dX5_leafAt_78 : decode cX5_leafAt 78 = .ok (.aload_n 0, 1) := by decide +kernel
theorem dX5_leafAt_79 : decode cX5_leafAt 79 = .ok (.ldc 105, 2) := by decide +kernel
theorem dX5_leafAt_81 : decode cX5_leafAt 81 = .ok (.invokevirtual 67, 3) := by decide +kernel
theorem dX5_leafAt_84 : decode cX5_leafAt 84 = .ok (.ifCond .eq 6, 3) := by decide +kernel
theorem dX5_leafAt_87 : decode cX5_leafAt 87 = .ok (.bipush 7, 2) := by decide +kernel
theorem dX5_leafAt_89 : decode cX5_leafAt 89 = .ok (.ireturn, 1) := by decide +kernel
theorem dX5_leafAt_90 : decode cX5_leafAt 90 = .ok (.aload_n 0, 1) := by decide +kernel
theorem dX5_leafAt_91 : decode cX5_leafAt 91 = .ok (.ldc 107, 2) := by decide +kernel
theorem dX5_leafAt_93 : decode cX5_leafAt 93 = .ok (.invokevirtual 67, 3) := by decide +kernel
theorem dX5_leafAt_96 : decode cX5_leafAt 96 = .ok (.ifCond .eq 8, 3) := by decide +kernel
theorem dX5_leafAt_99 : decode cX5_leafAt 99 = .ok (.bipush 8, 2) := by decide +kernel
theorem dX5_leafAt_101 : decode cX5_leafAt 101 = .ok (.goto 4, 3) := by decide +kernel
theorem dX5_leafAt_104 : decode cX5_leafAt 104 = .ok (.iconst (-1), 1) := by decide +kernel
theorem dX5_leafAt_105 : decode cX5_leafAt 105 = .ok (.ireturn, 1) := by decide +kernel
theorem hcX5_leafAt : yX5_leafAt.cls ≠ "java/lang/invoke/MethodHandle" ∧ yX5_leafAt.cls ≠ "java/lang/invoke/VarHandle" ∧ (parseMethodDescriptor yX5_leafAt.desc).map (fun d => d.parameters.length) = some 1 := ⟨by decide +kernel, by decide +kernel, by decide +kernel⟩
def fX5_leafAt (s0 : sg_M) (Q : Int → Prop) : Prop := fX9_isWord s0 10 (fun u1 => ((u1 = 0 → fX9_isWord s0 11 (fun u4 => ((u4 = 0 → fX9_isWord s0 12 (fun u7 => ((u7 = 0 → fX9_isWord s0 13 (fun u10 => ((u10 = 0 → fX9_isWord s0 14 (fun u13 => ((u13 = 0 → fX9_isWord s0 15 (fun u16 => ((u16 = 0 → fX9_isWord s0 16 (fun u19 => ((u19 = 0 → fX9_isWord s0 17 (fun u22 => ((u22 = 0 → fX9_isWord s0 18 (fun u25 => ((u25 = 0 → Q (-1)) ∧ (¬ (u25 = 0) → Q 8)))) ∧ (¬ (u22 = 0) → Q 7)))) ∧ (¬ (u19 = 0) → Q 6)))) ∧ (¬ (u16 = 0) → Q 5)))) ∧ (¬ (u13 = 0) → Q 4)))) ∧ (¬ (u10 = 0) → Q 3)))) ∧ (¬ (u7 = 0) → Q 2)))) ∧ (¬ (u4 = 0) → Q 1)))) ∧ (¬ (u1 = 0) → Q 0)))
set_option maxHeartbeats 4000000 in
set_option maxRecDepth 100000 in
theorem CX5_leafAt {l : Launch} {G : sg_G} {La : sg_L} {s0 : sg_M} (hst : sg_St La) {Q : Int → Prop} (hf : fX5_leafAt s0 Q) : sg_C l G yX5_leafAt cX5_leafAt 1 (some .int) 6 0 0 La s0 [sg_r 3] (sg_PI La s0 Q) := by
  refine sg_body (by decide +kernel) (Nat.le_of_ble_eq_true rfl) ?_
  intro p e s m args below meth c F hnm
  unfold fX5_leafAt at hf
  show sg_W p l e (sg_rm 6 0 0) s m args below meth c (MQ below (sg_Q (some .int) G La s.heap.size (sg_PI La s0 Q)) args s 0 0 (sg_A La s.heap.size)) 1 G (sg_A La s.heap.size) La s0 0 0 0 [(0, sg_r 3)] []
  refine gw_aload_n F 0 rfl rfl (by decide) dX5_leafAt_0 ?_
  refine gw_ldcS F (i := 10) rfl dX5_leafAt_1 ?_
  refine gk_PZ F (gc_V F (S := []) (As := [sg_a (G.2.2.1 10)]) (T := TX9) (N := 8) (CX9_isWord hst (by decide) hf) (so_3 hst) (by decide) rfl kw_403 kw_92 kw_812 kw_401 kw_402 hcX9_isWord ⟨by decide, by decide⟩ rfl rfl (Nat.le_of_ble_eq_true rfl) ⟨by decide, by decide⟩ dX5_leafAt_3) (fun u1 h2 hf => ?_)
  refine gw_if_eq F (tgt := 11) dX5_leafAt_6 (by decide) (sg_B_R h2) (fun c3 => ?_) (fun c3 => ?_)
  · have hf := hf.1 c3
    refine gw_aload_n F 0 rfl rfl (by decide) dX5_leafAt_11 ?_
    refine gw_ldcS F (i := 11) rfl dX5_leafAt_12 ?_
    refine gk_PZ F (gc_V F (S := []) (As := [sg_a (G.2.2.1 11)]) (T := TX9) (N := 8) (CX9_isWord hst (by decide) hf) (so_3 hst) (by decide) rfl kw_403 kw_92 kw_812 kw_401 kw_402 hcX9_isWord ⟨by decide, by decide⟩ rfl rfl (Nat.le_of_ble_eq_true rfl) ⟨by decide, by decide⟩ dX5_leafAt_14) (fun u4 h5 hf => ?_)
    refine gw_if_eq F (tgt := 22) dX5_leafAt_17 (by decide) (sg_B_R h5) (fun c6 => ?_) (fun c6 => ?_)
    · have hf := hf.1 c6
      refine gw_aload_n F 0 rfl rfl (by decide) dX5_leafAt_22 ?_
      refine gw_ldcS F (i := 12) rfl dX5_leafAt_23 ?_
      refine gk_PZ F (gc_V F (S := []) (As := [sg_a (G.2.2.1 12)]) (T := TX9) (N := 8) (CX9_isWord hst (by decide) hf) (so_3 hst) (by decide) rfl kw_403 kw_92 kw_812 kw_401 kw_402 hcX9_isWord ⟨by decide, by decide⟩ rfl rfl (Nat.le_of_ble_eq_true rfl) ⟨by decide, by decide⟩ dX5_leafAt_25) (fun u7 h8 hf => ?_)
      refine gw_if_eq F (tgt := 33) dX5_leafAt_28 (by decide) (sg_B_R h8) (fun c9 => ?_) (fun c9 => ?_)
      · have hf := hf.1 c9
        refine gw_aload_n F 0 rfl rfl (by decide) dX5_leafAt_33 ?_
        refine gw_ldcS F (i := 13) rfl dX5_leafAt_34 ?_
        refine gk_PZ F (gc_V F (S := []) (As := [sg_a (G.2.2.1 13)]) (T := TX9) (N := 8) (CX9_isWord hst (by decide) hf) (so_3 hst) (by decide) rfl kw_403 kw_92 kw_812 kw_401 kw_402 hcX9_isWord ⟨by decide, by decide⟩ rfl rfl (Nat.le_of_ble_eq_true rfl) ⟨by decide, by decide⟩ dX5_leafAt_36) (fun u10 h11 hf => ?_)
        refine gw_if_eq F (tgt := 44) dX5_leafAt_39 (by decide) (sg_B_R h11) (fun c12 => ?_) (fun c12 => ?_)
        · have hf := hf.1 c12
          refine gw_aload_n F 0 rfl rfl (by decide) dX5_leafAt_44 ?_
          refine gw_ldcS F (i := 14) rfl dX5_leafAt_45 ?_
          refine gk_PZ F (gc_V F (S := []) (As := [sg_a (G.2.2.1 14)]) (T := TX9) (N := 8) (CX9_isWord hst (by decide) hf) (so_3 hst) (by decide) rfl kw_403 kw_92 kw_812 kw_401 kw_402 hcX9_isWord ⟨by decide, by decide⟩ rfl rfl (Nat.le_of_ble_eq_true rfl) ⟨by decide, by decide⟩ dX5_leafAt_47) (fun u13 h14 hf => ?_)
          refine gw_if_eq F (tgt := 55) dX5_leafAt_50 (by decide) (sg_B_R h14) (fun c15 => ?_) (fun c15 => ?_)
          · have hf := hf.1 c15
            refine gw_aload_n F 0 rfl rfl (by decide) dX5_leafAt_55 ?_
            refine gw_ldcS F (i := 15) rfl dX5_leafAt_56 ?_
            refine gk_PZ F (gc_V F (S := []) (As := [sg_a (G.2.2.1 15)]) (T := TX9) (N := 8) (CX9_isWord hst (by decide) hf) (so_3 hst) (by decide) rfl kw_403 kw_92 kw_812 kw_401 kw_402 hcX9_isWord ⟨by decide, by decide⟩ rfl rfl (Nat.le_of_ble_eq_true rfl) ⟨by decide, by decide⟩ dX5_leafAt_58) (fun u16 h17 hf => ?_)
            refine gw_if_eq F (tgt := 66) dX5_leafAt_61 (by decide) (sg_B_R h17) (fun c18 => ?_) (fun c18 => ?_)
            · have hf := hf.1 c18
              refine gw_aload_n F 0 rfl rfl (by decide) dX5_leafAt_66 ?_
              refine gw_ldcS F (i := 16) rfl dX5_leafAt_67 ?_
              refine gk_PZ F (gc_V F (S := []) (As := [sg_a (G.2.2.1 16)]) (T := TX9) (N := 8) (CX9_isWord hst (by decide) hf) (so_3 hst) (by decide) rfl kw_403 kw_92 kw_812 kw_401 kw_402 hcX9_isWord ⟨by decide, by decide⟩ rfl rfl (Nat.le_of_ble_eq_true rfl) ⟨by decide, by decide⟩ dX5_leafAt_69) (fun u19 h20 hf => ?_)
              refine gw_if_eq F (tgt := 78) dX5_leafAt_72 (by decide) (sg_B_R h20) (fun c21 => ?_) (fun c21 => ?_)
              · have hf := hf.1 c21
                refine gw_aload_n F 0 rfl rfl (by decide) dX5_leafAt_78 ?_
                refine gw_ldcS F (i := 17) rfl dX5_leafAt_79 ?_
                refine gk_PZ F (gc_V F (S := []) (As := [sg_a (G.2.2.1 17)]) (T := TX9) (N := 8) (CX9_isWord hst (by decide) hf) (so_3 hst) (by decide) rfl kw_403 kw_92 kw_812 kw_401 kw_402 hcX9_isWord ⟨by decide, by decide⟩ rfl rfl (Nat.le_of_ble_eq_true rfl) ⟨by decide, by decide⟩ dX5_leafAt_81) (fun u22 h23 hf => ?_)
                refine gw_if_eq F (tgt := 90) dX5_leafAt_84 (by decide) (sg_B_R h23) (fun c24 => ?_) (fun c24 => ?_)
                · have hf := hf.1 c24
                  refine gw_aload_n F 0 rfl rfl (by decide) dX5_leafAt_90 ?_
                  refine gw_ldcS F (i := 18) rfl dX5_leafAt_91 ?_
                  refine gk_PZ F (gc_V F (S := []) (As := [sg_a (G.2.2.1 18)]) (T := TX9) (N := 8) (CX9_isWord hst (by decide) hf) (so_3 hst) (by decide) rfl kw_403 kw_92 kw_812 kw_401 kw_402 hcX9_isWord ⟨by decide, by decide⟩ rfl rfl (Nat.le_of_ble_eq_true rfl) ⟨by decide, by decide⟩ dX5_leafAt_93) (fun u25 h26 hf => ?_)
                  refine gw_if_eq F (tgt := 104) dX5_leafAt_96 (by decide) (sg_B_R h26) (fun c27 => ?_) (fun c27 => ?_)
                  · have hf := hf.1 c27
                    refine gw_iconst F dX5_leafAt_104 ?_
                    exact gr_PI F (by decide) hf (by decide) (by decide) dX5_leafAt_105
                  · have hf := hf.2 c27
                    refine gw_bipush F rfl dX5_leafAt_99 ?_
                    refine gw_goto F (tgt := 105) dX5_leafAt_101 (by decide) ?_
                    exact gr_PI F (by decide) hf (by decide) (by decide) dX5_leafAt_105
                · have hf := hf.2 c24
                  refine gw_bipush F rfl dX5_leafAt_87 ?_
                  exact gr_PI F (by decide) hf (by decide) (by decide) dX5_leafAt_89
              · have hf := hf.2 c21
                refine gw_bipush F rfl dX5_leafAt_75 ?_
                exact gr_PI F (by decide) hf (by decide) (by decide) dX5_leafAt_77
            · have hf := hf.2 c18
              refine gw_iconst F dX5_leafAt_64 ?_
              exact gr_PI F (by decide) hf (by decide) (by decide) dX5_leafAt_65
          · have hf := hf.2 c15
            refine gw_iconst F dX5_leafAt_53 ?_
            exact gr_PI F (by decide) hf (by decide) (by decide) dX5_leafAt_54
        · have hf := hf.2 c12
          refine gw_iconst F dX5_leafAt_42 ?_
          exact gr_PI F (by decide) hf (by decide) (by decide) dX5_leafAt_43
      · have hf := hf.2 c9
        refine gw_iconst F dX5_leafAt_31 ?_
        exact gr_PI F (by decide) hf (by decide) (by decide) dX5_leafAt_32
    · have hf := hf.2 c6
      refine gw_iconst F dX5_leafAt_20 ?_
      exact gr_PI F (by decide) hf (by decide) (by decide) dX5_leafAt_21
  · have hf := hf.2 c3
    refine gw_iconst F dX5_leafAt_9 ?_
    exact gr_PI F (by decide) hf (by decide) (by decide) dX5_leafAt_10

theorem dX11_tremble_0 : decode cX11_tremble 0 = .ok (.iload_n 1, 1) := by decide +kernel
theorem dX11_tremble_1 : decode cX11_tremble 1 = .ok (.iload_n 2, 1) := by decide +kernel
theorem dX11_tremble_2 : decode cX11_tremble 2 = .ok (.invokestatic 158, 3) := by decide +kernel
theorem dX11_tremble_5 : decode cX11_tremble 5 = .ok (.ifCond .eq 14, 3) := by decide +kernel
theorem dX11_tremble_8 : decode cX11_tremble 8 = .ok (.iload_n 3, 1) := by decide +kernel
theorem dX11_tremble_9 : decode cX11_tremble 9 = .ok (.ifCond .lt 10, 3) := by decide +kernel
theorem dX11_tremble_12 : decode cX11_tremble 12 = .ok (.iload_n 3, 1) := by decide +kernel
theorem dX11_tremble_13 : decode cX11_tremble 13 = .ok (.sipush 999, 3) := by decide +kernel
theorem dX11_tremble_16 : decode cX11_tremble 16 = .ok (.if_icmp .le 5, 3) := by decide +kernel
theorem dX11_tremble_19 : decode cX11_tremble 19 = .ok (.iconst (-1), 1) := by decide +kernel
theorem dX11_tremble_20 : decode cX11_tremble 20 = .ok (.ireturn, 1) := by decide +kernel
theorem dX11_tremble_21 : decode cX11_tremble 21 = .ok (.sipush 2000, 3) := by decide +kernel
theorem dX11_tremble_24 : decode cX11_tremble 24 = .ok (.istore 4, 2) := by decide +kernel
theorem dX11_tremble_26 : decode cX11_tremble 26 = .ok (.iconst 0, 1) := by decide +kernel
theorem dX11_tremble_27 : decode cX11_tremble 27 = .ok (.istore 5, 2) := by decide +kernel
theorem dX11_tremble_29 : decode cX11_tremble 29 = .ok (.iconst (-1), 1) := by decide +kernel
theorem dX11_tremble_30 : decode cX11_tremble 30 = .ok (.istore 6, 2) := by decide +kernel
theorem dX11_tremble_32 : decode cX11_tremble 32 = .ok (.iload 6, 2) := by decide +kernel
theorem dX11_tremble_34 : decode cX11_tremble 34 = .ok (.iconst 1, 1) := by decide +kernel
theorem dX11_tremble_35 : decode cX11_tremble 35 = .ok (.if_icmp .gt 73, 3) := by decide +kernel
theorem dX11_tremble_38 : decode cX11_tremble 38 = .ok (.aload_n 0, 1) := by decide +kernel
theorem dX11_tremble_39 : decode cX11_tremble 39 = .ok (.aload_n 0, 1) := by decide +kernel
theorem dX11_tremble_40 : decode cX11_tremble 40 = .ok (.getfield 39, 3) := by decide +kernel
theorem dX11_tremble_43 : decode cX11_tremble 43 = .ok (.getfield 112, 3) := by decide +kernel
theorem dX11_tremble_46 : decode cX11_tremble 46 = .ok (.iload_n 1, 1) := by decide +kernel
theorem dX11_tremble_47 : decode cX11_tremble 47 = .ok (.iload_n 2, 1) := by decide +kernel
theorem dX11_tremble_48 : decode cX11_tremble 48 = .ok (.iload 6, 2) := by decide +kernel
theorem dX11_tremble_50 : decode cX11_tremble 50 = .ok (.iload_n 3, 1) := by decide +kernel
theorem dX11_tremble_51 : decode cX11_tremble 51 = .ok (.imul, 1) := by decide +kernel
theorem dX11_tremble_52 : decode cX11_tremble 52 = .ok (.iadd, 1) := by decide +kernel
theorem dX11_tremble_53 : decode cX11_tremble 53 = .ok (.sipush 9999, 3) := by decide +kernel
theorem dX11_tremble_56 : decode cX11_tremble 56 = .ok (.invokestatic 294, 3) := by decide +kernel
theorem dX11_tremble_59 : decode cX11_tremble 59 = .ok (.invokevirtual 225, 3) := by decide +kernel
theorem dX11_tremble_62 : decode cX11_tremble 62 = .ok (.aload_n 0, 1) := by decide +kernel
theorem dX11_tremble_63 : decode cX11_tremble 63 = .ok (.getfield 54, 3) := by decide +kernel
theorem dX11_tremble_66 : decode cX11_tremble 66 = .ok (.getfield 228, 3) := by decide +kernel
theorem dX11_tremble_69 : decode cX11_tremble 69 = .ok (.ifCond .ne 5, 3) := by decide +kernel
theorem dX11_tremble_72 : decode cX11_tremble 72 = .ok (.iconst (-1), 1) := by decide +kernel
theorem dX11_tremble_73 : decode cX11_tremble 73 = .ok (.ireturn, 1) := by decide +kernel
theorem dX11_tremble_74 : decode cX11_tremble 74 = .ok (.iload 4, 2) := by decide +kernel
theorem dX11_tremble_76 : decode cX11_tremble 76 = .ok (.aload_n 0, 1) := by decide +kernel
theorem dX11_tremble_77 : decode cX11_tremble 77 = .ok (.getfield 54, 3) := by decide +kernel
theorem dX11_tremble_80 : decode cX11_tremble 80 = .ok (.getfield 228, 3) := by decide +kernel
theorem dX11_tremble_83 : decode cX11_tremble 83 = .ok (.invokestatic 297, 3) := by decide +kernel
theorem dX11_tremble_86 : decode cX11_tremble 86 = .ok (.istore 4, 2) := by decide +kernel
theorem dX11_tremble_88 : decode cX11_tremble 88 = .ok (.iload 5, 2) := by decide +kernel
theorem dX11_tremble_90 : decode cX11_tremble 90 = .ok (.aload_n 0, 1) := by decide +kernel
theorem dX11_tremble_91 : decode cX11_tremble 91 = .ok (.getfield 54, 3) := by decide +kernel
theorem dX11_tremble_94 : decode cX11_tremble 94 = .ok (.getfield 228, 3) := by decide +kernel
theorem dX11_tremble_97 : decode cX11_tremble 97 = .ok (.invokestatic 291, 3) := by decide +kernel
theorem dX11_tremble_100 : decode cX11_tremble 100 = .ok (.istore 5, 2) := by decide +kernel
theorem dX11_tremble_102 : decode cX11_tremble 102 = .ok (.iinc 6 1, 3) := by decide +kernel
theorem dX11_tremble_105 : decode cX11_tremble 105 = .ok (.goto (-73), 3) := by decide +kernel
theorem dX11_tremble_108 : decode cX11_tremble 108 = .ok (.iload 5, 2) := by decide +kernel
theorem dX11_tremble_110 : decode cX11_tremble 110 = .ok (.iload 4, 2) := by decide +kernel
theorem dX11_tremble_112 : decode cX11_tremble 112 = .ok (.isub, 1) := by decide +kernel
theorem dX11_tremble_113 : decode cX11_tremble 113 = .ok (.ireturn, 1) := by decide +kernel
theorem hcX11_tremble : yX11_tremble.cls ≠ "java/lang/invoke/MethodHandle" ∧ yX11_tremble.cls ≠ "java/lang/invoke/VarHandle" ∧ (parseMethodDescriptor yX11_tremble.desc).map (fun d => d.parameters.length) = some 3 := ⟨by decide +kernel, by decide +kernel, by decide +kernel⟩
def fX11_tremble_L32 (La : sg_L) (x1 : Int) (x2 : Int) (x3 : Int) (Q : Int → sg_M → Prop) : Nat → sg_M → Int → Int → Int → Prop
  | 0, _, _, _, _ => False
  | n_32 + 1, s_32, x4_32, x5_32, x6_32 => ((1 < x6_32 → sg_R (x5_32 - x4_32) ∧ Q (x5_32 - x4_32) s_32) ∧ (¬ (1 < x6_32) → sg_R (x2 + (x6_32 * x3)) ∧ fX11_within (x2 + (x6_32 * x3)) 9999 (fun u11 => (0 ≤ (s_32 4 0)) ∧ fX11_listenTo La s_32 (s_32 4 0) x1 u11 (fun s15 => (((s15 32 7) ≠ 0 → sg_R (x6_32 + 1) ∧ (fX11_tremble_L32 La x1 x2 x3 Q n_32) s15 (sg_min x4_32 (s15 32 7)) (sg_max x5_32 (s15 32 7)) (x6_32 + 1)) ∧ ((s15 32 7) = 0 → Q (-1) s15))))))
def fX11_tremble (La : sg_L) (s0 : sg_M) (x1 : Int) (x2 : Int) (x3 : Int) (Q : Int → sg_M → Prop) : Prop := fX11_isBend x1 x2 (fun u1 => ((u1 = 0 → Q (-1) s0) ∧ (¬ (u1 = 0) → ((x3 < 0 → Q (-1) s0) ∧ (¬ (x3 < 0) → ((x3 ≤ 999 → (∃ n24 : Nat, fX11_tremble_L32 La x1 x2 x3 Q n24 s0 2000 0 (-1))) ∧ (¬ (x3 ≤ 999) → Q (-1) s0)))))))
set_option maxHeartbeats 4000000 in
set_option maxRecDepth 100000 in
theorem CX11_tremble {l : Launch} {G : sg_G} {La : sg_L} {s0 : sg_M} (hst : sg_St La) {x1 : Int} (r1 : sg_R x1) {x2 : Int} (r2 : sg_R x2) {x3 : Int} (r3 : sg_R x3) {Q : Int → sg_M → Prop} (hf : fX11_tremble La s0 x1 x2 x3 Q) : sg_C l G yX11_tremble cX11_tremble 7 (some .int) 6 0 0 La s0 [sg_r 0, sg_i x1, sg_i x2, sg_i x3] (sg_HI La Q) := by
  refine sg_body (by decide +kernel) (Nat.le_of_ble_eq_true rfl) ?_
  intro p e s m args below meth c F hnm
  unfold fX11_tremble at hf
  show sg_W p l e (sg_rm 6 0 0) s m args below meth c (MQ below (sg_Q (some .int) G La s.heap.size (sg_HI La Q)) args s 0 0 (sg_A La s.heap.size)) 7 G (sg_A La s.heap.size) La s0 0 0 0 [(0, sg_r 0), (1, sg_i x1), (2, sg_i x2), (3, sg_i x3)] []
  refine gw_iload_n F 1 rfl rfl dX11_tremble_0 ?_
  refine gw_iload_n F 2 rfl rfl dX11_tremble_1 ?_
  refine gk_PZ F (gc_S F (S := []) (As := [sg_i x1, sg_i x2]) (CX11_isBend r1 r2 hf) kw_502 kw_90 kw_500 kw_501 hcX11_isBend ⟨by decide, by decide⟩ rfl rfl (Nat.le_of_ble_eq_true rfl) ⟨by decide, by decide⟩ dX11_tremble_2) (fun u1 h2 hf => ?_)
  refine gw_if_eq F (tgt := 19) dX11_tremble_5 (by decide) (sg_B_R h2) (fun c3 => ?_) (fun c3 => ?_)
  · have hf := hf.1 c3
    refine gw_iconst F dX11_tremble_19 ?_
    exact gr_HI F (by decide) hf (by decide) (by decide) dX11_tremble_20
  · have hf := hf.2 c3
    refine gw_iload_n F 3 rfl rfl dX11_tremble_8 ?_
    refine gw_if_lt F (tgt := 19) dX11_tremble_9 (by decide) r3 (fun c4 => ?_) (fun c4 => ?_)
    · have hf := hf.1 c4
      refine gw_iconst F dX11_tremble_19 ?_
      exact gr_HI F (by decide) hf (by decide) (by decide) dX11_tremble_20
    · have hf := hf.2 c4
      refine gw_iload_n F 3 rfl rfl dX11_tremble_12 ?_
      refine gw_sipush F rfl dX11_tremble_13 ?_
      refine gw_icmp_le F (tgt := 21) dX11_tremble_16 (by decide) r3 (by decide) (fun c5 => ?_) (fun c5 => ?_)
      · have hf := hf.1 c5
        refine gw_sipush F rfl dX11_tremble_21 ?_
        refine gw_istore F (by decide) rfl dX11_tremble_24 ?_
        refine gw_iconst F dX11_tremble_26 ?_
        refine gw_istore F (by decide) rfl dX11_tremble_27 ?_
        refine gw_iconst F dX11_tremble_29 ?_
        refine gw_istore F (by decide) rfl dX11_tremble_30 ?_
        have L32 : ∀ n_32 : Nat, ∀ (s_32 : sg_M) (x4_32 : Int) (x5_32 : Int) (x6_32 : Int), sg_R x4_32 → sg_R x5_32 → sg_R x6_32 → fX11_tremble_L32 La x1 x2 x3 Q n_32 s_32 x4_32 x5_32 x6_32 → sg_W p l e (sg_rm 6 0 0) s m args below meth c (MQ below (sg_Q (some .int) G La s.heap.size (sg_HI La Q)) args s 0 0 (sg_A La s.heap.size)) 7 G (sg_A La s.heap.size) La s_32 0 0 32 [(0, sg_r 0), (1, sg_i x1), (2, sg_i x2), (3, sg_i x3), (4, sg_i x4_32), (5, sg_i x5_32), (6, sg_i x6_32)] [] := by
          intro n_32
          induction n_32 with
          | zero => intro s_32 x4_32 x5_32 x6_32 r4_32 r5_32 r6_32 hf; exact hf.elim
          | succ n_32 ih =>
            intro s_32 x4_32 x5_32 x6_32 r4_32 r5_32 r6_32 hf
            unfold fX11_tremble_L32 at hf
            refine gw_iload F 6 rfl dX11_tremble_32 ?_
            refine gw_iconst F dX11_tremble_34 ?_
            refine gw_icmp_gt F (tgt := 108) dX11_tremble_35 (by decide) r6_32 (by decide) (fun c6 => ?_) (fun c6 => ?_)
            · have hf := hf.1 c6
              refine gw_iload F 5 rfl dX11_tremble_108 ?_
              refine gw_iload F 4 rfl dX11_tremble_110 ?_
              refine gw_isub F rfl dX11_tremble_112 ?_
              obtain ⟨g7, hf⟩ := hf
              exact gr_HI F g7 hf (by decide) (by decide) dX11_tremble_113
            · have hf := hf.2 c6
              refine gw_aload_n F 0 rfl rfl (by decide) dX11_tremble_38 ?_
              refine gw_aload_n F 0 rfl rfl (by decide) dX11_tremble_39 ?_
              refine gw_get7 F (so_0 hst) (by decide) rfl sg_lay_RX11 (j := 2) (by decide) (o1 := 4) (by first | rfl | omega) rfl (host := "") (.inl kw_328) dX11_tremble_40 (fun h8 => ?_)
              refine gw_get4 F (so_4 hst) (by decide) rfl sg_lay_RX7 (j := 0) (by decide) rfl (.inr kw_234) dX11_tremble_43 (fun h9 => ?_)
              refine gw_iload_n F 1 rfl rfl dX11_tremble_46 ?_
              refine gw_iload_n F 2 rfl rfl dX11_tremble_47 ?_
              refine gw_iload F 6 rfl dX11_tremble_48 ?_
              refine gw_iload_n F 3 rfl rfl dX11_tremble_50 ?_
              refine gw_imul F rfl dX11_tremble_51 ?_
              refine gw_iadd F rfl dX11_tremble_52 ?_
              refine gw_sipush F rfl dX11_tremble_53 ?_
              obtain ⟨g10, hf⟩ := hf
              refine gk_PI F (gc_S F (S := [sg_i x1, sg_r (s_32 4 0), sg_r 0]) (As := [sg_i (x2 + (x6_32 * x3)), sg_i 9999]) (CX11_within g10 (by decide) hf) kw_521 kw_90 kw_748 kw_520 hcX11_within ⟨by decide, by decide⟩ rfl rfl (Nat.le_of_ble_eq_true rfl) ⟨by decide, by decide⟩ dX11_tremble_56) (fun u11 h12 hf => ?_)
              obtain ⟨g13, hf⟩ := hf
              have t14 := sg_nn h9 g13
              refine gk_HV F (gc_V F (S := []) (As := [sg_r (s_32 4 0), sg_i x1, sg_i u11]) (T := TX11) (N := 19) (CX11_listenTo hst t14 r1 h12 hf) (so_0 hst) (by decide) rfl kw_655 kw_90 kw_653 kw_654 kw_20 hcX11_listenTo ⟨by decide, by decide⟩ rfl rfl (Nat.le_of_ble_eq_true rfl) ⟨by decide, by decide⟩ dX11_tremble_59) (fun s15 hf => ?_)
              refine gw_aload_n F 0 rfl rfl (by decide) dX11_tremble_62 ?_
              refine gw_get7 F (so_0 hst) (by decide) rfl sg_lay_RX11 (j := 5) (by decide) (o1 := 32) (by first | rfl | omega) rfl (host := "") (.inl kw_331) dX11_tremble_63 (fun h16 => ?_)
              refine gw_get0 F (so_32 hst) (by decide) rfl sg_lay_RX0 (j := 7) (by decide) rfl (.inr kw_266) dX11_tremble_66 (fun h17 => ?_)
              refine gw_if_ne F (tgt := 74) dX11_tremble_69 (by decide) h17 (fun c18 => ?_) (fun c18 => ?_)
              · have hf := hf.1 c18
                refine gw_iload F 4 rfl dX11_tremble_74 ?_
                refine gw_aload_n F 0 rfl rfl (by decide) dX11_tremble_76 ?_
                refine gw_get7 F (so_0 hst) (by decide) rfl sg_lay_RX11 (j := 5) (by decide) (o1 := 32) (by first | rfl | omega) rfl (host := "") (.inl kw_331) dX11_tremble_77 (fun h19 => ?_)
                refine gw_get0 F (so_32 hst) (by decide) rfl sg_lay_RX0 (j := 7) (by decide) rfl (.inr kw_266) dX11_tremble_80 (fun h20 => ?_)
                refine gw_min F r4_32 h20 rfl kw_522 kw_min1 kw_math kw_min2 (Nat.le_of_ble_eq_true rfl) (by decide) (by decide) (by decide) (by decide) dX11_tremble_83 ?_
                refine gw_istore F (by decide) rfl dX11_tremble_86 ?_
                refine gw_iload F 5 rfl dX11_tremble_88 ?_
                refine gw_aload_n F 1 rfl rfl (by decide) dX11_tremble_90 ?_
                refine gw_get7 F (so_0 hst) (by decide) rfl sg_lay_RX11 (j := 5) (by decide) (o1 := 32) (by first | rfl | omega) rfl (host := "") (.inl kw_331) dX11_tremble_91 (fun h21 => ?_)
                refine gw_get0 F (so_32 hst) (by decide) rfl sg_lay_RX0 (j := 7) (by decide) rfl (.inr kw_266) dX11_tremble_94 (fun h22 => ?_)
                refine gw_max F r5_32 h22 rfl kw_523 kw_max1 kw_math kw_max2 (Nat.le_of_ble_eq_true rfl) (by decide) (by decide) (by decide) (by decide) dX11_tremble_97 ?_
                refine gw_istore F (by decide) rfl dX11_tremble_100 ?_
                refine gw_iinc F (z := (x6_32 + 1)) 6 rfl (by omega) (by decide) rfl dX11_tremble_102 ?_
                refine gw_goto F (tgt := 32) dX11_tremble_105 (by decide) ?_
                obtain ⟨g23, hf⟩ := hf
                refine gw_sub [3, 4, 5, 6, 2, 1, 0] rfl ?_
                exact ih s15 (sg_min x4_32 (s15 32 7)) (sg_max x5_32 (s15 32 7)) (x6_32 + 1) (sg_min_R r4_32 h20) (sg_max_R r5_32 h22) g23 hf
              · have hf := hf.2 c18
                refine gw_iconst F dX11_tremble_72 ?_
                exact gr_HI F (by decide) hf (by decide) (by decide) dX11_tremble_73
        obtain ⟨n24, hf⟩ := hf
        refine gw_sub [3, 4, 5, 6, 2, 1, 0] rfl ?_
        refine L32   n24 s0 2000 0 (-1) (by decide) (by decide) (by decide) hf
      · have hf := hf.2 c5
        refine gw_iconst F dX11_tremble_19 ?_
        exact gr_HI F (by decide) hf (by decide) (by decide) dX11_tremble_20

theorem dX11_read_0 : decode cX11_read 0 = .ok (.iload_n 1, 1) := by decide +kernel
theorem dX11_read_1 : decode cX11_read 1 = .ok (.invokestatic 268, 3) := by decide +kernel
theorem dX11_read_4 : decode cX11_read 4 = .ok (.ifCond .eq 10, 3) := by decide +kernel
theorem dX11_read_7 : decode cX11_read 7 = .ok (.iload_n 2, 1) := by decide +kernel
theorem dX11_read_8 : decode cX11_read 8 = .ok (.invokestatic 258, 3) := by decide +kernel
theorem dX11_read_11 : decode cX11_read 11 = .ok (.ifCond .ne 5, 3) := by decide +kernel
theorem dX11_read_14 : decode cX11_read 14 = .ok (.iconst (-1), 1) := by decide +kernel
theorem dX11_read_15 : decode cX11_read 15 = .ok (.ireturn, 1) := by decide +kernel
theorem dX11_read_16 : decode cX11_read 16 = .ok (.aload_n 0, 1) := by decide +kernel
theorem dX11_read_17 : decode cX11_read 17 = .ok (.invokevirtual 251, 3) := by decide +kernel
theorem dX11_read_20 : decode cX11_read 20 = .ok (.aload_n 0, 1) := by decide +kernel
theorem dX11_read_21 : decode cX11_read 21 = .ok (.getfield 83, 3) := by decide +kernel
theorem dX11_read_24 : decode cX11_read 24 = .ok (.invokevirtual 271, 3) := by decide +kernel
theorem dX11_read_27 : decode cX11_read 27 = .ok (.iconst 0, 1) := by decide +kernel
theorem dX11_read_28 : decode cX11_read 28 = .ok (.istore_n 3, 1) := by decide +kernel
theorem dX11_read_29 : decode cX11_read 29 = .ok (.iload_n 3, 1) := by decide +kernel
theorem dX11_read_30 : decode cX11_read 30 = .ok (.aload_n 0, 1) := by decide +kernel
theorem dX11_read_31 : decode cX11_read 31 = .ok (.getfield 93, 3) := by decide +kernel
theorem dX11_read_34 : decode cX11_read 34 = .ok (.getfield 181, 3) := by decide +kernel
theorem dX11_read_37 : decode cX11_read 37 = .ok (.if_icmp .ge 33, 3) := by decide +kernel
theorem dX11_read_40 : decode cX11_read 40 = .ok (.aload_n 0, 1) := by decide +kernel
theorem dX11_read_41 : decode cX11_read 41 = .ok (.getfield 93, 3) := by decide +kernel
theorem dX11_read_44 : decode cX11_read 44 = .ok (.iload_n 3, 1) := by decide +kernel
theorem dX11_read_45 : decode cX11_read 45 = .ok (.invokevirtual 182, 3) := by decide +kernel
theorem dX11_read_48 : decode cX11_read 48 = .ok (.iload_n 1, 1) := by decide +kernel
theorem dX11_read_49 : decode cX11_read 49 = .ok (.iload_n 2, 1) := by decide +kernel
theorem dX11_read_50 : decode cX11_read 50 = .ok (.invokestatic 274, 3) := by decide +kernel
theorem dX11_read_53 : decode cX11_read 53 = .ok (.ifCond .eq 11, 3) := by decide +kernel
theorem dX11_read_56 : decode cX11_read 56 = .ok (.aload_n 0, 1) := by decide +kernel
theorem dX11_read_57 : decode cX11_read 57 = .ok (.getfield 83, 3) := by decide +kernel
theorem dX11_read_60 : decode cX11_read 60 = .ok (.iload_n 3, 1) := by decide +kernel
theorem dX11_read_61 : decode cX11_read 61 = .ok (.invokevirtual 278, 3) := by decide +kernel
theorem dX11_read_64 : decode cX11_read 64 = .ok (.iinc 3 1, 3) := by decide +kernel
theorem dX11_read_67 : decode cX11_read 67 = .ok (.goto (-38), 3) := by decide +kernel
theorem dX11_read_70 : decode cX11_read 70 = .ok (.aload_n 0, 1) := by decide +kernel
theorem dX11_read_71 : decode cX11_read 71 = .ok (.getfield 83, 3) := by decide +kernel
theorem dX11_read_74 : decode cX11_read 74 = .ok (.getfield 181, 3) := by decide +kernel
theorem dX11_read_77 : decode cX11_read 77 = .ok (.ireturn, 1) := by decide +kernel
theorem hcX11_read : yX11_read.cls ≠ "java/lang/invoke/MethodHandle" ∧ yX11_read.cls ≠ "java/lang/invoke/VarHandle" ∧ (parseMethodDescriptor yX11_read.desc).map (fun d => d.parameters.length) = some 2 := ⟨by decide +kernel, by decide +kernel, by decide +kernel⟩
def fX11_read_j64 (x3_29 : Int) (k29 : sg_M → Int → Prop) (s_64 : sg_M) : Prop := sg_R (x3_29 + 1) ∧ k29 s_64 (x3_29 + 1)
def fX11_read_L29 (La : sg_L) (x1 : Int) (x2 : Int) (Q : Int → sg_M → Prop) : Nat → sg_M → Int → Prop
  | 0, _, _ => False
  | n_29 + 1, s_29, x3_29 => (((s_29 58 1) ≤ x3_29 → Q (s_29 52 1) s_29) ∧ (¬ ((s_29 58 1) ≤ x3_29) → fX4_at La s_29 58 x3_29 (fun u16 => fX11_isNear u16 x1 x2 (fun u18 => ((u18 = 0 → (fX11_read_j64 x3_29 (fX11_read_L29 La x1 x2 Q n_29)) s_29) ∧ (¬ (u18 = 0) → fX4_add La s_29 52 x3_29 (fun s23 => (fX11_read_j64 x3_29 (fX11_read_L29 La x1 x2 Q n_29)) s23)))))))
def fX11_read (La : sg_L) (s0 : sg_M) (x1 : Int) (x2 : Int) (Q : Int → sg_M → Prop) : Prop := fX11_isTone x1 (fun u1 => ((u1 = 0 → Q (-1) s0) ∧ (¬ (u1 = 0) → fX11_isSlip x2 (fun u4 => ((u4 ≠ 0 → fX11_hearBook La s0 (fun s7 => fX4_clear s7 52 (fun s9 => (∃ n24 : Nat, fX11_read_L29 La x1 x2 Q n24 s9 0)))) ∧ (u4 = 0 → Q (-1) s0))))))
set_option maxHeartbeats 4000000 in
set_option maxRecDepth 100000 in
theorem CX11_read {l : Launch} {G : sg_G} {La : sg_L} {s0 : sg_M} (hst : sg_St La) {x1 : Int} (r1 : sg_R x1) {x2 : Int} (r2 : sg_R x2) {Q : Int → sg_M → Prop} (hf : fX11_read La s0 x1 x2 Q) : sg_C l G yX11_read cX11_read 4 (some .int) 7 0 0 La s0 [sg_r 0, sg_i x1, sg_i x2] (sg_HI La Q) := by
  refine sg_body (by decide +kernel) (Nat.le_of_ble_eq_true rfl) ?_
  intro p e s m args below meth c F hnm
  unfold fX11_read at hf
  show sg_W p l e (sg_rm 7 0 0) s m args below meth c (MQ below (sg_Q (some .int) G La s.heap.size (sg_HI La Q)) args s 0 0 (sg_A La s.heap.size)) 4 G (sg_A La s.heap.size) La s0 0 0 0 [(0, sg_r 0), (1, sg_i x1), (2, sg_i x2)] []
  refine gw_iload_n F 1 rfl rfl dX11_read_0 ?_
  refine gk_PZ F (gc_S F (S := []) (As := [sg_i x1]) (CX11_isTone r1 hf) kw_684 kw_90 kw_724 kw_683 hcX11_isTone ⟨by decide, by decide⟩ rfl rfl (Nat.le_of_ble_eq_true rfl) ⟨by decide, by decide⟩ dX11_read_1) (fun u1 h2 hf => ?_)
  refine gw_if_eq F (tgt := 14) dX11_read_4 (by decide) (sg_B_R h2) (fun c3 => ?_) (fun c3 => ?_)
  · have hf := hf.1 c3
    refine gw_iconst F dX11_read_14 ?_
    exact gr_HI F (by decide) hf (by decide) (by decide) dX11_read_15
  · have hf := hf.2 c3
    refine gw_iload_n F 2 rfl rfl dX11_read_7 ?_
    refine gk_PZ F (gc_S F (S := []) (As := [sg_i x2]) (CX11_isSlip r2 hf) kw_688 kw_90 kw_686 kw_687 hcX11_isSlip ⟨by decide, by decide⟩ rfl rfl (Nat.le_of_ble_eq_true rfl) ⟨by decide, by decide⟩ dX11_read_8) (fun u4 h5 hf => ?_)
    refine gw_if_ne F (tgt := 16) dX11_read_11 (by decide) (sg_B_R h5) (fun c6 => ?_) (fun c6 => ?_)
    · have hf := hf.1 c6
      refine gw_aload_n F 0 rfl rfl (by decide) dX11_read_16 ?_
      refine gk_HV F (gc_V F (S := []) (As := []) (T := TX11) (N := 19) (CX11_hearBook hst hf) (so_0 hst) (by decide) rfl kw_651 kw_90 kw_649 kw_650 kw_19 hcX11_hearBook ⟨by decide, by decide⟩ rfl rfl (Nat.le_of_ble_eq_true rfl) ⟨by decide, by decide⟩ dX11_read_17) (fun s7 hf => ?_)
      refine gw_aload_n F 0 rfl rfl (by decide) dX11_read_20 ?_
      refine gw_get7 F (so_0 hst) (by decide) rfl sg_lay_RX11 (j := 10) (by decide) (o1 := 52) (by first | rfl | omega) rfl (host := "") (.inl kw_336) dX11_read_21 (fun h8 => ?_)
      refine gk_HV F (gc_V F (S := []) (As := []) (T := TX4) (N := 3) (CX4_clear (so_52 hst) hf) (so_52 hst) (by decide) rfl kw_531 kw_97 kw_652 kw_529 kw_530 hcX4_clear ⟨by decide, by decide⟩ rfl rfl (Nat.le_of_ble_eq_true rfl) ⟨by decide, by decide⟩ dX11_read_24) (fun s9 hf => ?_)
      refine gw_iconst F dX11_read_27 ?_
      refine gw_istore_n F rfl (by decide) rfl dX11_read_28 ?_
      have L29 : ∀ n_29 : Nat, ∀ (s_29 : sg_M) (x3_29 : Int), sg_R x3_29 → fX11_read_L29 La x1 x2 Q n_29 s_29 x3_29 → sg_W p l e (sg_rm 7 0 0) s m args below meth c (MQ below (sg_Q (some .int) G La s.heap.size (sg_HI La Q)) args s 0 0 (sg_A La s.heap.size)) 4 G (sg_A La s.heap.size) La s_29 0 0 29 [(0, sg_r 0), (1, sg_i x1), (2, sg_i x2), (3, sg_i x3_29)] [] := by
        intro n_29
        induction n_29 with
        | zero => intro s_29 x3_29 r3_29 hf; exact hf.elim
        | succ n_29 ih =>
          intro s_29 x3_29 r3_29 hf
          unfold fX11_read_L29 at hf
          refine gw_iload_n F 3 rfl rfl dX11_read_29 ?_
          refine gw_aload_n F 0 rfl rfl (by decide) dX11_read_30 ?_
          refine gw_get7 F (so_0 hst) (by decide) rfl sg_lay_RX11 (j := 13) (by decide) (o1 := 58) (by first | rfl | omega) rfl (host := "") (.inl kw_339) dX11_read_31 (fun h10 => ?_)
          refine gw_get0 F (so_58 hst) (by decide) rfl sg_lay_RX4 (j := 1) (by decide) rfl (.inr kw_204) dX11_read_34 (fun h11 => ?_)
          refine gw_icmp_ge F (tgt := 70) dX11_read_37 (by decide) r3_29 h11 (fun c12 => ?_) (fun c12 => ?_)
          · have hf := hf.1 c12
            refine gw_aload_n F 0 rfl rfl (by decide) dX11_read_70 ?_
            refine gw_get7 F (so_0 hst) (by decide) rfl sg_lay_RX11 (j := 10) (by decide) (o1 := 52) (by first | rfl | omega) rfl (host := "") (.inl kw_336) dX11_read_71 (fun h13 => ?_)
            refine gw_get0 F (so_52 hst) (by decide) rfl sg_lay_RX4 (j := 1) (by decide) rfl (.inr kw_204) dX11_read_74 (fun h14 => ?_)
            exact gr_HI F h14 hf (by decide) (by decide) dX11_read_77
          · have hf := hf.2 c12
            refine gw_aload_n F 0 rfl rfl (by decide) dX11_read_40 ?_
            refine gw_get7 F (so_0 hst) (by decide) rfl sg_lay_RX11 (j := 13) (by decide) (o1 := 58) (by first | rfl | omega) rfl (host := "") (.inl kw_339) dX11_read_41 (fun h15 => ?_)
            refine gw_iload_n F 3 rfl rfl dX11_read_44 ?_
            refine gk_PI F (gc_V F (S := []) (As := [sg_i x3_29]) (T := TX4) (N := 3) (CX4_at (so_58 hst) r3_29 hf) (so_58 hst) (by decide) rfl kw_546 kw_97 kw_543 kw_544 kw_545 hcX4_at ⟨by decide, by decide⟩ rfl rfl (Nat.le_of_ble_eq_true rfl) ⟨by decide, by decide⟩ dX11_read_45) (fun u16 h17 hf => ?_)
            refine gw_iload_n F 1 rfl rfl dX11_read_48 ?_
            refine gw_iload_n F 2 rfl rfl dX11_read_49 ?_
            refine gk_PZ F (gc_S F (S := []) (As := [sg_i u16, sg_i x1, sg_i x2]) (CX11_isNear h17 r1 r2 hf) kw_696 kw_90 kw_725 kw_695 hcX11_isNear ⟨by decide, by decide⟩ rfl rfl (Nat.le_of_ble_eq_true rfl) ⟨by decide, by decide⟩ dX11_read_50) (fun u18 h19 hf => ?_)
            have J64 : ∀ (s_64 : sg_M), (fX11_read_j64 x3_29 (fX11_read_L29 La x1 x2 Q n_29)) s_64 → sg_W p l e (sg_rm 7 0 0) s m args below meth c (MQ below (sg_Q (some .int) G La s.heap.size (sg_HI La Q)) args s 0 0 (sg_A La s.heap.size)) 4 G (sg_A La s.heap.size) La s_64 0 0 64 [(0, sg_r 0), (1, sg_i x1), (2, sg_i x2), (3, sg_i x3_29)] [] := by
              intro s_64 hf
              unfold fX11_read_j64 at hf
              refine gw_iinc F (z := (x3_29 + 1)) 3 rfl (by omega) (by decide) rfl dX11_read_64 ?_
              refine gw_goto F (tgt := 29) dX11_read_67 (by decide) ?_
              obtain ⟨g20, hf⟩ := hf
              refine gw_sub [1, 2, 3, 0] rfl ?_
              exact ih s_64 (x3_29 + 1) g20 hf
            refine gw_if_eq F (tgt := 64) dX11_read_53 (by decide) (sg_B_R h19) (fun c21 => ?_) (fun c21 => ?_)
            · have hf := hf.1 c21
              refine gw_sub [0, 1, 2, 3] rfl ?_
              exact J64 s_29 hf
            · have hf := hf.2 c21
              refine gw_aload_n F 0 rfl rfl (by decide) dX11_read_56 ?_
              refine gw_get7 F (so_0 hst) (by decide) rfl sg_lay_RX11 (j := 10) (by decide) (o1 := 52) (by first | rfl | omega) rfl (host := "") (.inl kw_336) dX11_read_57 (fun h22 => ?_)
              refine gw_iload_n F 3 rfl rfl dX11_read_60 ?_
              refine gk_HV F (gc_V F (S := []) (As := [sg_i x3_29]) (T := TX4) (N := 3) (CX4_add (so_52 hst) r3_29 hf) (so_52 hst) (by decide) rfl kw_538 kw_97 kw_663 kw_536 kw_537 hcX4_add ⟨by decide, by decide⟩ rfl rfl (Nat.le_of_ble_eq_true rfl) ⟨by decide, by decide⟩ dX11_read_61) (fun s23 hf => ?_)
              refine gw_sub [0, 1, 2, 3] rfl ?_
              exact J64 s23 hf
      obtain ⟨n24, hf⟩ := hf
      refine gw_sub [1, 2, 3, 0] rfl ?_
      refine L29   n24 s9 0 (by decide) hf
    · have hf := hf.2 c6
      refine gw_iconst F dX11_read_14 ?_
      exact gr_HI F (by decide) hf (by decide) (by decide) dX11_read_15

theorem dX3_init_0 : decode cX3_init 0 = .ok (.aload_n 0, 1) := by decide +kernel
theorem dX3_init_1 : decode cX3_init 1 = .ok (.invokespecial 3, 3) := by decide +kernel
theorem dX3_init_4 : decode cX3_init 4 = .ok (.aload_n 0, 1) := by decide +kernel
theorem dX3_init_5 : decode cX3_init 5 = .ok (.sipush 200, 3) := by decide +kernel
theorem dX3_init_8 : decode cX3_init 8 = .ok (.newarray .int, 2) := by decide +kernel
theorem dX3_init_10 : decode cX3_init 10 = .ok (.putfield 9, 3) := by decide +kernel
theorem dX3_init_13 : decode cX3_init 13 = .ok (.aload_n 0, 1) := by decide +kernel
theorem dX3_init_14 : decode cX3_init 14 = .ok (.sipush 200, 3) := by decide +kernel
theorem dX3_init_17 : decode cX3_init 17 = .ok (.newarray .int, 2) := by decide +kernel
theorem dX3_init_19 : decode cX3_init 19 = .ok (.putfield 15, 3) := by decide +kernel
theorem dX3_init_22 : decode cX3_init 22 = .ok (.aload_n 0, 1) := by decide +kernel
theorem dX3_init_23 : decode cX3_init 23 = .ok (.iconst 0, 1) := by decide +kernel
theorem dX3_init_24 : decode cX3_init 24 = .ok (.putfield 18, 3) := by decide +kernel
theorem dX3_init_27 : decode cX3_init 27 = .ok (.aload_n 0, 1) := by decide +kernel
theorem dX3_init_28 : decode cX3_init 28 = .ok (.iconst 0, 1) := by decide +kernel
theorem dX3_init_29 : decode cX3_init 29 = .ok (.putfield 22, 3) := by decide +kernel
theorem dX3_init_32 : decode cX3_init 32 = .ok (.aload_n 0, 1) := by decide +kernel
theorem dX3_init_33 : decode cX3_init 33 = .ok (.iconst 0, 1) := by decide +kernel
theorem dX3_init_34 : decode cX3_init 34 = .ok (.putfield 25, 3) := by decide +kernel
theorem dX3_init_37 : decode cX3_init 37 = .ok (.return_, 1) := by decide +kernel
theorem hcX3_init : yX3_init.cls ≠ "java/lang/invoke/MethodHandle" ∧ yX3_init.cls ≠ "java/lang/invoke/VarHandle" ∧ (parseMethodDescriptor yX3_init.desc).map (fun d => d.parameters.length) = some 0 := ⟨by decide +kernel, by decide +kernel, by decide +kernel⟩
def fX3_init (La : sg_L) (s0 : sg_M) (o : Int) (Q : sg_L → sg_M → Prop) : Prop := ∀ (q1 : Nat) (La2 : sg_L), La2 = sg_pu La 10200 q1 → ∀ s3 : sg_M, s3 = sg_nw s0 La.1 10200 → ∀ o4 : Int, o4 = (La.1 : Int) → ∀ s14 : sg_M, s14 = sg_up s3 o 0 o4 → ∀ (q16 : Nat) (La17 : sg_L), La17 = sg_pu La2 10200 q16 → ∀ s18 : sg_M, s18 = sg_nw s14 La2.1 10200 → ∀ o19 : Int, o19 = (La2.1 : Int) → ∀ s29 : sg_M, s29 = sg_up s18 o 1 o19 → ∀ s31 : sg_M, s31 = sg_up s29 o 2 0 → ∀ s33 : sg_M, s33 = sg_up s31 o 3 0 → ∀ s35 : sg_M, s35 = sg_up s33 o 4 0 → sg_sealed La17 s35 o 23 3 ∧ ∀ La37 : sg_L, La37 = sg_se La17 o.toNat 3 → Q La37 s35
set_option maxHeartbeats 4000000 in
set_option maxRecDepth 100000 in
theorem CX3_init {l : Launch} {G : sg_G} {La : sg_L} {s0 : sg_M} {o : Int} (to : sg_O La o 23) {Q : sg_L → sg_M → Prop} (hf : fX3_init La s0 o Q) : sg_C l G yX3_init cX3_init 1 (none) 1 2 400 La s0 [sg_r o] (sg_BV (sg_se La o.toNat 3) Q) := by
  refine sg_body (by decide +kernel) (Nat.le_of_ble_eq_true rfl) ?_
  intro p e s m args below meth c F hnm
  unfold fX3_init at hf
  show sg_W p l e (sg_rm 1 2 400) s m args below meth c (MQ below (sg_Q (none) G La s.heap.size (sg_BV (sg_se La o.toNat 3) Q)) args s 2 400 (sg_A La s.heap.size)) 1 G (sg_A La s.heap.size) La s0 0 0 0 [(0, sg_r o)] []
  have hin : meth.name = "<init>" := hnm
  refine gw_aload_n F 0 rfl rfl to.1 dX3_init_0 ?_
  refine gw_objInit F to.1 kw_177 kw_OI kw_OC (Nat.le_of_ble_eq_true rfl) (by decide) (by decide) dX3_init_1 ?_
  refine gw_aload_n F 0 rfl rfl to.1 dX3_init_4 ?_
  refine gw_sipush F rfl dX3_init_5 ?_
  refine gy_newI F (N := 200) kw_131 rfl (by decide) (by decide) (by decide) (List.forall_mem_cons.mpr ⟨(Or.inl to.2.1), (fun _ h => absurd h List.not_mem_nil)⟩) (List.forall_mem_cons.mpr ⟨(Or.inl to.2.1), (fun _ h => absurd h List.not_mem_nil)⟩) dX3_init_8 (fun q1 La2 s3 o4 e5 e6 e7 t8 hX9 => ?_)
  have hf := hf q1 La2 e5 s3 e6 o4 e7
  have hn10 : La.1 ≤ o4.toNat := by rw [e7, Int.toNat_natCast]; exact (sg_X.rf : sg_X La La).1
  have t11 := to.X hX9
  have hX12 := sg_X.tr (sg_X.rf) hX9
  have t13 := sg_AN_of (n := 200) t8 (by decide) (by decide) (by decide)
  obtain ⟨s14, e15⟩ : ∃ z : sg_M, z = sg_up s3 o 0 o4 := ⟨_, rfl⟩
  have hf := hf s14 e15
  refine gw_put5F F t11 (by decide) rfl sg_lay_RX3 (j := 0) (by decide) (D0 := tyX3 0) (fun _ => ⟨rfl, rfl⟩) t13.1 t13.2.1 e15 tyX3_ok nmX3 rfl hin rfl (tyX3_ok 0 (by decide)) rfl (host := "") kw_178 dX3_init_10 ?_
  refine gw_aload_n F 0 rfl rfl t11.1 dX3_init_13 ?_
  refine gw_sipush F rfl dX3_init_14 ?_
  refine gy_newI F (N := 200) kw_131 rfl (by decide) (by decide) (by decide) (List.forall_mem_cons.mpr ⟨(Or.inl t11.2.1), (fun _ h => absurd h List.not_mem_nil)⟩) (List.forall_mem_cons.mpr ⟨(Or.inl t11.2.1), (fun _ h => absurd h List.not_mem_nil)⟩) dX3_init_17 (fun q16 La17 s18 o19 e20 e21 e22 t23 hX24 => ?_)
  have hf := hf q16 La17 e20 s18 e21 o19 e22
  have hn25 : La.1 ≤ o19.toNat := by rw [e22, Int.toNat_natCast]; exact (hX12 : sg_X La La2).1
  have t26 := t11.X hX24
  have hX27 := sg_X.tr (hX12) hX24
  have t28 := sg_AN_of (n := 200) t23 (by decide) (by decide) (by decide)
  obtain ⟨s29, e30⟩ : ∃ z : sg_M, z = sg_up s18 o 1 o19 := ⟨_, rfl⟩
  have hf := hf s29 e30
  refine gw_put5F F t26 (by decide) rfl sg_lay_RX3 (j := 1) (by decide) (D0 := tyX3 1) (fun _ => ⟨rfl, rfl⟩) t28.1 t28.2.1 e30 tyX3_ok nmX3 rfl hin rfl (tyX3_ok 1 (by decide)) rfl (host := "") kw_179 dX3_init_19 ?_
  refine gw_aload_n F 0 rfl rfl t26.1 dX3_init_22 ?_
  refine gw_iconst F dX3_init_23 ?_
  obtain ⟨s31, e32⟩ : ∃ z : sg_M, z = sg_up s29 o 2 0 := ⟨_, rfl⟩
  have hf := hf s31 e32
  refine gw_put0 F t26 (by decide) rfl sg_lay_RX3 (j := 2) (by decide) (by decide) e32 tyX3_ok nmX3 rfl (tyX3_ok 2 (by decide)) rfl (host := "") (.inl kw_180) dX3_init_24 ?_
  refine gw_aload_n F 0 rfl rfl t26.1 dX3_init_27 ?_
  refine gw_iconst F dX3_init_28 ?_
  obtain ⟨s33, e34⟩ : ∃ z : sg_M, z = sg_up s31 o 3 0 := ⟨_, rfl⟩
  have hf := hf s33 e34
  refine gw_put0 F t26 (by decide) rfl sg_lay_RX3 (j := 3) (by decide) (by decide) e34 tyX3_ok nmX3 rfl (tyX3_ok 3 (by decide)) rfl (host := "") (.inl kw_182) dX3_init_29 ?_
  refine gw_aload_n F 0 rfl rfl t26.1 dX3_init_32 ?_
  refine gw_iconst F dX3_init_33 ?_
  obtain ⟨s35, e36⟩ : ∃ z : sg_M, z = sg_up s33 o 4 0 := ⟨_, rfl⟩
  have hf := hf s35 e36
  refine gw_put0 F t26 (by decide) rfl sg_lay_RX3 (j := 4) (by decide) (by decide) e36 tyX3_ok nmX3 rfl (tyX3_ok 4 (by decide)) rfl (host := "") (.inl kw_183) dX3_init_34 ?_
  obtain ⟨g38, hf⟩ := hf
  obtain ⟨La37, e39⟩ : ∃ z : sg_L, z = sg_se La17 o.toNat 3 := ⟨_, rfl⟩
  have hf := hf La37 e39
  refine gy_seal t26 ⟨by decide, by decide, by decide⟩ (by decide) (by decide) g38 e39 ?_
  exact gr_BC F (o := o.toNat) (kd := 3) hf (by rw [e39]; exact sg_X.both hX27) (by decide) (by decide) dX3_init_37
