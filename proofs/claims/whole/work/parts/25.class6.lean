theorem dX5_leafAt_0 : decode cX5_leafAt 0 = .ok (.aload_n 0, 1) := by decide +kernel
theorem dX5_leafAt_1 : decode cX5_leafAt 1 = .ok (.ldc 91, 2) := by decide +kernel
theorem dX5_leafAt_3 : decode cX5_leafAt 3 = .ok (.invokevirtual 67, 3) := by decide +kernel
theorem dX5_leafAt_6 : decode cX5_leafAt 6 = .ok (.ifCond .eq 5, 3) := by decide +kernel
theorem dX5_leafAt_9 : decode cX5_leafAt 9 = .ok (.iconst 0, 1) := by decide +kernel
theorem dX5_leafAt_10 : decode cX5_leafAt 10 = .ok (.ireturn, 1) := by decide +kernel
theorem dX5_leafAt_11 : decode cX5_leafAt 11 = .ok (.aload_n 0, 1) := by decide +kernel
theorem dX5_leafAt_12 : decode cX5_leafAt 12 = .ok (.ldc 93, 2) := by decide +kernel
theorem dX5_leafAt_14 : decode cX5_leafAt 14 = .ok (.invokevirtual 67, 3) := by decide +kernel
theorem dX5_leafAt_17 : decode cX5_leafAt 17 = .ok (.ifCond .eq 5, 3) := by decide +kernel
theorem dX5_leafAt_20 : decode cX5_leafAt 20 = .ok (.iconst 1, 1) := by decide +kernel
theorem dX5_leafAt_21 : decode cX5_leafAt 21 = .ok (.ireturn, 1) := by decide +kernel
theorem dX5_leafAt_22 : decode cX5_leafAt 22 = .ok (.aload_n 0, 1) := by decide +kernel
theorem dX5_leafAt_23 : decode cX5_leafAt 23 = .ok (.ldc 95, 2) := by decide +kernel
theorem dX5_leafAt_25 : decode cX5_leafAt 25 = .ok (.invokevirtual 67, 3) := by decide +kernel
theorem dX5_leafAt_28 : decode cX5_leafAt 28 = .ok (.ifCond .eq 5, 3) := by decide +kernel
theorem dX5_leafAt_31 : decode cX5_leafAt 31 = .ok (.iconst 2, 1) := by decide +kernel
theorem dX5_leafAt_32 : decode cX5_leafAt 32 = .ok (.ireturn, 1) := by decide +kernel
theorem dX5_leafAt_33 : decode cX5_leafAt 33 = .ok (.aload_n 0, 1) := by decide +kernel
theorem dX5_leafAt_34 : decode cX5_leafAt 34 = .ok (.ldc 97, 2) := by decide +kernel
theorem dX5_leafAt_36 : decode cX5_leafAt 36 = .ok (.invokevirtual 67, 3) := by decide +kernel
theorem dX5_leafAt_39 : decode cX5_leafAt 39 = .ok (.ifCond .eq 5, 3) := by decide +kernel
theorem dX5_leafAt_42 : decode cX5_leafAt 42 = .ok (.iconst 3, 1) := by decide +kernel
theorem dX5_leafAt_43 : decode cX5_leafAt 43 = .ok (.ireturn, 1) := by decide +kernel
theorem dX5_leafAt_44 : decode cX5_leafAt 44 = .ok (.aload_n 0, 1) := by decide +kernel
theorem dX5_leafAt_45 : decode cX5_leafAt 45 = .ok (.ldc 99, 2) := by decide +kernel
theorem dX5_leafAt_47 : decode cX5_leafAt 47 = .ok (.invokevirtual 67, 3) := by decide +kernel
theorem dX5_leafAt_50 : decode cX5_leafAt 50 = .ok (.ifCond .eq 5, 3) := by decide +kernel
theorem dX5_leafAt_53 : decode cX5_leafAt 53 = .ok (.iconst 4, 1) := by decide +kernel
theorem dX5_leafAt_54 : decode cX5_leafAt 54 = .ok (.ireturn, 1) := by decide +kernel
theorem dX5_leafAt_55 : decode cX5_leafAt 55 = .ok (.aload_n 0, 1) := by decide +kernel
theorem dX5_leafAt_56 : decode cX5_leafAt 56 = .ok (.ldc 101, 2) := by decide +kernel
theorem dX5_leafAt_58 : decode cX5_leafAt 58 = .ok (.invokevirtual 67, 3) := by decide +kernel
theorem dX5_leafAt_61 : decode cX5_leafAt 61 = .ok (.ifCond .eq 5, 3) := by decide +kernel
theorem dX5_leafAt_64 : decode cX5_leafAt 64 = .ok (.iconst 5, 1) := by decide +kernel
theorem dX5_leafAt_65 : decode cX5_leafAt 65 = .ok (.ireturn, 1) := by decide +kernel
theorem dX5_leafAt_66 : decode cX5_leafAt 66 = .ok (.aload_n 0, 1) := by decide +kernel
theorem dX5_leafAt_67 : decode cX5_leafAt 67 = .ok (.ldc 103, 2) := by decide +kernel
theorem dX5_leafAt_69 : decode cX5_leafAt 69 = .ok (.invokevirtual 67, 3) := by decide +kernel
theorem dX5_leafAt_72 : decode cX5_leafAt 72 = .ok (.ifCond .eq 6, 3) := by decide +kernel
theorem dX5_leafAt_75 : decode cX5_leafAt 75 = .ok (.bipush 6, 2) := by decide +kernel
theorem dX5_leafAt_77 : decode cX5_leafAt 77 = .ok (.ireturn, 1) := by decide +kernel
theorem dX5_leafAt_78 : decode cX5_leafAt 78 = .ok (.aload_n 0, 1) := by decide +kernel
theorem dX5_leafAt_79 : decode cX5_leafAt 79 = .ok (.ldc 105, 2) := by decide +kernel
theorem dX5_leafAt_81 : decode cX5_leafAt 81 = .ok (.invokevirtual 67, 3) := by decide +kernel
theorem dX5_leafAt_84 : decode cX5_leafAt 84 = .ok (.ifCond .eq 6, 3) := by decide +kernel
theorem dX5_leafAt_87 : decode cX5_leafAt 87 = .ok (.bipush 7, 2) := by decide +kernel
theorem dX5_leafAt_89 : decode cX5_leafAt 89 = .ok (.ireturn, 1) := by decide +kernel
theorem dX5_leafAt_90 : decode cX5_leafAt 90 = .ok (.aload_n 0, 1) := by decide +kernel
theorem dX5_leafAt_91 : decode cX5_leafAt 91 = .ok (.ldc 107, 2) := by decide +kernel
theorem dX5_leafAt_93 : decode cX5_leafAt 93 = .ok (.invokevirtual 67, 3) := by decide +kernel
theorem dX5_leafAt_96 : decode cX5_leafAt 96 = .ok (.ifCond .eq 8, 3) := by decide +kernel
theorem dX5_leafAt_99 : decode cX5_leafAt 99 = .ok (.bipush 8, 2) := by decide +kernel
theorem dX5_leafAt_101 : decode cX5_leafAt 101 = .ok (.goto 4, 3) := by decide +kernel
theorem dX5_leafAt_104 : decode cX5_leafAt 104 = .ok (.iconst (-1), 1) := by decide +kernel
theorem dX5_leafAt_105 : decode cX5_leafAt 105 = .ok (.ireturn, 1) := by decide +kernel
theorem hcX5_leafAt : yX5_leafAt.cls ≠ "java/lang/invoke/MethodHandle" ∧ yX5_leafAt.cls ≠ "java/lang/invoke/VarHandle" ∧ (parseMethodDescriptor yX5_leafAt.desc).map (fun d => d.parameters.length) = some 1 := ⟨by decide +kernel, by decide +kernel, by decide +kernel⟩
def fX5_leafAt (s0 : sg_M) (Q : Int → Prop) : Prop := fX9_isWord s0 10 (fun u1 => ((u1 = 0 → fX9_isWord s0 11 (fun u4 => ((u4 = 0 → fX9_isWord s0 12 (fun u7 => ((u7 = 0 → fX9_isWord s0 13 (fun u10 => ((u10 = 0 → fX9_isWord s0 14 (fun u13 => ((u13 = 0 → fX9_isWord s0 15 (fun u16 => ((u16 = 0 → fX9_isWord s0 16 (fun u19 => ((u19 = 0 → fX9_isWord s0 17 (fun u22 => ((u22 = 0 → fX9_isWord s0 18 (fun u25 => ((u25 = 0 → Q (-1)) ∧ (¬ (u25 = 0) → Q 8)))) ∧ (¬ (u22 = 0) → Q 7)))) ∧ (¬ (u19 = 0) → Q 6)))) ∧ (¬ (u16 = 0) → Q 5)))) ∧ (¬ (u13 = 0) → Q 4)))) ∧ (¬ (u10 = 0) → Q 3)))) ∧ (¬ (u7 = 0) → Q 2)))) ∧ (¬ (u4 = 0) → Q 1)))) ∧ (¬ (u1 = 0) → Q 0)))
set_option maxHeartbeats 4000000 in
set_option maxRecDepth 100000 in
theorem CX5_leafAt {l : Launch} {G : sg_G} {La : sg_L} {s0 : sg_M} (hst : sg_St La) {Q : Int → Prop} (hf : fX5_leafAt s0 Q) : sg_C l G yX5_leafAt cX5_leafAt 1 (some .int) 6 0 0 La s0 [sg_r 3] (sg_PI La s0 Q) := by
  refine sg_body (by decide +kernel) (Nat.le_of_ble_eq_true rfl) ?_
  intro p e s m args below meth c F hnm
  unfold fX5_leafAt at hf
  show sg_W p l e (sg_rm 6 0 0) s m args below meth c (MQ below (sg_Q (some .int) G La s.heap.size (sg_PI La s0 Q)) args s 0 0 (sg_A La s.heap.size)) 1 G (sg_A La s.heap.size) La s0 0 0 0 [(0, sg_r 3)] []
  refine gw_aload_n F 0 rfl rfl (by decide) dX5_leafAt_0 ?_
  refine gw_ldcS F (i := 10) rfl dX5_leafAt_1 ?_
  refine gk_PZ F (gc_V F (S := []) (As := [sg_a (G.2.2.1 10)]) (T := TX9) (N := 8) (CX9_isWord hst (by decide) hf) (so_3 hst) (by decide) rfl kw_403 kw_92 kw_812 kw_401 kw_402 hcX9_isWord ⟨by decide, by decide⟩ rfl rfl (Nat.le_of_ble_eq_true rfl) ⟨by decide, by decide⟩ dX5_leafAt_3) (fun u1 h2 hf => ?_)
  refine gw_if_eq F (tgt := 11) dX5_leafAt_6 (by decide) (sg_B_R h2) (fun c3 => ?_) (fun c3 => ?_)
  · have hf := hf.1 c3
    refine gw_aload_n F 0 rfl rfl (by decide) dX5_leafAt_11 ?_
    refine gw_ldcS F (i := 11) rfl dX5_leafAt_12 ?_
    refine gk_PZ F (gc_V F (S := []) (As := [sg_a (G.2.2.1 11)]) (T := TX9) (N := 8) (CX9_isWord hst (by decide) hf) (so_3 hst) (by decide) rfl kw_403 kw_92 kw_812 kw_401 kw_402 hcX9_isWord ⟨by decide, by decide⟩ rfl rfl (Nat.le_of_ble_eq_true rfl) ⟨by decide, by decide⟩ dX5_leafAt_14) (fun u4 h5 hf => ?_)
    refine gw_if_eq F (tgt := 22) dX5_leafAt_17 (by decide) (sg_B_R h5) (fun c6 => ?_) (fun c6 => ?_)
    · have hf := hf.1 c6
      refine gw_aload_n F 0 rfl rfl (by decide) dX5_leafAt_22 ?_
      refine gw_ldcS F (i := 12) rfl dX5_leafAt_23 ?_
      refine gk_PZ F (gc_V F (S := []) (As := [sg_a (G.2.2.1 12)]) (T := TX9) (N := 8) (CX9_isWord hst (by decide) hf) (so_3 hst) (by decide) rfl kw_403 kw_92 kw_812 kw_401 kw_402 hcX9_isWord ⟨by decide, by decide⟩ rfl rfl (Nat.le_of_ble_eq_true rfl) ⟨by decide, by decide⟩ dX5_leafAt_25) (fun u7 h8 hf => ?_)
      refine gw_if_eq F (tgt := 33) dX5_leafAt_28 (by decide) (sg_B_R h8) (fun c9 => ?_) (fun c9 => ?_)
      · have hf := hf.1 c9
        refine gw_aload_n F 0 rfl rfl (by decide) dX5_leafAt_33 ?_
        refine gw_ldcS F (i := 13) rfl dX5_leafAt_34 ?_
        refine gk_PZ F (gc_V F (S := []) (As := [sg_a (G.2.2.1 13)]) (T := TX9) (N := 8) (CX9_isWord hst (by decide) hf) (so_3 hst) (by decide) rfl kw_403 kw_92 kw_812 kw_401 kw_402 hcX9_isWord ⟨by decide, by decide⟩ rfl rfl (Nat.le_of_ble_eq_true rfl) ⟨by decide, by decide⟩ dX5_leafAt_36) (fun u10 h11 hf => ?_)
        refine gw_if_eq F (tgt := 44) dX5_leafAt_39 (by decide) (sg_B_R h11) (fun c12 => ?_) (fun c12 => ?_)
        · have hf := hf.1 c12
          refine gw_aload_n F 0 rfl rfl (by decide) dX5_leafAt_44 ?_
          refine gw_ldcS F (i := 14) rfl dX5_leafAt_45 ?_
          refine gk_PZ F (gc_V F (S := []) (As := [sg_a (G.2.2.1 14)]) (T := TX9) (N := 8) (CX9_isWord hst (by decide) hf) (so_3 hst) (by decide) rfl kw_403 kw_92 kw_812 kw_401 kw_402 hcX9_isWord ⟨by decide, by decide⟩ rfl rfl (Nat.le_of_ble_eq_true rfl) ⟨by decide, by decide⟩ dX5_leafAt_47) (fun u13 h14 hf => ?_)
          refine gw_if_eq F (tgt := 55) dX5_leafAt_50 (by decide) (sg_B_R h14) (fun c15 => ?_) (fun c15 => ?_)
          · have hf := hf.1 c15
            refine gw_aload_n F 0 rfl rfl (by decide) dX5_leafAt_55 ?_
            refine gw_ldcS F (i := 15) rfl dX5_leafAt_56 ?_
            refine gk_PZ F (gc_V F (S := []) (As := [sg_a (G.2.2.1 15)]) (T := TX9) (N := 8) (CX9_isWord hst (by decide) hf) (so_3 hst) (by decide) rfl kw_403 kw_92 kw_812 kw_401 kw_402 hcX9_isWord ⟨by decide, by decide⟩ rfl rfl (Nat.le_of_ble_eq_true rfl) ⟨by decide, by decide⟩ dX5_leafAt_58) (fun u16 h17 hf => ?_)
            refine gw_if_eq F (tgt := 66) dX5_leafAt_61 (by decide) (sg_B_R h17) (fun c18 => ?_) (fun c18 => ?_)
            · have hf := hf.1 c18
              refine gw_aload_n F 0 rfl rfl (by decide) dX5_leafAt_66 ?_
              refine gw_ldcS F (i := 16) rfl dX5_leafAt_67 ?_
              refine gk_PZ F (gc_V F (S := []) (As := [sg_a (G.2.2.1 16)]) (T := TX9) (N := 8) (CX9_isWord hst (by decide) hf) (so_3 hst) (by decide) rfl kw_403 kw_92 kw_812 kw_401 kw_402 hcX9_isWord ⟨by decide, by decide⟩ rfl rfl (Nat.le_of_ble_eq_true rfl) ⟨by decide, by decide⟩ dX5_leafAt_69) (fun u19 h20 hf => ?_)
              refine gw_if_eq F (tgt := 78) dX5_leafAt_72 (by decide) (sg_B_R h20) (fun c21 => ?_) (fun c21 => ?_)
              · have hf := hf.1 c21
                refine gw_aload_n F 0 rfl rfl (by decide) dX5_leafAt_78 ?_
                refine gw_ldcS F (i := 17) rfl dX5_leafAt_79 ?_
                refine gk_PZ F (gc_V F (S := []) (As := [sg_a (G.2.2.1 17)]) (T := TX9) (N := 8) (CX9_isWord hst (by decide) hf) (so_3 hst) (by decide) rfl kw_403 kw_92 kw_812 kw_401 kw_402 hcX9_isWord ⟨by decide, by decide⟩ rfl rfl (Nat.le_of_ble_eq_true rfl) ⟨by decide, by decide⟩ dX5_leafAt_81) (fun u22 h23 hf => ?_)
                refine gw_if_eq F (tgt := 90) dX5_leafAt_84 (by decide) (sg_B_R h23) (fun c24 => ?_) (fun c24 => ?_)
                · have hf := hf.1 c24
                  refine gw_aload_n F 0 rfl rfl (by decide) dX5_leafAt_90 ?_
                  refine gw_ldcS F (i := 18) rfl dX5_leafAt_91 ?_
                  refine gk_PZ F (gc_V F (S := []) (As := [sg_a (G.2.2.1 18)]) (T := TX9) (N := 8) (CX9_isWord hst (by decide) hf) (so_3 hst) (by decide) rfl kw_403 kw_92 kw_812 kw_401 kw_402 hcX9_isWord ⟨by decide, by decide⟩ rfl rfl (Nat.le_of_ble_eq_true rfl) ⟨by decide, by decide⟩ dX5_leafAt_93) (fun u25 h26 hf => ?_)
                  refine gw_if_eq F (tgt := 104) dX5_leafAt_96 (by decide) (sg_B_R h26) (fun c27 => ?_) (fun c27 => ?_)
                  · have hf := hf.1 c27
                    refine gw_iconst F dX5_leafAt_104 ?_
                    exact gr_PI F (by decide) hf (by decide) (by decide) dX5_leafAt_105
                  · have hf := hf.2 c27
                    refine gw_bipush F rfl dX5_leafAt_99 ?_
                    refine gw_goto F (tgt := 105) dX5_leafAt_101 (by decide) ?_
                    exact gr_PI F (by decide) hf (by decide) (by decide) dX5_leafAt_105
                · have hf := hf.2 c24
                  refine gw_bipush F rfl dX5_leafAt_87 ?_
                  exact gr_PI F (by decide) hf (by decide) (by decide) dX5_leafAt_89
              · have hf := hf.2 c21
                refine gw_bipush F rfl dX5_leafAt_75 ?_
                exact gr_PI F (by decide) hf (by decide) (by decide) dX5_leafAt_77
            · have hf := hf.2 c18
              refine gw_iconst F dX5_leafAt_64 ?_
              exact gr_PI F (by decide) hf (by decide) (by decide) dX5_leafAt_65
          · have hf := hf.2 c15
            refine gw_iconst F dX5_leafAt_53 ?_
            exact gr_PI F (by decide) hf (by decide) (by decide) dX5_leafAt_54
        · have hf := hf.2 c12
          refine gw_iconst F dX5_leafAt_42 ?_
          exact gr_PI F (by decide) hf (by decide) (by decide) dX5_leafAt_43
      · have hf := hf.2 c9
        refine gw_iconst F dX5_leafAt_31 ?_
        exact gr_PI F (by decide) hf (by decide) (by decide) dX5_leafAt_32
    · have hf := hf.2 c6
      refine gw_iconst F dX5_leafAt_20 ?_
      exact gr_PI F (by decide) hf (by decide) (by decide) dX5_leafAt_21
  · have hf := hf.2 c3
    refine gw_iconst F dX5_leafAt_9 ?_
    exact gr_PI F (by decide) hf (by decide) (by decide) dX5_leafAt_10
