theorem dX12_run_0 : decode cX12_run 0 = .ok (.aload_n 0, 1) := by decide +kernel
theorem dX12_run_1 : decode cX12_run 1 = .ok (.iconst 0, 1) := by decide +kernel
theorem dX12_run_2 : decode cX12_run 2 = .ok (.putfield 84, 3) := by decide +kernel
theorem dX12_run_5 : decode cX12_run 5 = .ok (.iload_n 1, 1) := by decide +kernel
theorem dX12_run_6 : decode cX12_run 6 = .ok (.iconst 0, 1) := by decide +kernel
theorem dX12_run_7 : decode cX12_run 7 = .ok (.iconst 4, 1) := by decide +kernel
theorem dX12_run_8 : decode cX12_run 8 = .ok (.invokestatic 155, 3) := by decide +kernel
theorem dX12_run_11 : decode cX12_run 11 = .ok (.ifCond .eq 12, 3) := by decide +kernel
theorem dX12_run_14 : decode cX12_run 14 = .ok (.aload_n 0, 1) := by decide +kernel
theorem dX12_run_15 : decode cX12_run 15 = .ok (.getfield 47, 3) := by decide +kernel
theorem dX12_run_18 : decode cX12_run 18 = .ok (.iload_n 1, 1) := by decide +kernel
theorem dX12_run_19 : decode cX12_run 19 = .ok (.iaload, 1) := by decide +kernel
theorem dX12_run_20 : decode cX12_run 20 = .ok (.goto 4, 3) := by decide +kernel
theorem dX12_run_23 : decode cX12_run 23 = .ok (.iconst (-1), 1) := by decide +kernel
theorem dX12_run_24 : decode cX12_run 24 = .ok (.ireturn, 1) := by decide +kernel
theorem hcX12_run : yX12_run.cls ≠ "java/lang/invoke/MethodHandle" ∧ yX12_run.cls ≠ "java/lang/invoke/VarHandle" ∧ (parseMethodDescriptor yX12_run.desc).map (fun d => d.parameters.length) = some 1 := ⟨by decide +kernel, by decide +kernel, by decide +kernel⟩
def fX12_run (s0 : sg_M) (x1 : Int) (Q : Int → sg_M → Prop) : Prop := ∀ s1 : sg_M, s1 = sg_up s0 64 0 0 → fX12_isIn x1 0 4 (fun u3 => ((u3 = 0 → Q (-1) s1) ∧ (¬ (u3 = 0) → (0 ≤ x1 ∧ x1 < 5) ∧ Q (s1 77 x1) s1)))
set_option maxHeartbeats 4000000 in
set_option maxRecDepth 100000 in
theorem CX12_run {l : Launch} {G : sg_G} {La : sg_L} {s0 : sg_M} (hst : sg_St La) {x1 : Int} (r1 : sg_R x1) {Q : Int → sg_M → Prop} (hf : fX12_run s0 x1 Q) : sg_C l G yX12_run cX12_run 2 (some .int) 2 0 0 La s0 [sg_r 64, sg_i x1] (sg_HI La Q) := by
  refine sg_body (by decide +kernel) (Nat.le_of_ble_eq_true rfl) ?_
  intro p e s m args below meth c F hnm
  unfold fX12_run at hf
  show sg_W p l e (sg_rm 2 0 0) s m args below meth c (MQ below (sg_Q (some .int) G La s.heap.size (sg_HI La Q)) args s 0 0 (sg_A La s.heap.size)) 2 G (sg_A La s.heap.size) La s0 0 0 0 [(0, sg_r 64), (1, sg_i x1)] []
  refine gw_aload_n F 0 rfl rfl (by decide) dX12_run_0 ?_
  refine gw_iconst F dX12_run_1 ?_
  obtain ⟨s1, e2⟩ : ∃ z : sg_M, z = sg_up s0 64 0 0 := ⟨_, rfl⟩
  have hf := hf s1 e2
  refine gw_put0 F (so_64 hst) (by decide) rfl sg_lay_RX12 (j := 0) (by decide) (by decide) e2 tyX12_ok nmX12 rfl (tyX12_ok 0 (by decide)) rfl (host := "") (.inl kw_956) dX12_run_2 ?_
  refine gw_iload_n F 1 rfl rfl dX12_run_5 ?_
  refine gw_iconst F dX12_run_6 ?_
  refine gw_iconst F dX12_run_7 ?_
  refine gk_PZ F (gc_S F (S := []) (As := [sg_i x1, sg_i 0, sg_i 4]) (CX12_isIn r1 (by decide) (by decide) hf) kw_1084 kw_103 kw_1082 kw_1083 hcX12_isIn ⟨by decide, by decide⟩ rfl rfl (Nat.le_of_ble_eq_true rfl) ⟨by decide, by decide⟩ dX12_run_8) (fun u3 h4 hf => ?_)
  refine gw_if_eq F (tgt := 23) dX12_run_11 (by decide) (sg_B_R h4) (fun c5 => ?_) (fun c5 => ?_)
  · have hf := hf.1 c5
    refine gw_iconst F dX12_run_23 ?_
    exact gr_HI F (by decide) hf (by decide) (by decide) dX12_run_24
  · have hf := hf.2 c5
    refine gw_aload_n F 0 rfl rfl (by decide) dX12_run_14 ?_
    refine gw_get7 F (so_64 hst) (by decide) rfl sg_lay_RX12 (j := 34) (by decide) (o1 := 77) (by first | rfl | omega) rfl (host := "") (.inl kw_990) dX12_run_15 (fun h6 => ?_)
    refine gw_iload_n F 1 rfl rfl dX12_run_18 ?_
    obtain ⟨⟨b70, b71⟩, hf⟩ := hf
    refine gw_iald F (sa_77 hst) b70 b71 dX12_run_19 (fun h8 => ?_)
    refine gw_goto F (tgt := 24) dX12_run_20 (by decide) ?_
    exact gr_HI F h8 hf (by decide) (by decide) dX12_run_24

theorem dX12_songAt_0 : decode cX12_songAt 0 = .ok (.aload_n 0, 1) := by decide +kernel
theorem dX12_songAt_1 : decode cX12_songAt 1 = .ok (.iconst 0, 1) := by decide +kernel
theorem dX12_songAt_2 : decode cX12_songAt 2 = .ok (.putfield 84, 3) := by decide +kernel
theorem dX12_songAt_5 : decode cX12_songAt 5 = .ok (.iload_n 1, 1) := by decide +kernel
theorem dX12_songAt_6 : decode cX12_songAt 6 = .ok (.ifCond .lt 20, 3) := by decide +kernel
theorem dX12_songAt_9 : decode cX12_songAt 9 = .ok (.iload_n 1, 1) := by decide +kernel
theorem dX12_songAt_10 : decode cX12_songAt 10 = .ok (.aload_n 0, 1) := by decide +kernel
theorem dX12_songAt_11 : decode cX12_songAt 11 = .ok (.getfield 344, 3) := by decide +kernel
theorem dX12_songAt_14 : decode cX12_songAt 14 = .ok (.if_icmp .ge 12, 3) := by decide +kernel
theorem dX12_songAt_17 : decode cX12_songAt 17 = .ok (.aload_n 0, 1) := by decide +kernel
theorem dX12_songAt_18 : decode cX12_songAt 18 = .ok (.getfield 65, 3) := by decide +kernel
theorem dX12_songAt_21 : decode cX12_songAt 21 = .ok (.iload_n 1, 1) := by decide +kernel
theorem dX12_songAt_22 : decode cX12_songAt 22 = .ok (.iaload, 1) := by decide +kernel
theorem dX12_songAt_23 : decode cX12_songAt 23 = .ok (.goto 4, 3) := by decide +kernel
theorem dX12_songAt_26 : decode cX12_songAt 26 = .ok (.iconst (-1), 1) := by decide +kernel
theorem dX12_songAt_27 : decode cX12_songAt 27 = .ok (.ireturn, 1) := by decide +kernel
theorem hcX12_songAt : yX12_songAt.cls ≠ "java/lang/invoke/MethodHandle" ∧ yX12_songAt.cls ≠ "java/lang/invoke/VarHandle" ∧ (parseMethodDescriptor yX12_songAt.desc).map (fun d => d.parameters.length) = some 1 := ⟨by decide +kernel, by decide +kernel, by decide +kernel⟩
def fX12_songAt (s0 : sg_M) (x1 : Int) (Q : Int → sg_M → Prop) : Prop := ∀ s1 : sg_M, s1 = sg_up s0 64 0 0 → ((x1 < 0 → Q (-1) s1) ∧ (¬ (x1 < 0) → (((s1 64 50) ≤ x1 → Q (-1) s1) ∧ (¬ ((s1 64 50) ≤ x1) → (0 ≤ x1 ∧ x1 < 60) ∧ Q (s1 83 x1) s1))))
set_option maxHeartbeats 4000000 in
set_option maxRecDepth 100000 in
theorem CX12_songAt {l : Launch} {G : sg_G} {La : sg_L} {s0 : sg_M} (hst : sg_St La) {x1 : Int} (r1 : sg_R x1) {Q : Int → sg_M → Prop} (hf : fX12_songAt s0 x1 Q) : sg_C l G yX12_songAt cX12_songAt 2 (some .int) 1 0 0 La s0 [sg_r 64, sg_i x1] (sg_HI La Q) := by
  refine sg_body (by decide +kernel) (Nat.le_of_ble_eq_true rfl) ?_
  intro p e s m args below meth c F hnm
  unfold fX12_songAt at hf
  show sg_W p l e (sg_rm 1 0 0) s m args below meth c (MQ below (sg_Q (some .int) G La s.heap.size (sg_HI La Q)) args s 0 0 (sg_A La s.heap.size)) 2 G (sg_A La s.heap.size) La s0 0 0 0 [(0, sg_r 64), (1, sg_i x1)] []
  refine gw_aload_n F 0 rfl rfl (by decide) dX12_songAt_0 ?_
  refine gw_iconst F dX12_songAt_1 ?_
  obtain ⟨s1, e2⟩ : ∃ z : sg_M, z = sg_up s0 64 0 0 := ⟨_, rfl⟩
  have hf := hf s1 e2
  refine gw_put0 F (so_64 hst) (by decide) rfl sg_lay_RX12 (j := 0) (by decide) (by decide) e2 tyX12_ok nmX12 rfl (tyX12_ok 0 (by decide)) rfl (host := "") (.inl kw_956) dX12_songAt_2 ?_
  refine gw_iload_n F 1 rfl rfl dX12_songAt_5 ?_
  refine gw_if_lt F (tgt := 26) dX12_songAt_6 (by decide) r1 (fun c3 => ?_) (fun c3 => ?_)
  · have hf := hf.1 c3
    refine gw_iconst F dX12_songAt_26 ?_
    exact gr_HI F (by decide) hf (by decide) (by decide) dX12_songAt_27
  · have hf := hf.2 c3
    refine gw_iload_n F 1 rfl rfl dX12_songAt_9 ?_
    refine gw_aload_n F 0 rfl rfl (by decide) dX12_songAt_10 ?_
    refine gw_get0 F (so_64 hst) (by decide) rfl sg_lay_RX12 (j := 50) (by decide) rfl (host := "") (.inl kw_1006) dX12_songAt_11 (fun h4 => ?_)
    refine gw_icmp_ge F (tgt := 26) dX12_songAt_14 (by decide) r1 h4 (fun c5 => ?_) (fun c5 => ?_)
    · have hf := hf.1 c5
      refine gw_iconst F dX12_songAt_26 ?_
      exact gr_HI F (by decide) hf (by decide) (by decide) dX12_songAt_27
    · have hf := hf.2 c5
      refine gw_aload_n F 0 rfl rfl (by decide) dX12_songAt_17 ?_
      refine gw_get7 F (so_64 hst) (by decide) rfl sg_lay_RX12 (j := 49) (by decide) (o1 := 83) (by first | rfl | omega) rfl (host := "") (.inl kw_1005) dX12_songAt_18 (fun h6 => ?_)
      refine gw_iload_n F 1 rfl rfl dX12_songAt_21 ?_
      obtain ⟨⟨b70, b71⟩, hf⟩ := hf
      refine gw_iald F (sa_83 hst) b70 b71 dX12_songAt_22 (fun h8 => ?_)
      refine gw_goto F (tgt := 27) dX12_songAt_23 (by decide) ?_
      exact gr_HI F h8 hf (by decide) (by decide) dX12_songAt_27
