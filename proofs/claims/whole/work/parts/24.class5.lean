theorem dX11_song_0 : decode cX11_song 0 = .ok (.aload_n 0, 1) := by decide +kernel
theorem dX11_song_1 : decode cX11_song 1 = .ok (.getfield 74, 3) := by decide +kernel
theorem dX11_song_4 : decode cX11_song 4 = .ok (.aload_n 0, 1) := by decide +kernel
theorem dX11_song_5 : decode cX11_song 5 = .ok (.getfield 10, 3) := by decide +kernel
theorem dX11_song_8 : decode cX11_song 8 = .ok (.invokevirtual 254, 3) := by decide +kernel
theorem dX11_song_11 : decode cX11_song 11 = .ok (.ifCond .eq 14, 3) := by decide +kernel
theorem dX11_song_14 : decode cX11_song 14 = .ok (.iload_n 1, 1) := by decide +kernel
theorem dX11_song_15 : decode cX11_song 15 = .ok (.invokestatic 258, 3) := by decide +kernel
theorem dX11_song_18 : decode cX11_song 18 = .ok (.ifCond .eq 7, 3) := by decide +kernel
theorem dX11_song_21 : decode cX11_song 21 = .ok (.iconst 1, 1) := by decide +kernel
theorem dX11_song_22 : decode cX11_song 22 = .ok (.goto 4, 3) := by decide +kernel
theorem dX11_song_25 : decode cX11_song 25 = .ok (.iconst 0, 1) := by decide +kernel
theorem dX11_song_26 : decode cX11_song 26 = .ok (.istore_n 2, 1) := by decide +kernel
theorem dX11_song_27 : decode cX11_song 27 = .ok (.aload_n 0, 1) := by decide +kernel
theorem dX11_song_28 : decode cX11_song 28 = .ok (.getfield 10, 3) := by decide +kernel
theorem dX11_song_31 : decode cX11_song 31 = .ok (.iconst 0, 1) := by decide +kernel
theorem dX11_song_32 : decode cX11_song 32 = .ok (.putfield 122, 3) := by decide +kernel
theorem dX11_song_35 : decode cX11_song 35 = .ok (.iload_n 2, 1) := by decide +kernel
theorem dX11_song_36 : decode cX11_song 36 = .ok (.ifCond .ne 6, 3) := by decide +kernel
theorem dX11_song_39 : decode cX11_song 39 = .ok (.bipush (-2), 2) := by decide +kernel
theorem dX11_song_41 : decode cX11_song 41 = .ok (.ireturn, 1) := by decide +kernel
theorem dX11_song_42 : decode cX11_song 42 = .ok (.aload_n 0, 1) := by decide +kernel
theorem dX11_song_43 : decode cX11_song 43 = .ok (.invokevirtual 251, 3) := by decide +kernel
theorem dX11_song_46 : decode cX11_song 46 = .ok (.aload_n 0, 1) := by decide +kernel
theorem dX11_song_47 : decode cX11_song 47 = .ok (.getfield 74, 3) := by decide +kernel
theorem dX11_song_50 : decode cX11_song 50 = .ok (.aload_n 0, 1) := by decide +kernel
theorem dX11_song_51 : decode cX11_song 51 = .ok (.getfield 39, 3) := by decide +kernel
theorem dX11_song_54 : decode cX11_song 54 = .ok (.getfield 237, 3) := by decide +kernel
theorem dX11_song_57 : decode cX11_song 57 = .ok (.aload_n 0, 1) := by decide +kernel
theorem dX11_song_58 : decode cX11_song 58 = .ok (.getfield 93, 3) := by decide +kernel
theorem dX11_song_61 : decode cX11_song 61 = .ok (.iload_n 1, 1) := by decide +kernel
theorem dX11_song_62 : decode cX11_song 62 = .ok (.invokevirtual 261, 3) := by decide +kernel
theorem dX11_song_65 : decode cX11_song 65 = .ok (.ireturn, 1) := by decide +kernel
theorem hcX11_song : yX11_song.cls ≠ "java/lang/invoke/MethodHandle" ∧ yX11_song.cls ≠ "java/lang/invoke/VarHandle" ∧ (parseMethodDescriptor yX11_song.desc).map (fun d => d.parameters.length) = some 1 := ⟨by decide +kernel, by decide +kernel, by decide +kernel⟩
def fX11_song_j26 (La : sg_L) (x1 : Int) (s5 : sg_M) (Q : Int → sg_M → Prop) (y0_26 : Int) : Prop := ∀ s7 : sg_M, s7 = sg_up s5 1 1 0 → ((y0_26 ≠ 0 → fX11_hearBook La s7 (fun s10 => fX6_play La s10 20 58 x1 (fun u15 s17 => Q u15 s17))) ∧ (y0_26 = 0 → Q (-2) s7))
def fX11_song_j25  (k26 : Int → Prop)  : Prop := k26 0
def fX11_song (La : sg_L) (s0 : sg_M) (x1 : Int) (Q : Int → sg_M → Prop) : Prop := fX6_readNotes La s0 (fun u3 s5 => ((u3 = 0 → (fX11_song_j25  (fX11_song_j26 La x1 s5 Q))) ∧ (¬ (u3 = 0) → fX11_isSlip x1 (fun u19 => ((u19 = 0 → (fX11_song_j25  (fX11_song_j26 La x1 s5 Q))) ∧ (¬ (u19 = 0) → (fX11_song_j26 La x1 s5 Q) 1))))))
set_option maxHeartbeats 4000000 in
set_option maxRecDepth 100000 in
theorem CX11_song {l : Launch} {G : sg_G} {La : sg_L} {s0 : sg_M} (hst : sg_St La) {x1 : Int} (r1 : sg_R x1) {Q : Int → sg_M → Prop} (hf : fX11_song La s0 x1 Q) : sg_C l G yX11_song cX11_song 3 (some .int) 7 0 0 La s0 [sg_r 0, sg_i x1] (sg_HI La Q) := by
  refine sg_body (by decide +kernel) (Nat.le_of_ble_eq_true rfl) ?_
  intro p e s m args below meth c F hnm
  unfold fX11_song at hf
  show sg_W p l e (sg_rm 7 0 0) s m args below meth c (MQ below (sg_Q (some .int) G La s.heap.size (sg_HI La Q)) args s 0 0 (sg_A La s.heap.size)) 3 G (sg_A La s.heap.size) La s0 0 0 0 [(0, sg_r 0), (1, sg_i x1)] []
  refine gw_aload_n F 0 rfl rfl (by decide) dX11_song_0 ?_
  refine gw_get7 F (so_0 hst) (by decide) rfl sg_lay_RX11 (j := 9) (by decide) (o1 := 46) (by first | rfl | omega) rfl (host := "") (.inl kw_335) dX11_song_1 (fun h1 => ?_)
  refine gw_aload_n F 0 rfl rfl (by decide) dX11_song_4 ?_
  refine gw_get7 F (so_0 hst) (by decide) rfl sg_lay_RX11 (j := 0) (by decide) (o1 := 1) (by first | rfl | omega) rfl (host := "") (.inl kw_326) dX11_song_5 (fun h2 => ?_)
  refine gk_HZ F (gc_V F (S := []) (As := [sg_r 1]) (T := TX6) (N := 3) (CX6_readNotes hst hf) (so_46 hst) (by decide) rfl kw_675 kw_102 kw_672 kw_673 kw_674 hcX6_readNotes ⟨by decide, by decide⟩ rfl rfl (Nat.le_of_ble_eq_true rfl) ⟨by decide, by decide⟩ dX11_song_8) (fun u3 s5 h4 hf => ?_)
  have J26 : ∀ (y0_26 : Int), sg_R y0_26 → (fX11_song_j26 La x1 s5 Q) y0_26 → sg_W p l e (sg_rm 7 0 0) s m args below meth c (MQ below (sg_Q (some .int) G La s.heap.size (sg_HI La Q)) args s 0 0 (sg_A La s.heap.size)) 3 G (sg_A La s.heap.size) La s5 0 0 26 [(0, sg_r 0), (1, sg_i x1)] [sg_i y0_26] := by
    intro y0_26 ry0_26 hf
    unfold fX11_song_j26 at hf
    refine gw_istore_n F rfl (by decide) rfl dX11_song_26 ?_
    refine gw_aload_n F 1 rfl rfl (by decide) dX11_song_27 ?_
    refine gw_get7 F (so_0 hst) (by decide) rfl sg_lay_RX11 (j := 0) (by decide) (o1 := 1) (by first | rfl | omega) rfl (host := "") (.inl kw_326) dX11_song_28 (fun h6 => ?_)
    refine gw_iconst F dX11_song_31 ?_
    obtain ⟨s7, e8⟩ : ∃ z : sg_M, z = sg_up s5 1 1 0 := ⟨_, rfl⟩
    have hf := hf s7 e8
    refine gw_put0 F (so_1 hst) (by decide) rfl sg_lay_RX8 (j := 1) (by decide) (by decide) e8 tyX8_ok nmX8 rfl (tyX8_ok 1 (by decide)) rfl (.inr kw_128) dX11_song_32 ?_
    refine gw_iload_n F 0 rfl rfl dX11_song_35 ?_
    refine gw_if_ne F (tgt := 42) dX11_song_36 (by decide) ry0_26 (fun c9 => ?_) (fun c9 => ?_)
    · have hf := hf.1 c9
      refine gw_aload_n F 1 rfl rfl (by decide) dX11_song_42 ?_
      refine gk_HV F (gc_V F (S := []) (As := []) (T := TX11) (N := 19) (CX11_hearBook hst hf) (so_0 hst) (by decide) rfl kw_651 kw_90 kw_649 kw_650 kw_19 hcX11_hearBook ⟨by decide, by decide⟩ rfl rfl (Nat.le_of_ble_eq_true rfl) ⟨by decide, by decide⟩ dX11_song_43) (fun s10 hf => ?_)
      refine gw_aload_n F 1 rfl rfl (by decide) dX11_song_46 ?_
      refine gw_get7 F (so_0 hst) (by decide) rfl sg_lay_RX11 (j := 9) (by decide) (o1 := 46) (by first | rfl | omega) rfl (host := "") (.inl kw_335) dX11_song_47 (fun h11 => ?_)
      refine gw_aload_n F 1 rfl rfl (by decide) dX11_song_50 ?_
      refine gw_get7 F (so_0 hst) (by decide) rfl sg_lay_RX11 (j := 2) (by decide) (o1 := 4) (by first | rfl | omega) rfl (host := "") (.inl kw_328) dX11_song_51 (fun h12 => ?_)
      refine gw_get7 F (so_4 hst) (by decide) rfl sg_lay_RX7 (j := 3) (by decide) (o1 := 20) (by first | rfl | omega) rfl (.inr kw_240) dX11_song_54 (fun h13 => ?_)
      refine gw_aload_n F 1 rfl rfl (by decide) dX11_song_57 ?_
      refine gw_get7 F (so_0 hst) (by decide) rfl sg_lay_RX11 (j := 13) (by decide) (o1 := 58) (by first | rfl | omega) rfl (host := "") (.inl kw_339) dX11_song_58 (fun h14 => ?_)
      refine gw_iload_n F 2 rfl rfl dX11_song_61 ?_
      refine gk_HI F (gc_V F (S := []) (As := [sg_r 20, sg_r 58, sg_i x1]) (T := TX6) (N := 3) (CX6_play hst (so_20 hst) (so_58 hst) r1 hf) (so_46 hst) (by decide) rfl kw_692 kw_102 kw_689 kw_690 kw_691 hcX6_play ⟨by decide, by decide⟩ rfl rfl (Nat.le_of_ble_eq_true rfl) ⟨by decide, by decide⟩ dX11_song_62) (fun u15 s17 h16 hf => ?_)
      exact gr_HI F h16 hf (by decide) (by decide) dX11_song_65
    · have hf := hf.2 c9
      refine gw_bipush F rfl dX11_song_39 ?_
      exact gr_HI F (by decide) hf (by decide) (by decide) dX11_song_41
  have J25 : (fX11_song_j25  (fX11_song_j26 La x1 s5 Q)) → sg_W p l e (sg_rm 7 0 0) s m args below meth c (MQ below (sg_Q (some .int) G La s.heap.size (sg_HI La Q)) args s 0 0 (sg_A La s.heap.size)) 3 G (sg_A La s.heap.size) La s5 0 0 25 [(0, sg_r 0), (1, sg_i x1)] [] := by
    intro hf
    unfold fX11_song_j25 at hf
    refine gw_iconst F dX11_song_25 ?_
    refine gw_sub [0, 1] rfl ?_
    exact J26 0 (by decide) hf
  refine gw_if_eq F (tgt := 25) dX11_song_11 (by decide) (sg_B_R h4) (fun c18 => ?_) (fun c18 => ?_)
  · have hf := hf.1 c18
    refine gw_sub [0, 1] rfl ?_
    exact J25  hf
  · have hf := hf.2 c18
    refine gw_iload_n F 1 rfl rfl dX11_song_14 ?_
    refine gk_PZ F (gc_S F (S := []) (As := [sg_i x1]) (CX11_isSlip r1 hf) kw_688 kw_90 kw_686 kw_687 hcX11_isSlip ⟨by decide, by decide⟩ rfl rfl (Nat.le_of_ble_eq_true rfl) ⟨by decide, by decide⟩ dX11_song_15) (fun u19 h20 hf => ?_)
    refine gw_if_eq F (tgt := 25) dX11_song_18 (by decide) (sg_B_R h20) (fun c21 => ?_) (fun c21 => ?_)
    · have hf := hf.1 c21
      refine gw_sub [0, 1] rfl ?_
      exact J25  hf
    · have hf := hf.2 c21
      refine gw_iconst F dX11_song_21 ?_
      refine gw_goto F (tgt := 26) dX11_song_22 (by decide) ?_
      refine gw_sub [0, 1] rfl ?_
      exact J26 1 (by decide) hf

theorem dX1_fillUntold_0 : decode cX1_fillUntold 0 = .ok (.aload_n 0, 1) := by decide +kernel
theorem dX1_fillUntold_1 : decode cX1_fillUntold 1 = .ok (.aload_n 0, 1) := by decide +kernel
theorem dX1_fillUntold_2 : decode cX1_fillUntold 2 = .ok (.getfield 28, 3) := by decide +kernel
theorem dX1_fillUntold_5 : decode cX1_fillUntold 5 = .ok (.ifCond .ne 9, 3) := by decide +kernel
theorem dX1_fillUntold_8 : decode cX1_fillUntold 8 = .ok (.sipush 300, 3) := by decide +kernel
theorem dX1_fillUntold_11 : decode cX1_fillUntold 11 = .ok (.goto 7, 3) := by decide +kernel
theorem dX1_fillUntold_14 : decode cX1_fillUntold 14 = .ok (.aload_n 0, 1) := by decide +kernel
theorem dX1_fillUntold_15 : decode cX1_fillUntold 15 = .ok (.getfield 28, 3) := by decide +kernel
theorem dX1_fillUntold_18 : decode cX1_fillUntold 18 = .ok (.putfield 28, 3) := by decide +kernel
theorem dX1_fillUntold_21 : decode cX1_fillUntold 21 = .ok (.aload_n 0, 1) := by decide +kernel
theorem dX1_fillUntold_22 : decode cX1_fillUntold 22 = .ok (.aload_n 0, 1) := by decide +kernel
theorem dX1_fillUntold_23 : decode cX1_fillUntold 23 = .ok (.getfield 31, 3) := by decide +kernel
theorem dX1_fillUntold_26 : decode cX1_fillUntold 26 = .ok (.ifCond .ne 9, 3) := by decide +kernel
theorem dX1_fillUntold_29 : decode cX1_fillUntold 29 = .ok (.sipush 2000, 3) := by decide +kernel
theorem dX1_fillUntold_32 : decode cX1_fillUntold 32 = .ok (.goto 7, 3) := by decide +kernel
theorem dX1_fillUntold_35 : decode cX1_fillUntold 35 = .ok (.aload_n 0, 1) := by decide +kernel
theorem dX1_fillUntold_36 : decode cX1_fillUntold 36 = .ok (.getfield 31, 3) := by decide +kernel
theorem dX1_fillUntold_39 : decode cX1_fillUntold 39 = .ok (.putfield 31, 3) := by decide +kernel
theorem dX1_fillUntold_42 : decode cX1_fillUntold 42 = .ok (.return_, 1) := by decide +kernel
theorem hcX1_fillUntold : yX1_fillUntold.cls ≠ "java/lang/invoke/MethodHandle" ∧ yX1_fillUntold.cls ≠ "java/lang/invoke/VarHandle" ∧ (parseMethodDescriptor yX1_fillUntold.desc).map (fun d => d.parameters.length) = some 0 := ⟨by decide +kernel, by decide +kernel, by decide +kernel⟩
def fX1_fillUntold_j18 (s0 : sg_M) (o : Int) (Q : sg_M → Prop) (y0_18 : Int) : Prop := ∀ s2 : sg_M, s2 = sg_up s0 o 5 y0_18 → (((s2 o 6) ≠ 0 → ∀ s7 : sg_M, s7 = sg_up s2 o 6 (s2 o 6) → Q s7) ∧ ((s2 o 6) = 0 → ∀ s9 : sg_M, s9 = sg_up s2 o 6 2000 → Q s9))
def fX1_fillUntold (s0 : sg_M) (o : Int) (Q : sg_M → Prop) : Prop := (((s0 o 5) ≠ 0 → (fX1_fillUntold_j18 s0 o Q) (s0 o 5)) ∧ ((s0 o 5) = 0 → (fX1_fillUntold_j18 s0 o Q) 300))
set_option maxHeartbeats 4000000 in
set_option maxRecDepth 100000 in
theorem CX1_fillUntold {l : Launch} {G : sg_G} {La : sg_L} {s0 : sg_M} {o : Int} (to : sg_O La o 1) {Q : sg_M → Prop} (hf : fX1_fillUntold s0 o Q) : sg_C l G yX1_fillUntold cX1_fillUntold 1 (none) 1 0 0 La s0 [sg_r o] (sg_HV La Q) := by
  refine sg_body (by decide +kernel) (Nat.le_of_ble_eq_true rfl) ?_
  intro p e s m args below meth c F hnm
  unfold fX1_fillUntold at hf
  show sg_W p l e (sg_rm 1 0 0) s m args below meth c (MQ below (sg_Q (none) G La s.heap.size (sg_HV La Q)) args s 0 0 (sg_A La s.heap.size)) 1 G (sg_A La s.heap.size) La s0 0 0 0 [(0, sg_r o)] []
  refine gw_aload_n F 0 rfl rfl to.1 dX1_fillUntold_0 ?_
  refine gw_aload_n F 0 rfl rfl to.1 dX1_fillUntold_1 ?_
  refine gw_get0 F to (by decide) rfl sg_lay_RX1 (j := 5) (by decide) rfl (host := "") (.inl kw_166) dX1_fillUntold_2 (fun h1 => ?_)
  have J18 : ∀ (y0_18 : Int), sg_R y0_18 → (fX1_fillUntold_j18 s0 o Q) y0_18 → sg_W p l e (sg_rm 1 0 0) s m args below meth c (MQ below (sg_Q (none) G La s.heap.size (sg_HV La Q)) args s 0 0 (sg_A La s.heap.size)) 1 G (sg_A La s.heap.size) La s0 0 0 18 [(0, sg_r o)] [sg_i y0_18, sg_r o] := by
    intro y0_18 ry0_18 hf
    unfold fX1_fillUntold_j18 at hf
    obtain ⟨s2, e3⟩ : ∃ z : sg_M, z = sg_up s0 o 5 y0_18 := ⟨_, rfl⟩
    have hf := hf s2 e3
    refine gw_put0 F to (by decide) rfl sg_lay_RX1 (j := 5) (by decide) ry0_18 e3 tyX1_ok nmX1 rfl (tyX1_ok 5 (by decide)) rfl (host := "") (.inl kw_166) dX1_fillUntold_18 ?_
    refine gw_aload_n F 0 rfl rfl to.1 dX1_fillUntold_21 ?_
    refine gw_aload_n F 0 rfl rfl to.1 dX1_fillUntold_22 ?_
    refine gw_get0 F to (by decide) rfl sg_lay_RX1 (j := 6) (by decide) rfl (host := "") (.inl kw_169) dX1_fillUntold_23 (fun h4 => ?_)
    refine gw_if_ne F (tgt := 35) dX1_fillUntold_26 (by decide) h4 (fun c5 => ?_) (fun c5 => ?_)
    · have hf := hf.1 c5
      refine gw_aload_n F 0 rfl rfl to.1 dX1_fillUntold_35 ?_
      refine gw_get0 F to (by decide) rfl sg_lay_RX1 (j := 6) (by decide) rfl (host := "") (.inl kw_169) dX1_fillUntold_36 (fun h6 => ?_)
      obtain ⟨s7, e8⟩ : ∃ z : sg_M, z = sg_up s2 o 6 (s2 o 6) := ⟨_, rfl⟩
      have hf := hf s7 e8
      refine gw_put0 F to (by decide) rfl sg_lay_RX1 (j := 6) (by decide) h6 e8 tyX1_ok nmX1 rfl (tyX1_ok 6 (by decide)) rfl (host := "") (.inl kw_169) dX1_fillUntold_39 ?_
      exact gr_HV F hf (by decide) (by decide) dX1_fillUntold_42
    · have hf := hf.2 c5
      refine gw_sipush F rfl dX1_fillUntold_29 ?_
      refine gw_goto F (tgt := 39) dX1_fillUntold_32 (by decide) ?_
      obtain ⟨s9, e10⟩ : ∃ z : sg_M, z = sg_up s2 o 6 2000 := ⟨_, rfl⟩
      have hf := hf s9 e10
      refine gw_put0 F to (by decide) rfl sg_lay_RX1 (j := 6) (by decide) (by decide) e10 tyX1_ok nmX1 rfl (tyX1_ok 6 (by decide)) rfl (host := "") (.inl kw_169) dX1_fillUntold_39 ?_
      exact gr_HV F hf (by decide) (by decide) dX1_fillUntold_42
  refine gw_if_ne F (tgt := 14) dX1_fillUntold_5 (by decide) h1 (fun c11 => ?_) (fun c11 => ?_)
  · have hf := hf.1 c11
    refine gw_aload_n F 0 rfl rfl to.1 dX1_fillUntold_14 ?_
    refine gw_get0 F to (by decide) rfl sg_lay_RX1 (j := 5) (by decide) rfl (host := "") (.inl kw_166) dX1_fillUntold_15 (fun h12 => ?_)
    refine gw_sub [0] rfl ?_
    exact J18 (s0 o 5) h12 hf
  · have hf := hf.2 c11
    refine gw_sipush F rfl dX1_fillUntold_8 ?_
    refine gw_goto F (tgt := 18) dX1_fillUntold_11 (by decide) ?_
    refine gw_sub [0] rfl ?_
    exact J18 300 (by decide) hf

theorem dX11_bow_0 : decode cX11_bow 0 = .ok (.aload_n 0, 1) := by decide +kernel
theorem dX11_bow_1 : decode cX11_bow 1 = .ok (.getfield 61, 3) := by decide +kernel
theorem dX11_bow_4 : decode cX11_bow 4 = .ok (.getfield 208, 3) := by decide +kernel
theorem dX11_bow_7 : decode cX11_bow 7 = .ok (.iload_n 1, 1) := by decide +kernel
theorem dX11_bow_8 : decode cX11_bow 8 = .ok (.invokevirtual 182, 3) := by decide +kernel
theorem dX11_bow_11 : decode cX11_bow 11 = .ok (.ireturn, 1) := by decide +kernel
theorem hcX11_bow : yX11_bow.cls ≠ "java/lang/invoke/MethodHandle" ∧ yX11_bow.cls ≠ "java/lang/invoke/VarHandle" ∧ (parseMethodDescriptor yX11_bow.desc).map (fun d => d.parameters.length) = some 1 := ⟨by decide +kernel, by decide +kernel, by decide +kernel⟩
def fX11_bow (La : sg_L) (s0 : sg_M) (x1 : Int) (Q : Int → Prop) : Prop := fX4_at La s0 38 x1 (fun u3 => Q u3)
set_option maxHeartbeats 4000000 in
set_option maxRecDepth 100000 in
theorem CX11_bow {l : Launch} {G : sg_G} {La : sg_L} {s0 : sg_M} (hst : sg_St La) {x1 : Int} (r1 : sg_R x1) {Q : Int → Prop} (hf : fX11_bow La s0 x1 Q) : sg_C l G yX11_bow cX11_bow 2 (some .int) 2 0 0 La s0 [sg_r 0, sg_i x1] (sg_PI La s0 Q) := by
  refine sg_body (by decide +kernel) (Nat.le_of_ble_eq_true rfl) ?_
  intro p e s m args below meth c F hnm
  unfold fX11_bow at hf
  show sg_W p l e (sg_rm 2 0 0) s m args below meth c (MQ below (sg_Q (some .int) G La s.heap.size (sg_PI La s0 Q)) args s 0 0 (sg_A La s.heap.size)) 2 G (sg_A La s.heap.size) La s0 0 0 0 [(0, sg_r 0), (1, sg_i x1)] []
  refine gw_aload_n F 0 rfl rfl (by decide) dX11_bow_0 ?_
  refine gw_get7 F (so_0 hst) (by decide) rfl sg_lay_RX11 (j := 6) (by decide) (o1 := 37) (by first | rfl | omega) rfl (host := "") (.inl kw_332) dX11_bow_1 (fun h1 => ?_)
  refine gw_get3 F (so_37 hst) (by decide) rfl sg_lay_RX10 (j := 0) (by decide) (o1 := 38) (by first | rfl | omega) rfl (.inr kw_284) dX11_bow_4 (fun h2 => ?_)
  refine gw_iload_n F 1 rfl rfl dX11_bow_7 ?_
  refine gk_PI F (gc_V F (S := []) (As := [sg_i x1]) (T := TX4) (N := 3) (CX4_at (so_38 hst) r1 hf) (so_38 hst) (by decide) rfl kw_546 kw_97 kw_543 kw_544 kw_545 hcX4_at ⟨by decide, by decide⟩ rfl rfl (Nat.le_of_ble_eq_true rfl) ⟨by decide, by decide⟩ dX11_bow_8) (fun u3 h4 hf => ?_)
  exact gr_PI F h4 hf (by decide) (by decide) dX11_bow_11

theorem dX11_restore_0 : decode cX11_restore 0 = .ok (.iload_n 1, 1) := by decide +kernel
theorem dX11_restore_1 : decode cX11_restore 1 = .ok (.ifCond .lt 17, 3) := by decide +kernel
theorem dX11_restore_4 : decode cX11_restore 4 = .ok (.iload_n 1, 1) := by decide +kernel
theorem dX11_restore_5 : decode cX11_restore 5 = .ok (.iconst 2, 1) := by decide +kernel
theorem dX11_restore_6 : decode cX11_restore 6 = .ok (.if_icmp .ge 12, 3) := by decide +kernel
theorem dX11_restore_9 : decode cX11_restore 9 = .ok (.aload_n 0, 1) := by decide +kernel
theorem dX11_restore_10 : decode cX11_restore 10 = .ok (.getfield 43, 3) := by decide +kernel
theorem dX11_restore_13 : decode cX11_restore 13 = .ok (.iload_n 1, 1) := by decide +kernel
theorem dX11_restore_14 : decode cX11_restore 14 = .ok (.aaload, 1) := by decide +kernel
theorem dX11_restore_15 : decode cX11_restore 15 = .ok (.ifnonnull 5, 3) := by decide +kernel
theorem dX11_restore_18 : decode cX11_restore 18 = .ok (.iconst 0, 1) := by decide +kernel
theorem dX11_restore_19 : decode cX11_restore 19 = .ok (.ireturn, 1) := by decide +kernel
theorem dX11_restore_20 : decode cX11_restore 20 = .ok (.aload_n 0, 1) := by decide +kernel
theorem dX11_restore_21 : decode cX11_restore 21 = .ok (.getfield 39, 3) := by decide +kernel
theorem dX11_restore_24 : decode cX11_restore 24 = .ok (.aload_n 0, 1) := by decide +kernel
theorem dX11_restore_25 : decode cX11_restore 25 = .ok (.getfield 43, 3) := by decide +kernel
theorem dX11_restore_28 : decode cX11_restore 28 = .ok (.iload_n 1, 1) := by decide +kernel
theorem dX11_restore_29 : decode cX11_restore 29 = .ok (.aaload, 1) := by decide +kernel
theorem dX11_restore_30 : decode cX11_restore 30 = .ok (.invokevirtual 334, 3) := by decide +kernel
theorem dX11_restore_33 : decode cX11_restore 33 = .ok (.aload_n 0, 1) := by decide +kernel
theorem dX11_restore_34 : decode cX11_restore 34 = .ok (.invokevirtual 248, 3) := by decide +kernel
theorem dX11_restore_37 : decode cX11_restore 37 = .ok (.iconst 1, 1) := by decide +kernel
theorem dX11_restore_38 : decode cX11_restore 38 = .ok (.ireturn, 1) := by decide +kernel
theorem hcX11_restore : yX11_restore.cls ≠ "java/lang/invoke/MethodHandle" ∧ yX11_restore.cls ≠ "java/lang/invoke/VarHandle" ∧ (parseMethodDescriptor yX11_restore.desc).map (fun d => d.parameters.length) = some 1 := ⟨by decide +kernel, by decide +kernel, by decide +kernel⟩
def fX11_restore (La : sg_L) (s0 : sg_M) (x1 : Int) (Q : Int → sg_M → Prop) : Prop := ((x1 < 0 → Q 0 s0) ∧ (¬ (x1 < 0) → ((2 ≤ x1 → Q 0 s0) ∧ (¬ (2 ≤ x1) → (0 ≤ x1 ∧ x1 < 2) ∧ ((0 ≤ (s0 26 x1) → (0 ≤ x1 ∧ x1 < 2) ∧ (0 ≤ (s0 26 x1)) ∧ fX7_copyFrom_A La s0 (s0 26 x1) (fun s14 => fX11_forgetAnswers s14 (fun s15 => Q 1 s15))) ∧ ((s0 26 x1) < 0 → Q 0 s0))))))
set_option maxHeartbeats 4000000 in
set_option maxRecDepth 100000 in
theorem CX11_restore {l : Launch} {G : sg_G} {La : sg_L} {s0 : sg_M} (hst : sg_St La) {x1 : Int} (r1 : sg_R x1) {Q : Int → sg_M → Prop} (hf : fX11_restore La s0 x1 Q) : sg_C l G yX11_restore cX11_restore 2 (some .boolean) 5 0 0 La s0 [sg_r 0, sg_i x1] (sg_HZ La Q) := by
  refine sg_body (by decide +kernel) (Nat.le_of_ble_eq_true rfl) ?_
  intro p e s m args below meth c F hnm
  unfold fX11_restore at hf
  show sg_W p l e (sg_rm 5 0 0) s m args below meth c (MQ below (sg_Q (some .boolean) G La s.heap.size (sg_HZ La Q)) args s 0 0 (sg_A La s.heap.size)) 2 G (sg_A La s.heap.size) La s0 0 0 0 [(0, sg_r 0), (1, sg_i x1)] []
  refine gw_iload_n F 1 rfl rfl dX11_restore_0 ?_
  refine gw_if_lt F (tgt := 18) dX11_restore_1 (by decide) r1 (fun c1 => ?_) (fun c1 => ?_)
  · have hf := hf.1 c1
    refine gw_iconst F dX11_restore_18 ?_
    exact gr_HZ F (by decide) hf (by decide) (by decide) dX11_restore_19
  · have hf := hf.2 c1
    refine gw_iload_n F 1 rfl rfl dX11_restore_4 ?_
    refine gw_iconst F dX11_restore_5 ?_
    refine gw_icmp_ge F (tgt := 18) dX11_restore_6 (by decide) r1 (by decide) (fun c2 => ?_) (fun c2 => ?_)
    · have hf := hf.1 c2
      refine gw_iconst F dX11_restore_18 ?_
      exact gr_HZ F (by decide) hf (by decide) (by decide) dX11_restore_19
    · have hf := hf.2 c2
      refine gw_aload_n F 0 rfl rfl (by decide) dX11_restore_9 ?_
      refine gw_get7 F (so_0 hst) (by decide) rfl sg_lay_RX11 (j := 3) (by decide) (o1 := 26) (by first | rfl | omega) rfl (host := "") (.inl kw_329) dX11_restore_10 (fun h3 => ?_)
      refine gw_iload_n F 1 rfl rfl dX11_restore_13 ?_
      obtain ⟨⟨b40, b41⟩, hf⟩ := hf
      refine gw_aaldS F (n := 2) (so_26 hst) (by decide) (by decide) (by decide) b40 b41 dX11_restore_14 (fun h5 => ?_)
      refine gw_ifnonnull F (tgt := 20) dX11_restore_15 (by decide) (fun c6 => ?_) (fun c6 => ?_)
      · have hf := hf.1 c6
        have t7 := sg_nn h5 c6
        refine gw_aload_n F 0 rfl rfl (by decide) dX11_restore_20 ?_
        refine gw_get7 F (so_0 hst) (by decide) rfl sg_lay_RX11 (j := 2) (by decide) (o1 := 4) (by first | rfl | omega) rfl (host := "") (.inl kw_328) dX11_restore_21 (fun h8 => ?_)
        refine gw_aload_n F 0 rfl rfl (by decide) dX11_restore_24 ?_
        refine gw_get7 F (so_0 hst) (by decide) rfl sg_lay_RX11 (j := 3) (by decide) (o1 := 26) (by first | rfl | omega) rfl (host := "") (.inl kw_329) dX11_restore_25 (fun h9 => ?_)
        refine gw_iload_n F 1 rfl rfl dX11_restore_28 ?_
        obtain ⟨⟨b100, b101⟩, hf⟩ := hf
        refine gw_aaldS F (n := 2) (so_26 hst) (by decide) (by decide) (by decide) b100 b101 dX11_restore_29 (fun h11 => ?_)
        obtain ⟨g12, hf⟩ := hf
        have t13 := sg_nn h11 g12
        refine gk_HV F (gc_V F (S := []) (As := [sg_r (s0 26 x1)]) (T := TX7) (N := 5) (CX7_copyFrom_A hst t13 hf) (so_4 hst) (by decide) rfl kw_861 kw_93 kw_858 kw_859 kw_860 hcX7_copyFrom ⟨by decide, by decide⟩ rfl rfl (Nat.le_of_ble_eq_true rfl) ⟨by decide, by decide⟩ dX11_restore_30) (fun s14 hf => ?_)
        refine gw_aload_n F 0 rfl rfl (by decide) dX11_restore_33 ?_
        refine gk_HV F (gc_V F (S := []) (As := []) (T := TX11) (N := 19) (CX11_forgetAnswers hst hf) (so_0 hst) (by decide) rfl kw_490 kw_90 kw_488 kw_489 kw_3 hcX11_forgetAnswers ⟨by decide, by decide⟩ rfl rfl (Nat.le_of_ble_eq_true rfl) ⟨by decide, by decide⟩ dX11_restore_34) (fun s15 hf => ?_)
        refine gw_iconst F dX11_restore_37 ?_
        exact gr_HZ F (by decide) hf (by decide) (by decide) dX11_restore_38
      · have hf := hf.2 c6
        refine gw_iconst F dX11_restore_18 ?_
        exact gr_HZ F (by decide) hf (by decide) (by decide) dX11_restore_19

theorem dX1_readFrom_0 : decode cX1_readFrom 0 = .ok (.iconst 0, 1) := by decide +kernel
theorem dX1_readFrom_1 : decode cX1_readFrom 1 = .ok (.istore_n 2, 1) := by decide +kernel
theorem dX1_readFrom_2 : decode cX1_readFrom 2 = .ok (.iload_n 2, 1) := by decide +kernel
theorem dX1_readFrom_3 : decode cX1_readFrom 3 = .ok (.sipush 540, 3) := by decide +kernel
theorem dX1_readFrom_6 : decode cX1_readFrom 6 = .ok (.if_icmp .ge 27, 3) := by decide +kernel
theorem dX1_readFrom_9 : decode cX1_readFrom 9 = .ok (.aload_n 1, 1) := by decide +kernel
theorem dX1_readFrom_10 : decode cX1_readFrom 10 = .ok (.invokevirtual 59, 3) := by decide +kernel
theorem dX1_readFrom_13 : decode cX1_readFrom 13 = .ok (.ifCond .eq 20, 3) := by decide +kernel
theorem dX1_readFrom_16 : decode cX1_readFrom 16 = .ok (.aload_n 0, 1) := by decide +kernel
theorem dX1_readFrom_17 : decode cX1_readFrom 17 = .ok (.aload_n 1, 1) := by decide +kernel
theorem dX1_readFrom_18 : decode cX1_readFrom 18 = .ok (.invokevirtual 65, 3) := by decide +kernel
theorem dX1_readFrom_21 : decode cX1_readFrom 21 = .ok (.aload_n 1, 1) := by decide +kernel
theorem dX1_readFrom_22 : decode cX1_readFrom 22 = .ok (.bipush 59, 2) := by decide +kernel
theorem dX1_readFrom_24 : decode cX1_readFrom 24 = .ok (.invokevirtual 69, 3) := by decide +kernel
theorem dX1_readFrom_27 : decode cX1_readFrom 27 = .ok (.iinc 2 1, 3) := by decide +kernel
theorem dX1_readFrom_30 : decode cX1_readFrom 30 = .ok (.goto (-28), 3) := by decide +kernel
theorem dX1_readFrom_33 : decode cX1_readFrom 33 = .ok (.aload_n 0, 1) := by decide +kernel
theorem dX1_readFrom_34 : decode cX1_readFrom 34 = .ok (.getfield 24, 3) := by decide +kernel
theorem dX1_readFrom_37 : decode cX1_readFrom 37 = .ok (.iconst 3, 1) := by decide +kernel
theorem dX1_readFrom_38 : decode cX1_readFrom 38 = .ok (.if_icmp .ge 8, 3) := by decide +kernel
theorem dX1_readFrom_41 : decode cX1_readFrom 41 = .ok (.aload_n 1, 1) := by decide +kernel
theorem dX1_readFrom_42 : decode cX1_readFrom 42 = .ok (.iconst 1, 1) := by decide +kernel
theorem dX1_readFrom_43 : decode cX1_readFrom 43 = .ok (.invokevirtual 73, 3) := by decide +kernel
theorem dX1_readFrom_46 : decode cX1_readFrom 46 = .ok (.aload_n 0, 1) := by decide +kernel
theorem dX1_readFrom_47 : decode cX1_readFrom 47 = .ok (.invokevirtual 76, 3) := by decide +kernel
theorem dX1_readFrom_50 : decode cX1_readFrom 50 = .ok (.return_, 1) := by decide +kernel
theorem hcX1_readFrom : yX1_readFrom.cls ≠ "java/lang/invoke/MethodHandle" ∧ yX1_readFrom.cls ≠ "java/lang/invoke/VarHandle" ∧ (parseMethodDescriptor yX1_readFrom.desc).map (fun d => d.parameters.length) = some 1 := ⟨by decide +kernel, by decide +kernel, by decide +kernel⟩
def fX1_readFrom_L2 (o : Int) (k33 : sg_M → Prop) : Nat → sg_M → Int → Prop
  | 0, _, _ => False
  | n_2 + 1, s_2, x2_2 => ((540 ≤ x2_2 → k33 s_2) ∧ (¬ (540 ≤ x2_2) → fX9_isGoingOn s_2 (fun u2 => ((u2 = 0 → k33 s_2) ∧ (¬ (u2 = 0) → fX1_readLine s_2 o (fun s5 => fX9_mustBeSign s5 59 (fun s6 => sg_R (x2_2 + 1) ∧ (fX1_readFrom_L2 o k33 n_2) s6 (x2_2 + 1))))))))
def fX1_readFrom (s0 : sg_M) (o : Int) (Q : sg_M → Prop) : Prop := (∃ n8 : Nat, fX1_readFrom_L2 o (fun s_33e2 => ((3 ≤ (s_33e2 o 4) → fX1_fillUntold s_33e2 o (fun s11 => Q s11)) ∧ (¬ (3 ≤ (s_33e2 o 4)) → fX9_fail s_33e2 1 (fun s12 => fX1_fillUntold s12 o (fun s13 => Q s13))))) n8 s0 0)
set_option maxHeartbeats 4000000 in
set_option maxRecDepth 100000 in
theorem CX1_readFrom {l : Launch} {G : sg_G} {La : sg_L} {s0 : sg_M} (hst : sg_St La) {o : Int} (to : sg_O La o 1) {Q : sg_M → Prop} (hf : fX1_readFrom s0 o Q) : sg_C l G yX1_readFrom cX1_readFrom 3 (none) 9 0 0 La s0 [sg_r o, sg_r 3] (sg_HV La Q) := by
  refine sg_body (by decide +kernel) (Nat.le_of_ble_eq_true rfl) ?_
  intro p e s m args below meth c F hnm
  unfold fX1_readFrom at hf
  show sg_W p l e (sg_rm 9 0 0) s m args below meth c (MQ below (sg_Q (none) G La s.heap.size (sg_HV La Q)) args s 0 0 (sg_A La s.heap.size)) 3 G (sg_A La s.heap.size) La s0 0 0 0 [(0, sg_r o), (1, sg_r 3)] []
  refine gw_iconst F dX1_readFrom_0 ?_
  refine gw_istore_n F rfl (by decide) rfl dX1_readFrom_1 ?_
  have L2 : ∀ (k33 : sg_M → Prop) (hk33 : ∀ (s_33e2 : sg_M), k33 s_33e2 → sg_W p l e (sg_rm 9 0 0) s m args below meth c (MQ below (sg_Q (none) G La s.heap.size (sg_HV La Q)) args s 0 0 (sg_A La s.heap.size)) 3 G (sg_A La s.heap.size) La s_33e2 0 0 33 [(0, sg_r o), (1, sg_r 3)] []), ∀ n_2 : Nat, ∀ (s_2 : sg_M) (x2_2 : Int), sg_R x2_2 → fX1_readFrom_L2 o k33 n_2 s_2 x2_2 → sg_W p l e (sg_rm 9 0 0) s m args below meth c (MQ below (sg_Q (none) G La s.heap.size (sg_HV La Q)) args s 0 0 (sg_A La s.heap.size)) 3 G (sg_A La s.heap.size) La s_2 0 0 2 [(0, sg_r o), (1, sg_r 3), (2, sg_i x2_2)] [] := by
    intro k33 hk33 n_2
    induction n_2 with
    | zero => intro s_2 x2_2 r2_2 hf; exact hf.elim
    | succ n_2 ih =>
      intro s_2 x2_2 r2_2 hf
      unfold fX1_readFrom_L2 at hf
      refine gw_iload_n F 2 rfl rfl dX1_readFrom_2 ?_
      refine gw_sipush F rfl dX1_readFrom_3 ?_
      refine gw_icmp_ge F (tgt := 33) dX1_readFrom_6 (by decide) r2_2 (by decide) (fun c1 => ?_) (fun c1 => ?_)
      · have hf := hf.1 c1
        refine gw_sub [0, 1] rfl ?_
        exact hk33 s_2 hf
      · have hf := hf.2 c1
        refine gw_aload_n F 1 rfl rfl (by decide) dX1_readFrom_9 ?_
        refine gk_PZ F (gc_V F (S := []) (As := []) (T := TX9) (N := 8) (CX9_isGoingOn hst hf) (so_3 hst) (by decide) rfl kw_392 kw_92 kw_389 kw_390 kw_391 hcX9_isGoingOn ⟨by decide, by decide⟩ rfl rfl (Nat.le_of_ble_eq_true rfl) ⟨by decide, by decide⟩ dX1_readFrom_10) (fun u2 h3 hf => ?_)
        refine gw_if_eq F (tgt := 33) dX1_readFrom_13 (by decide) (sg_B_R h3) (fun c4 => ?_) (fun c4 => ?_)
        · have hf := hf.1 c4
          refine gw_sub [0, 1] rfl ?_
          exact hk33 s_2 hf
        · have hf := hf.2 c4
          refine gw_aload_n F 0 rfl rfl to.1 dX1_readFrom_16 ?_
          refine gw_aload_n F 1 rfl rfl (by decide) dX1_readFrom_17 ?_
          refine gk_HV F (gc_V F (S := []) (As := [sg_r 3]) (T := TX1) (N := 7) (CX1_readLine hst to hf) to (by decide) rfl kw_395 kw_94 kw_393 kw_394 kw_0 hcX1_readLine ⟨by decide, by decide⟩ rfl rfl (Nat.le_of_ble_eq_true rfl) ⟨by decide, by decide⟩ dX1_readFrom_18) (fun s5 hf => ?_)
          refine gw_aload_n F 1 rfl rfl (by decide) dX1_readFrom_21 ?_
          refine gw_bipush F rfl dX1_readFrom_22 ?_
          refine gk_HV F (gc_V F (S := []) (As := [sg_i 59]) (T := TX9) (N := 8) (CX9_mustBeSign hst (by decide) hf) (so_3 hst) (by decide) rfl kw_482 kw_92 kw_479 kw_480 kw_481 hcX9_mustBeSign ⟨by decide, by decide⟩ rfl rfl (Nat.le_of_ble_eq_true rfl) ⟨by decide, by decide⟩ dX1_readFrom_24) (fun s6 hf => ?_)
          refine gw_iinc F (z := (x2_2 + 1)) 2 rfl (by omega) (by decide) rfl dX1_readFrom_27 ?_
          refine gw_goto F (tgt := 2) dX1_readFrom_30 (by decide) ?_
          obtain ⟨g7, hf⟩ := hf
          refine gw_sub [1, 2, 0] rfl ?_
          exact ih s6 (x2_2 + 1) g7 hf
  obtain ⟨n8, hf⟩ := hf
  refine gw_sub [1, 2, 0] rfl ?_
  refine L2 _ (fun s_33e2 hf => ?_) n8 s0 0 (by decide) hf
  refine gw_aload_n F 0 rfl rfl to.1 dX1_readFrom_33 ?_
  refine gw_get0 F to (by decide) rfl sg_lay_RX1 (j := 4) (by decide) rfl (host := "") (.inl kw_163) dX1_readFrom_34 (fun h9 => ?_)
  refine gw_iconst F dX1_readFrom_37 ?_
  refine gw_icmp_ge F (tgt := 46) dX1_readFrom_38 (by decide) h9 (by decide) (fun c10 => ?_) (fun c10 => ?_)
  · have hf := hf.1 c10
    refine gw_aload_n F 0 rfl rfl to.1 dX1_readFrom_46 ?_
    refine gk_HV F (gc_V F (S := []) (As := []) (T := TX1) (N := 7) (CX1_fillUntold to hf) to (by decide) rfl kw_325 kw_94 kw_484 kw_323 kw_324 hcX1_fillUntold ⟨by decide, by decide⟩ rfl rfl (Nat.le_of_ble_eq_true rfl) ⟨by decide, by decide⟩ dX1_readFrom_47) (fun s11 hf => ?_)
    exact gr_HV F hf (by decide) (by decide) dX1_readFrom_50
  · have hf := hf.2 c10
    refine gw_aload_n F 1 rfl rfl (by decide) dX1_readFrom_41 ?_
    refine gw_iconst F dX1_readFrom_42 ?_
    refine gk_HV F (gc_V F (S := []) (As := [sg_i 1]) (T := TX9) (N := 8) (CX9_fail hst (by decide) hf) (so_3 hst) (by decide) rfl kw_457 kw_92 kw_477 kw_455 kw_456 hcX9_fail ⟨by decide, by decide⟩ rfl rfl (Nat.le_of_ble_eq_true rfl) ⟨by decide, by decide⟩ dX1_readFrom_43) (fun s12 hf => ?_)
    refine gw_aload_n F 0 rfl rfl to.1 dX1_readFrom_46 ?_
    refine gk_HV F (gc_V F (S := []) (As := []) (T := TX1) (N := 7) (CX1_fillUntold to hf) to (by decide) rfl kw_325 kw_94 kw_484 kw_323 kw_324 hcX1_fillUntold ⟨by decide, by decide⟩ rfl rfl (Nat.le_of_ble_eq_true rfl) ⟨by decide, by decide⟩ dX1_readFrom_47) (fun s13 hf => ?_)
    exact gr_HV F hf (by decide) (by decide) dX1_readFrom_50

theorem dX11_blade_0 : decode cX11_blade 0 = .ok (.new 27, 3) := by decide +kernel
theorem dX11_blade_3 : decode cX11_blade 3 = .ok (.dup, 1) := by decide +kernel
theorem dX11_blade_4 : decode cX11_blade 4 = .ok (.invokespecial 29, 3) := by decide +kernel
theorem dX11_blade_7 : decode cX11_blade 7 = .ok (.astore_n 1, 1) := by decide +kernel
theorem dX11_blade_8 : decode cX11_blade 8 = .ok (.aload_n 0, 1) := by decide +kernel
theorem dX11_blade_9 : decode cX11_blade 9 = .ok (.getfield 21, 3) := by decide +kernel
theorem dX11_blade_12 : decode cX11_blade 12 = .ok (.sipush 500, 3) := by decide +kernel
theorem dX11_blade_15 : decode cX11_blade 15 = .ok (.invokevirtual 128, 3) := by decide +kernel
theorem dX11_blade_18 : decode cX11_blade 18 = .ok (.aload_n 1, 1) := by decide +kernel
theorem dX11_blade_19 : decode cX11_blade 19 = .ok (.aload_n 0, 1) := by decide +kernel
theorem dX11_blade_20 : decode cX11_blade 20 = .ok (.getfield 21, 3) := by decide +kernel
theorem dX11_blade_23 : decode cX11_blade 23 = .ok (.invokevirtual 131, 3) := by decide +kernel
theorem dX11_blade_26 : decode cX11_blade 26 = .ok (.aload_n 0, 1) := by decide +kernel
theorem dX11_blade_27 : decode cX11_blade 27 = .ok (.getfield 21, 3) := by decide +kernel
theorem dX11_blade_30 : decode cX11_blade 30 = .ok (.getfield 135, 3) := by decide +kernel
theorem dX11_blade_33 : decode cX11_blade 33 = .ok (.ifCond .ne 11, 3) := by decide +kernel
theorem dX11_blade_36 : decode cX11_blade 36 = .ok (.aload_n 0, 1) := by decide +kernel
theorem dX11_blade_37 : decode cX11_blade 37 = .ok (.getfield 39, 3) := by decide +kernel
theorem dX11_blade_40 : decode cX11_blade 40 = .ok (.aload_n 1, 1) := by decide +kernel
theorem dX11_blade_41 : decode cX11_blade 41 = .ok (.putfield 112, 3) := by decide +kernel
theorem dX11_blade_44 : decode cX11_blade 44 = .ok (.aload_n 0, 1) := by decide +kernel
theorem dX11_blade_45 : decode cX11_blade 45 = .ok (.aload_n 1, 1) := by decide +kernel
theorem dX11_blade_46 : decode cX11_blade 46 = .ok (.getfield 138, 3) := by decide +kernel
theorem dX11_blade_49 : decode cX11_blade 49 = .ok (.invokevirtual 139, 3) := by decide +kernel
theorem dX11_blade_52 : decode cX11_blade 52 = .ok (.ireturn, 1) := by decide +kernel
theorem hcX11_blade : yX11_blade.cls ≠ "java/lang/invoke/MethodHandle" ∧ yX11_blade.cls ≠ "java/lang/invoke/VarHandle" ∧ (parseMethodDescriptor yX11_blade.desc).map (fun d => d.parameters.length) = some 0 := ⟨by decide +kernel, by decide +kernel, by decide +kernel⟩
def fX11_blade (La : sg_L) (s0 : sg_M) (Q : Int → sg_L → sg_M → Prop) : Prop := ∀ (q1 : Nat) (La2 : sg_L), La2 = sg_pu La 21 q1 → ∀ s3 : sg_M, s3 = sg_nw s0 La.1 21 → ∀ o4 : Int, o4 = (La.1 : Int) → fX1_init La2 s3 o4 (fun La13 s14 => fX9_open s14 500 (fun s20 => fX1_readFrom s20 o4 (fun s22 => (((s22 3 6) ≠ 0 → fX11_closeText s22 (s22 o4 4) (fun u27 s29 => Q u27 La13 s29)) ∧ ((s22 3 6) = 0 → ∀ s31 : sg_M, s31 = sg_up s22 4 0 o4 → fX11_closeText s31 (s31 o4 4) (fun u34 s36 => Q u34 La13 s36))))))
set_option maxHeartbeats 4000000 in
set_option maxRecDepth 100000 in
theorem CX11_blade {l : Launch} {G : sg_G} {La : sg_L} {s0 : sg_M} (hst : sg_St La) {Q : Int → sg_L → sg_M → Prop} (hf : fX11_blade La s0 Q) : sg_C l G yX11_blade cX11_blade 2 (some .int) 10 5 247 La s0 [sg_r 0] (sg_BI La Q) := by
  refine sg_body (by decide +kernel) (Nat.le_of_ble_eq_true rfl) ?_
  intro p e s m args below meth c F hnm
  unfold fX11_blade at hf
  show sg_W p l e (sg_rm 10 5 247) s m args below meth c (MQ below (sg_Q (some .int) G La s.heap.size (sg_BI La Q)) args s 5 247 (sg_A La s.heap.size)) 2 G (sg_A La s.heap.size) La s0 0 0 0 [(0, sg_r 0)] []
  refine gy_new F (kd := 21) (T := TX1) (by decide) rfl sg_lay_RX1 tyX1_ok kw_152 kw_153 kw_94 ns_X1 nf_X1 nr_X1 (by decide) (by decide) (List.forall_mem_cons.mpr ⟨(Or.inl (so_0 hst).2.1), (fun _ h => absurd h List.not_mem_nil)⟩) (fun _ h => absurd h List.not_mem_nil) dX11_blade_0 (fun q1 La2 s3 o4 e5 e6 e7 t8 hX9 => ?_)
  have hf := hf q1 La2 e5 s3 e6 o4 e7
  have hn10 : La.1 ≤ o4.toNat := by rw [e7, Int.toNat_natCast]; exact (sg_X.rf : sg_X La La).1
  have hst11 := hst.X hX9
  have hX12 := sg_X.tr (sg_X.rf) hX9
  refine gw_dup F rfl dX11_blade_3 ?_
  refine gk_BV F (gc_IN F (S := [sg_r o4]) (As := []) (CX1_init t8 hf) t8.1 kw_156 kw_94 kw_154 kw_155 rfl hcX1_init ⟨by decide, by decide⟩ rfl rfl (Nat.le_of_ble_eq_true rfl) ⟨by decide, by decide⟩ dX11_blade_4) (List.forall_mem_cons.mpr ⟨(Or.inl (so_0 hst11).2.1), (fun _ h => absurd h List.not_mem_nil)⟩) (List.forall_mem_cons.mpr ⟨(Or.inl t8.2.1), (fun _ h => absurd h List.not_mem_nil)⟩) (fun La13 s14 hX15 hf => ?_)
  have t16 := (sg_O_sealed t8).X hX15
  have hst17 := (sg_St_sx hst11 t8 ⟨by decide, by decide, by decide⟩).X hX15
  have hX18 := (sg_X_sx (hX12) hn10).tr hX15
  refine gw_astore_n F rfl t16.1 (by decide) rfl dX11_blade_7 ?_
  refine gw_aload_n F 1 rfl rfl (by decide) dX11_blade_8 ?_
  refine gw_get7 F (so_0 hst17) (by decide) rfl sg_lay_RX11 (j := 1) (by decide) (o1 := 3) (by first | rfl | omega) rfl (host := "") (.inl kw_327) dX11_blade_9 (fun h19 => ?_)
  refine gw_sipush F rfl dX11_blade_12 ?_
  refine gk_HV F (gc_V F (S := []) (As := [sg_i 500]) (T := TX9) (N := 8) (CX9_open hst17 (by decide) hf) (so_3 hst17) (by decide) rfl kw_364 kw_92 kw_361 kw_362 kw_363 hcX9_open ⟨by decide, by decide⟩ rfl rfl (Nat.le_of_ble_eq_true rfl) ⟨by decide, by decide⟩ dX11_blade_15) (fun s20 hf => ?_)
  refine gw_aload_n F 0 rfl rfl t16.1 dX11_blade_18 ?_
  refine gw_aload_n F 1 rfl rfl (by decide) dX11_blade_19 ?_
  refine gw_get7 F (so_0 hst17) (by decide) rfl sg_lay_RX11 (j := 1) (by decide) (o1 := 3) (by first | rfl | omega) rfl (host := "") (.inl kw_327) dX11_blade_20 (fun h21 => ?_)
  refine gk_HV F (gc_V F (S := []) (As := [sg_r 3]) (T := TX1) (N := 7) (CX1_readFrom hst17 t16 hf) t16 (by decide) rfl kw_388 kw_94 kw_385 kw_386 kw_387 hcX1_readFrom ⟨by decide, by decide⟩ rfl rfl (Nat.le_of_ble_eq_true rfl) ⟨by decide, by decide⟩ dX11_blade_23) (fun s22 hf => ?_)
  refine gw_aload_n F 1 rfl rfl (by decide) dX11_blade_26 ?_
  refine gw_get7 F (so_0 hst17) (by decide) rfl sg_lay_RX11 (j := 1) (by decide) (o1 := 3) (by first | rfl | omega) rfl (host := "") (.inl kw_327) dX11_blade_27 (fun h23 => ?_)
  refine gw_get0 F (so_3 hst17) (by decide) rfl sg_lay_RX9 (j := 6) (by decide) rfl (.inr kw_145) dX11_blade_30 (fun h24 => ?_)
  refine gw_if_ne F (tgt := 44) dX11_blade_33 (by decide) h24 (fun c25 => ?_) (fun c25 => ?_)
  · have hf := hf.1 c25
    refine gw_aload_n F 1 rfl rfl (by decide) dX11_blade_44 ?_
    refine gw_aload_n F 0 rfl rfl t16.1 dX11_blade_45 ?_
    refine gw_get0 F t16 (by decide) rfl sg_lay_RX1 (j := 4) (by decide) rfl (.inr kw_165) dX11_blade_46 (fun h26 => ?_)
    refine gk_HI F (gc_V F (S := []) (As := [sg_i (s22 o4 4)]) (T := TX11) (N := 19) (CX11_closeText hst17 h26 hf) (so_0 hst17) (by decide) rfl kw_487 kw_90 kw_485 kw_486 kw_2 hcX11_closeText ⟨by decide, by decide⟩ rfl rfl (Nat.le_of_ble_eq_true rfl) ⟨by decide, by decide⟩ dX11_blade_49) (fun u27 s29 h28 hf => ?_)
    exact gr_BI F h28 hf (hX18) (by decide) (by decide) dX11_blade_52
  · have hf := hf.2 c25
    refine gw_aload_n F 1 rfl rfl (by decide) dX11_blade_36 ?_
    refine gw_get7 F (so_0 hst17) (by decide) rfl sg_lay_RX11 (j := 2) (by decide) (o1 := 4) (by first | rfl | omega) rfl (host := "") (.inl kw_328) dX11_blade_37 (fun h30 => ?_)
    refine gw_aload_n F 0 rfl rfl t16.1 dX11_blade_40 ?_
    obtain ⟨s31, e32⟩ : ∃ z : sg_M, z = sg_up s22 4 0 o4 := ⟨_, rfl⟩
    have hf := hf s31 e32
    refine gw_put4 F (so_4 hst17) (by decide) rfl sg_lay_RX7 (j := 0) (by decide) t16.1 t16 e32 tyX7_ok nmX7 rfl (tyX7_ok 0 (by decide)) rfl (.inr kw_234) dX11_blade_41 ?_
    refine gw_aload_n F 1 rfl rfl (by decide) dX11_blade_44 ?_
    refine gw_aload_n F 0 rfl rfl t16.1 dX11_blade_45 ?_
    refine gw_get0 F t16 (by decide) rfl sg_lay_RX1 (j := 4) (by decide) rfl (.inr kw_165) dX11_blade_46 (fun h33 => ?_)
    refine gk_HI F (gc_V F (S := []) (As := [sg_i (s31 o4 4)]) (T := TX11) (N := 19) (CX11_closeText hst17 h33 hf) (so_0 hst17) (by decide) rfl kw_487 kw_90 kw_485 kw_486 kw_2 hcX11_closeText ⟨by decide, by decide⟩ rfl rfl (Nat.le_of_ble_eq_true rfl) ⟨by decide, by decide⟩ dX11_blade_49) (fun u34 s36 h35 hf => ?_)
    exact gr_BI F h35 hf (hX18) (by decide) (by decide) dX11_blade_52

theorem dX11_tremble_0 : decode cX11_tremble 0 = .ok (.iload_n 1, 1) := by decide +kernel
theorem dX11_tremble_1 : decode cX11_tremble 1 = .ok (.iload_n 2, 1) := by decide +kernel
theorem dX11_tremble_2 : decode cX11_tremble 2 = .ok (.invokestatic 158, 3) := by decide +kernel
theorem dX11_tremble_5 : decode cX11_tremble 5 = .ok (.ifCond .eq 14, 3) := by decide +kernel
theorem dX11_tremble_8 : decode cX11_tremble 8 = .ok (.iload_n 3, 1) := by decide +kernel
theorem dX11_tremble_9 : decode cX11_tremble 9 = .ok (.ifCond .lt 10, 3) := by decide +kernel
theorem dX11_tremble_12 : decode cX11_tremble 12 = .ok (.iload_n 3, 1) := by decide +kernel
theorem dX11_tremble_13 : decode cX11_tremble 13 = .ok (.sipush 999, 3) := by decide +kernel
theorem dX11_tremble_16 : decode cX11_tremble 16 = .ok (.if_icmp .le 5, 3) := by decide +kernel
theorem dX11_tremble_19 : decode cX11_tremble 19 = .ok (.iconst (-1), 1) := by decide +kernel
theorem dX11_tremble_20 : decode cX11_tremble 20 = .ok (.ireturn, 1) := by decide +kernel
theorem dX11_tremble_21 : decode cX11_tremble 21 = .ok (.sipush 2000, 3) := by decide +kernel
theorem dX11_tremble_24 : decode cX11_tremble 24 = .ok (.istore 4, 2) := by decide +kernel
theorem dX11_tremble_26 : decode cX11_tremble 26 = .ok (.iconst 0, 1) := by decide +kernel
theorem dX11_tremble_27 : decode cX11_tremble 27 = .ok (.istore 5, 2) := by decide +kernel
theorem dX11_tremble_29 : decode cX11_tremble 29 = .ok (.iconst (-1), 1) := by decide +kernel
theorem dX11_tremble_30 : decode cX11_tremble 30 = .ok (.istore 6, 2) := by decide +kernel
theorem dX11_tremble_32 : decode cX11_tremble 32 = .ok (.iload 6, 2) := by decide +kernel
theorem dX11_tremble_34 : decode cX11_tremble 34 = .ok (.iconst 1, 1) := by decide +kernel
theorem dX11_tremble_35 : decode cX11_tremble 35 = .ok (.if_icmp .gt 73, 3) := by decide +kernel
theorem dX11_tremble_38 : decode cX11_tremble 38 = .ok (.aload_n 0, 1) := by decide +kernel
theorem dX11_tremble_39 : decode cX11_tremble 39 = .ok (.aload_n 0, 1) := by decide +kernel
theorem dX11_tremble_40 : decode cX11_tremble 40 = .ok (.getfield 39, 3) := by decide +kernel
theorem dX11_tremble_43 : decode cX11_tremble 43 = .ok (.getfield 112, 3) := by decide +kernel
theorem dX11_tremble_46 : decode cX11_tremble 46 = .ok (.iload_n 1, 1) := by decide +kernel
theorem dX11_tremble_47 : decode cX11_tremble 47 = .ok (.iload_n 2, 1) := by decide +kernel
theorem dX11_tremble_48 : decode cX11_tremble 48 = .ok (.iload 6, 2) := by decide +kernel
theorem dX11_tremble_50 : decode cX11_tremble 50 = .ok (.iload_n 3, 1) := by decide +kernel
theorem dX11_tremble_51 : decode cX11_tremble 51 = .ok (.imul, 1) := by decide +kernel
theorem dX11_tremble_52 : decode cX11_tremble 52 = .ok (.iadd, 1) := by decide +kernel
theorem dX11_tremble_53 : decode cX11_tremble 53 = .ok (.sipush 9999, 3) := by decide +kernel
theorem dX11_tremble_56 : decode cX11_tremble 56 = .ok (.invokestatic 294, 3) := by decide +kernel
theorem dX11_tremble_59 : decode cX11_tremble 59 = .ok (.invokevirtual 225, 3) := by decide +kernel
theorem dX11_tremble_62 : decode cX11_tremble 62 = .ok (.aload_n 0, 1) := by decide +kernel
theorem dX11_tremble_63 : decode cX11_tremble 63 = .ok (.getfield 54, 3) := by decide +kernel
theorem dX11_tremble_66 : decode cX11_tremble 66 = .ok (.getfield 228, 3) := by decide +kernel
theorem dX11_tremble_69 : decode cX11_tremble 69 = .ok (.ifCond .ne 5, 3) := by decide +kernel
theorem dX11_tremble_72 : decode cX11_tremble 72 = .ok (.iconst (-1), 1) := by decide +kernel
theorem dX11_tremble_73 : decode cX11_tremble 73 = .ok (.ireturn, 1) := by decide +kernel
theorem dX11_tremble_74 : decode cX11_tremble 74 = .ok (.iload 4, 2) := by decide +kernel
theorem dX11_tremble_76 : decode cX11_tremble 76 = .ok (.aload_n 0, 1) := by decide +kernel
theorem dX11_tremble_77 : decode cX11_tremble 77 = .ok (.getfield 54, 3) := by decide +kernel
theorem dX11_tremble_80 : decode cX11_tremble 80 = .ok (.getfield 228, 3) := by decide +kernel
theorem dX11_tremble_83 : decode cX11_tremble 83 = .ok (.invokestatic 297, 3) := by decide +kernel
theorem dX11_tremble_86 : decode cX11_tremble 86 = .ok (.istore 4, 2) := by decide +kernel
theorem dX11_tremble_88 : decode cX11_tremble 88 = .ok (.iload 5, 2) := by decide +kernel
theorem dX11_tremble_90 : decode cX11_tremble 90 = .ok (.aload_n 0, 1) := by decide +kernel
theorem dX11_tremble_91 : decode cX11_tremble 91 = .ok (.getfield 54, 3) := by decide +kernel
theorem dX11_tremble_94 : decode cX11_tremble 94 = .ok (.getfield 228, 3) := by decide +kernel
theorem dX11_tremble_97 : decode cX11_tremble 97 = .ok (.invokestatic 291, 3) := by decide +kernel
theorem dX11_tremble_100 : decode cX11_tremble 100 = .ok (.istore 5, 2) := by decide +kernel
theorem dX11_tremble_102 : decode cX11_tremble 102 = .ok (.iinc 6 1, 3) := by decide +kernel
theorem dX11_tremble_105 : decode cX11_tremble 105 = .ok (.goto (-73), 3) := by decide +kernel
theorem dX11_tremble_108 : decode cX11_tremble 108 = .ok (.iload 5, 2) := by decide +kernel
theorem dX11_tremble_110 : decode cX11_tremble 110 = .ok (.iload 4, 2) := by decide +kernel
theorem dX11_tremble_112 : decode cX11_tremble 112 = .ok (.isub, 1) := by decide +kernel
theorem dX11_tremble_113 : decode cX11_tremble 113 = .ok (.ireturn, 1) := by decide +kernel
theorem hcX11_tremble : yX11_tremble.cls ≠ "java/lang/invoke/MethodHandle" ∧ yX11_tremble.cls ≠ "java/lang/invoke/VarHandle" ∧ (parseMethodDescriptor yX11_tremble.desc).map (fun d => d.parameters.length) = some 3 := ⟨by decide +kernel, by decide +kernel, by decide +kernel⟩
def fX11_tremble_L32 (La : sg_L) (x1 : Int) (x2 : Int) (x3 : Int) (Q : Int → sg_M → Prop) : Nat → sg_M → Int → Int → Int → Prop
  | 0, _, _, _, _ => False
  | n_32 + 1, s_32, x4_32, x5_32, x6_32 => ((1 < x6_32 → sg_R (x5_32 - x4_32) ∧ Q (x5_32 - x4_32) s_32) ∧ (¬ (1 < x6_32) → sg_R (x2 + (x6_32 * x3)) ∧ fX11_within (x2 + (x6_32 * x3)) 9999 (fun u11 => (0 ≤ (s_32 4 0)) ∧ fX11_listenTo La s_32 (s_32 4 0) x1 u11 (fun s15 => (((s15 32 7) ≠ 0 → sg_R (x6_32 + 1) ∧ (fX11_tremble_L32 La x1 x2 x3 Q n_32) s15 (sg_min x4_32 (s15 32 7)) (sg_max x5_32 (s15 32 7)) (x6_32 + 1)) ∧ ((s15 32 7) = 0 → Q (-1) s15))))))
def fX11_tremble (La : sg_L) (s0 : sg_M) (x1 : Int) (x2 : Int) (x3 : Int) (Q : Int → sg_M → Prop) : Prop := fX11_isBend x1 x2 (fun u1 => ((u1 = 0 → Q (-1) s0) ∧ (¬ (u1 = 0) → ((x3 < 0 → Q (-1) s0) ∧ (¬ (x3 < 0) → ((x3 ≤ 999 → (∃ n24 : Nat, fX11_tremble_L32 La x1 x2 x3 Q n24 s0 2000 0 (-1))) ∧ (¬ (x3 ≤ 999) → Q (-1) s0)))))))
set_option maxHeartbeats 4000000 in
set_option maxRecDepth 100000 in
theorem CX11_tremble {l : Launch} {G : sg_G} {La : sg_L} {s0 : sg_M} (hst : sg_St La) {x1 : Int} (r1 : sg_R x1) {x2 : Int} (r2 : sg_R x2) {x3 : Int} (r3 : sg_R x3) {Q : Int → sg_M → Prop} (hf : fX11_tremble La s0 x1 x2 x3 Q) : sg_C l G yX11_tremble cX11_tremble 7 (some .int) 6 0 0 La s0 [sg_r 0, sg_i x1, sg_i x2, sg_i x3] (sg_HI La Q) := by
  refine sg_body (by decide +kernel) (Nat.le_of_ble_eq_true rfl) ?_
  intro p e s m args below meth c F hnm
  unfold fX11_tremble at hf
  show sg_W p l e (sg_rm 6 0 0) s m args below meth c (MQ below (sg_Q (some .int) G La s.heap.size (sg_HI La Q)) args s 0 0 (sg_A La s.heap.size)) 7 G (sg_A La s.heap.size) La s0 0 0 0 [(0, sg_r 0), (1, sg_i x1), (2, sg_i x2), (3, sg_i x3)] []
  refine gw_iload_n F 1 rfl rfl dX11_tremble_0 ?_
  refine gw_iload_n F 2 rfl rfl dX11_tremble_1 ?_
  refine gk_PZ F (gc_S F (S := []) (As := [sg_i x1, sg_i x2]) (CX11_isBend r1 r2 hf) kw_502 kw_90 kw_500 kw_501 hcX11_isBend ⟨by decide, by decide⟩ rfl rfl (Nat.le_of_ble_eq_true rfl) ⟨by decide, by decide⟩ dX11_tremble_2) (fun u1 h2 hf => ?_)
  refine gw_if_eq F (tgt := 19) dX11_tremble_5 (by decide) (sg_B_R h2) (fun c3 => ?_) (fun c3 => ?_)
  · have hf := hf.1 c3
    refine gw_iconst F dX11_tremble_19 ?_
    exact gr_HI F (by decide) hf (by decide) (by decide) dX11_tremble_20
  · have hf := hf.2 c3
    refine gw_iload_n F 3 rfl rfl dX11_tremble_8 ?_
    refine gw_if_lt F (tgt := 19) dX11_tremble_9 (by decide) r3 (fun c4 => ?_) (fun c4 => ?_)
    · have hf := hf.1 c4
      refine gw_iconst F dX11_tremble_19 ?_
      exact gr_HI F (by decide) hf (by decide) (by decide) dX11_tremble_20
    · have hf := hf.2 c4
      refine gw_iload_n F 3 rfl rfl dX11_tremble_12 ?_
      refine gw_sipush F rfl dX11_tremble_13 ?_
      refine gw_icmp_le F (tgt := 21) dX11_tremble_16 (by decide) r3 (by decide) (fun c5 => ?_) (fun c5 => ?_)
      · have hf := hf.1 c5
        refine gw_sipush F rfl dX11_tremble_21 ?_
        refine gw_istore F (by decide) rfl dX11_tremble_24 ?_
        refine gw_iconst F dX11_tremble_26 ?_
        refine gw_istore F (by decide) rfl dX11_tremble_27 ?_
        refine gw_iconst F dX11_tremble_29 ?_
        refine gw_istore F (by decide) rfl dX11_tremble_30 ?_
        have L32 : ∀ n_32 : Nat, ∀ (s_32 : sg_M) (x4_32 : Int) (x5_32 : Int) (x6_32 : Int), sg_R x4_32 → sg_R x5_32 → sg_R x6_32 → fX11_tremble_L32 La x1 x2 x3 Q n_32 s_32 x4_32 x5_32 x6_32 → sg_W p l e (sg_rm 6 0 0) s m args below meth c (MQ below (sg_Q (some .int) G La s.heap.size (sg_HI La Q)) args s 0 0 (sg_A La s.heap.size)) 7 G (sg_A La s.heap.size) La s_32 0 0 32 [(0, sg_r 0), (1, sg_i x1), (2, sg_i x2), (3, sg_i x3), (4, sg_i x4_32), (5, sg_i x5_32), (6, sg_i x6_32)] [] := by
          intro n_32
          induction n_32 with
          | zero => intro s_32 x4_32 x5_32 x6_32 r4_32 r5_32 r6_32 hf; exact hf.elim
          | succ n_32 ih =>
            intro s_32 x4_32 x5_32 x6_32 r4_32 r5_32 r6_32 hf
            unfold fX11_tremble_L32 at hf
            refine gw_iload F 6 rfl dX11_tremble_32 ?_
            refine gw_iconst F dX11_tremble_34 ?_
            refine gw_icmp_gt F (tgt := 108) dX11_tremble_35 (by decide) r6_32 (by decide) (fun c6 => ?_) (fun c6 => ?_)
            · have hf := hf.1 c6
              refine gw_iload F 5 rfl dX11_tremble_108 ?_
              refine gw_iload F 4 rfl dX11_tremble_110 ?_
              refine gw_isub F rfl dX11_tremble_112 ?_
              obtain ⟨g7, hf⟩ := hf
              exact gr_HI F g7 hf (by decide) (by decide) dX11_tremble_113
            · have hf := hf.2 c6
              refine gw_aload_n F 0 rfl rfl (by decide) dX11_tremble_38 ?_
              refine gw_aload_n F 0 rfl rfl (by decide) dX11_tremble_39 ?_
              refine gw_get7 F (so_0 hst) (by decide) rfl sg_lay_RX11 (j := 2) (by decide) (o1 := 4) (by first | rfl | omega) rfl (host := "") (.inl kw_328) dX11_tremble_40 (fun h8 => ?_)
              refine gw_get4 F (so_4 hst) (by decide) rfl sg_lay_RX7 (j := 0) (by decide) rfl (.inr kw_234) dX11_tremble_43 (fun h9 => ?_)
              refine gw_iload_n F 1 rfl rfl dX11_tremble_46 ?_
              refine gw_iload_n F 2 rfl rfl dX11_tremble_47 ?_
              refine gw_iload F 6 rfl dX11_tremble_48 ?_
              refine gw_iload_n F 3 rfl rfl dX11_tremble_50 ?_
              refine gw_imul F rfl dX11_tremble_51 ?_
              refine gw_iadd F rfl dX11_tremble_52 ?_
              refine gw_sipush F rfl dX11_tremble_53 ?_
              obtain ⟨g10, hf⟩ := hf
              refine gk_PI F (gc_S F (S := [sg_i x1, sg_r (s_32 4 0), sg_r 0]) (As := [sg_i (x2 + (x6_32 * x3)), sg_i 9999]) (CX11_within g10 (by decide) hf) kw_521 kw_90 kw_748 kw_520 hcX11_within ⟨by decide, by decide⟩ rfl rfl (Nat.le_of_ble_eq_true rfl) ⟨by decide, by decide⟩ dX11_tremble_56) (fun u11 h12 hf => ?_)
              obtain ⟨g13, hf⟩ := hf
              have t14 := sg_nn h9 g13
              refine gk_HV F (gc_V F (S := []) (As := [sg_r (s_32 4 0), sg_i x1, sg_i u11]) (T := TX11) (N := 19) (CX11_listenTo hst t14 r1 h12 hf) (so_0 hst) (by decide) rfl kw_655 kw_90 kw_653 kw_654 kw_20 hcX11_listenTo ⟨by decide, by decide⟩ rfl rfl (Nat.le_of_ble_eq_true rfl) ⟨by decide, by decide⟩ dX11_tremble_59) (fun s15 hf => ?_)
              refine gw_aload_n F 0 rfl rfl (by decide) dX11_tremble_62 ?_
              refine gw_get7 F (so_0 hst) (by decide) rfl sg_lay_RX11 (j := 5) (by decide) (o1 := 32) (by first | rfl | omega) rfl (host := "") (.inl kw_331) dX11_tremble_63 (fun h16 => ?_)
              refine gw_get0 F (so_32 hst) (by decide) rfl sg_lay_RX0 (j := 7) (by decide) rfl (.inr kw_266) dX11_tremble_66 (fun h17 => ?_)
              refine gw_if_ne F (tgt := 74) dX11_tremble_69 (by decide) h17 (fun c18 => ?_) (fun c18 => ?_)
              · have hf := hf.1 c18
                refine gw_iload F 4 rfl dX11_tremble_74 ?_
                refine gw_aload_n F 0 rfl rfl (by decide) dX11_tremble_76 ?_
                refine gw_get7 F (so_0 hst) (by decide) rfl sg_lay_RX11 (j := 5) (by decide) (o1 := 32) (by first | rfl | omega) rfl (host := "") (.inl kw_331) dX11_tremble_77 (fun h19 => ?_)
                refine gw_get0 F (so_32 hst) (by decide) rfl sg_lay_RX0 (j := 7) (by decide) rfl (.inr kw_266) dX11_tremble_80 (fun h20 => ?_)
                refine gw_min F r4_32 h20 rfl kw_522 kw_min1 kw_math kw_min2 (Nat.le_of_ble_eq_true rfl) (by decide) (by decide) (by decide) (by decide) dX11_tremble_83 ?_
                refine gw_istore F (by decide) rfl dX11_tremble_86 ?_
                refine gw_iload F 5 rfl dX11_tremble_88 ?_
                refine gw_aload_n F 1 rfl rfl (by decide) dX11_tremble_90 ?_
                refine gw_get7 F (so_0 hst) (by decide) rfl sg_lay_RX11 (j := 5) (by decide) (o1 := 32) (by first | rfl | omega) rfl (host := "") (.inl kw_331) dX11_tremble_91 (fun h21 => ?_)
                refine gw_get0 F (so_32 hst) (by decide) rfl sg_lay_RX0 (j := 7) (by decide) rfl (.inr kw_266) dX11_tremble_94 (fun h22 => ?_)
                refine gw_max F r5_32 h22 rfl kw_523 kw_max1 kw_math kw_max2 (Nat.le_of_ble_eq_true rfl) (by decide) (by decide) (by decide) (by decide) dX11_tremble_97 ?_
                refine gw_istore F (by decide) rfl dX11_tremble_100 ?_
                refine gw_iinc F (z := (x6_32 + 1)) 6 rfl (by omega) (by decide) rfl dX11_tremble_102 ?_
                refine gw_goto F (tgt := 32) dX11_tremble_105 (by decide) ?_
                obtain ⟨g23, hf⟩ := hf
                refine gw_sub [3, 4, 5, 6, 2, 1, 0] rfl ?_
                exact ih s15 (sg_min x4_32 (s15 32 7)) (sg_max x5_32 (s15 32 7)) (x6_32 + 1) (sg_min_R r4_32 h20) (sg_max_R r5_32 h22) g23 hf
              · have hf := hf.2 c18
                refine gw_iconst F dX11_tremble_72 ?_
                exact gr_HI F (by decide) hf (by decide) (by decide) dX11_tremble_73
        obtain ⟨n24, hf⟩ := hf
        refine gw_sub [3, 4, 5, 6, 2, 1, 0] rfl ?_
        refine L32   n24 s0 2000 0 (-1) (by decide) (by decide) (by decide) hf
      · have hf := hf.2 c5
        refine gw_iconst F dX11_tremble_19 ?_
        exact gr_HI F (by decide) hf (by decide) (by decide) dX11_tremble_20

theorem dX2_add_0 : decode cX2_add 0 = .ok (.aload_n 0, 1) := by decide +kernel
theorem dX2_add_1 : decode cX2_add 1 = .ok (.getfield 23, 3) := by decide +kernel
theorem dX2_add_4 : decode cX2_add 4 = .ok (.bipush 40, 2) := by decide +kernel
theorem dX2_add_6 : decode cX2_add 6 = .ok (.if_icmp .ge 29, 3) := by decide +kernel
theorem dX2_add_9 : decode cX2_add 9 = .ok (.aload_n 0, 1) := by decide +kernel
theorem dX2_add_10 : decode cX2_add 10 = .ok (.getfield 14, 3) := by decide +kernel
theorem dX2_add_13 : decode cX2_add 13 = .ok (.iload_n 1, 1) := by decide +kernel
theorem dX2_add_14 : decode cX2_add 14 = .ok (.invokevirtual 27, 3) := by decide +kernel
theorem dX2_add_17 : decode cX2_add 17 = .ok (.aload_n 0, 1) := by decide +kernel
theorem dX2_add_18 : decode cX2_add 18 = .ok (.getfield 20, 3) := by decide +kernel
theorem dX2_add_21 : decode cX2_add 21 = .ok (.iload_n 2, 1) := by decide +kernel
theorem dX2_add_22 : decode cX2_add 22 = .ok (.invokevirtual 27, 3) := by decide +kernel
theorem dX2_add_25 : decode cX2_add 25 = .ok (.aload_n 0, 1) := by decide +kernel
theorem dX2_add_26 : decode cX2_add 26 = .ok (.dup, 1) := by decide +kernel
theorem dX2_add_27 : decode cX2_add 27 = .ok (.getfield 23, 3) := by decide +kernel
theorem dX2_add_30 : decode cX2_add 30 = .ok (.iconst 1, 1) := by decide +kernel
theorem dX2_add_31 : decode cX2_add 31 = .ok (.iadd, 1) := by decide +kernel
theorem dX2_add_32 : decode cX2_add 32 = .ok (.putfield 23, 3) := by decide +kernel
theorem dX2_add_35 : decode cX2_add 35 = .ok (.return_, 1) := by decide +kernel
theorem hcX2_add : yX2_add.cls ≠ "java/lang/invoke/MethodHandle" ∧ yX2_add.cls ≠ "java/lang/invoke/VarHandle" ∧ (parseMethodDescriptor yX2_add.desc).map (fun d => d.parameters.length) = some 2 := ⟨by decide +kernel, by decide +kernel, by decide +kernel⟩
def fX2_add (La : sg_L) (s0 : sg_M) (o : Int) (x1 : Int) (x2 : Int) (Q : sg_M → Prop) : Prop := ((40 ≤ (s0 o 2) → Q s0) ∧ (¬ (40 ≤ (s0 o 2)) → fX4_add La s0 (o + 1) x1 (fun s4 => fX4_add La s4 (o + 3) x2 (fun s6 => sg_R ((s6 o 2) + 1) ∧ ∀ s9 : sg_M, s9 = sg_up s6 o 2 ((s6 o 2) + 1) → Q s9))))
set_option maxHeartbeats 4000000 in
set_option maxRecDepth 100000 in
theorem CX2_add {l : Launch} {G : sg_G} {La : sg_L} {s0 : sg_M} {o : Int} (to : sg_O La o 2) {x1 : Int} (r1 : sg_R x1) {x2 : Int} (r2 : sg_R x2) {Q : sg_M → Prop} (hf : fX2_add La s0 o x1 x2 Q) : sg_C l G yX2_add cX2_add 3 (none) 2 0 0 La s0 [sg_r o, sg_i x1, sg_i x2] (sg_HV La Q) := by
  refine sg_body (by decide +kernel) (Nat.le_of_ble_eq_true rfl) ?_
  intro p e s m args below meth c F hnm
  unfold fX2_add at hf
  show sg_W p l e (sg_rm 2 0 0) s m args below meth c (MQ below (sg_Q (none) G La s.heap.size (sg_HV La Q)) args s 0 0 (sg_A La s.heap.size)) 3 G (sg_A La s.heap.size) La s0 0 0 0 [(0, sg_r o), (1, sg_i x1), (2, sg_i x2)] []
  refine gw_aload_n F 0 rfl rfl to.1 dX2_add_0 ?_
  refine gw_get0 F to (by decide) rfl sg_lay_RX2 (j := 2) (by decide) rfl (host := "") (.inl kw_228) dX2_add_1 (fun h1 => ?_)
  refine gw_bipush F rfl dX2_add_4 ?_
  refine gw_icmp_ge F (tgt := 35) dX2_add_6 (by decide) h1 (by decide) (fun c2 => ?_) (fun c2 => ?_)
  · have hf := hf.1 c2
    exact gr_HV F hf (by decide) (by decide) dX2_add_35
  · have hf := hf.2 c2
    refine gw_aload_n F 0 rfl rfl to.1 dX2_add_9 ?_
    refine gw_get3 F to (by decide) rfl sg_lay_RX2 (j := 0) (by decide) (o1 := (o + 1)) (by first | rfl | omega) rfl (host := "") (.inl kw_224) dX2_add_10 (fun h3 => ?_)
    refine gw_iload_n F 1 rfl rfl dX2_add_13 ?_
    refine gk_HV F (gc_V F (S := []) (As := [sg_i x1]) (T := TX4) (N := 3) (CX4_add (sg_O_of h3 (by decide)) r1 hf) (sg_O_of h3 (by decide)) (by decide) rfl kw_538 kw_97 kw_644 kw_536 kw_537 hcX4_add ⟨by decide, by decide⟩ rfl rfl (Nat.le_of_ble_eq_true rfl) ⟨by decide, by decide⟩ dX2_add_14) (fun s4 hf => ?_)
    refine gw_aload_n F 0 rfl rfl to.1 dX2_add_17 ?_
    refine gw_get3 F to (by decide) rfl sg_lay_RX2 (j := 1) (by decide) (o1 := (o + 3)) (by first | rfl | omega) rfl (host := "") (.inl kw_226) dX2_add_18 (fun h5 => ?_)
    refine gw_iload_n F 2 rfl rfl dX2_add_21 ?_
    refine gk_HV F (gc_V F (S := []) (As := [sg_i x2]) (T := TX4) (N := 3) (CX4_add (sg_O_of h5 (by decide)) r2 hf) (sg_O_of h5 (by decide)) (by decide) rfl kw_538 kw_97 kw_644 kw_536 kw_537 hcX4_add ⟨by decide, by decide⟩ rfl rfl (Nat.le_of_ble_eq_true rfl) ⟨by decide, by decide⟩ dX2_add_22) (fun s6 hf => ?_)
    refine gw_aload_n F 0 rfl rfl to.1 dX2_add_25 ?_
    refine gw_dup F rfl dX2_add_26 ?_
    refine gw_get0 F to (by decide) rfl sg_lay_RX2 (j := 2) (by decide) rfl (host := "") (.inl kw_228) dX2_add_27 (fun h7 => ?_)
    refine gw_iconst F dX2_add_30 ?_
    refine gw_iadd F rfl dX2_add_31 ?_
    obtain ⟨g8, hf⟩ := hf
    obtain ⟨s9, e10⟩ : ∃ z : sg_M, z = sg_up s6 o 2 ((s6 o 2) + 1) := ⟨_, rfl⟩
    have hf := hf s9 e10
    refine gw_put0 F to (by decide) rfl sg_lay_RX2 (j := 2) (by decide) g8 e10 tyX2_ok nmX2 rfl (tyX2_ok 2 (by decide)) rfl (host := "") (.inl kw_228) dX2_add_32 ?_
    exact gr_HV F hf (by decide) (by decide) dX2_add_35

theorem dX11_breaks_0 : decode cX11_breaks 0 = .ok (.iload_n 1, 1) := by decide +kernel
theorem dX11_breaks_1 : decode cX11_breaks 1 = .ok (.iload_n 2, 1) := by decide +kernel
theorem dX11_breaks_2 : decode cX11_breaks 2 = .ok (.invokestatic 158, 3) := by decide +kernel
theorem dX11_breaks_5 : decode cX11_breaks 5 = .ok (.ifCond .ne 6, 3) := by decide +kernel
theorem dX11_breaks_8 : decode cX11_breaks 8 = .ok (.bipush (-2), 2) := by decide +kernel
theorem dX11_breaks_10 : decode cX11_breaks 10 = .ok (.ireturn, 1) := by decide +kernel
theorem dX11_breaks_11 : decode cX11_breaks 11 = .ok (.aload_n 0, 1) := by decide +kernel
theorem dX11_breaks_12 : decode cX11_breaks 12 = .ok (.getfield 54, 3) := by decide +kernel
theorem dX11_breaks_15 : decode cX11_breaks 15 = .ok (.aload_n 0, 1) := by decide +kernel
theorem dX11_breaks_16 : decode cX11_breaks 16 = .ok (.getfield 39, 3) := by decide +kernel
theorem dX11_breaks_19 : decode cX11_breaks 19 = .ok (.getfield 112, 3) := by decide +kernel
theorem dX11_breaks_22 : decode cX11_breaks 22 = .ok (.iload_n 1, 1) := by decide +kernel
theorem dX11_breaks_23 : decode cX11_breaks 23 = .ok (.iload_n 2, 1) := by decide +kernel
theorem dX11_breaks_24 : decode cX11_breaks 24 = .ok (.invokevirtual 171, 3) := by decide +kernel
theorem dX11_breaks_27 : decode cX11_breaks 27 = .ok (.aload_n 0, 1) := by decide +kernel
theorem dX11_breaks_28 : decode cX11_breaks 28 = .ok (.getfield 54, 3) := by decide +kernel
theorem dX11_breaks_31 : decode cX11_breaks 31 = .ok (.getfield 175, 3) := by decide +kernel
theorem dX11_breaks_34 : decode cX11_breaks 34 = .ok (.ireturn, 1) := by decide +kernel
theorem hcX11_breaks : yX11_breaks.cls ≠ "java/lang/invoke/MethodHandle" ∧ yX11_breaks.cls ≠ "java/lang/invoke/VarHandle" ∧ (parseMethodDescriptor yX11_breaks.desc).map (fun d => d.parameters.length) = some 2 := ⟨by decide +kernel, by decide +kernel, by decide +kernel⟩
def fX11_breaks (La : sg_L) (s0 : sg_M) (x1 : Int) (x2 : Int) (Q : Int → sg_M → Prop) : Prop := fX11_isBend x1 x2 (fun u1 => ((u1 ≠ 0 → (0 ≤ (s0 4 0)) ∧ fX0_bendTo La s0 (s0 4 0) x1 x2 (fun s9 => Q (s9 32 5) s9)) ∧ (u1 = 0 → Q (-2) s0)))
set_option maxHeartbeats 4000000 in
set_option maxRecDepth 100000 in
theorem CX11_breaks {l : Launch} {G : sg_G} {La : sg_L} {s0 : sg_M} (hst : sg_St La) {x1 : Int} (r1 : sg_R x1) {x2 : Int} (r2 : sg_R x2) {Q : Int → sg_M → Prop} (hf : fX11_breaks La s0 x1 x2 Q) : sg_C l G yX11_breaks cX11_breaks 3 (some .int) 5 0 0 La s0 [sg_r 0, sg_i x1, sg_i x2] (sg_HI La Q) := by
  refine sg_body (by decide +kernel) (Nat.le_of_ble_eq_true rfl) ?_
  intro p e s m args below meth c F hnm
  unfold fX11_breaks at hf
  show sg_W p l e (sg_rm 5 0 0) s m args below meth c (MQ below (sg_Q (some .int) G La s.heap.size (sg_HI La Q)) args s 0 0 (sg_A La s.heap.size)) 3 G (sg_A La s.heap.size) La s0 0 0 0 [(0, sg_r 0), (1, sg_i x1), (2, sg_i x2)] []
  refine gw_iload_n F 1 rfl rfl dX11_breaks_0 ?_
  refine gw_iload_n F 2 rfl rfl dX11_breaks_1 ?_
  refine gk_PZ F (gc_S F (S := []) (As := [sg_i x1, sg_i x2]) (CX11_isBend r1 r2 hf) kw_502 kw_90 kw_500 kw_501 hcX11_isBend ⟨by decide, by decide⟩ rfl rfl (Nat.le_of_ble_eq_true rfl) ⟨by decide, by decide⟩ dX11_breaks_2) (fun u1 h2 hf => ?_)
  refine gw_if_ne F (tgt := 11) dX11_breaks_5 (by decide) (sg_B_R h2) (fun c3 => ?_) (fun c3 => ?_)
  · have hf := hf.1 c3
    refine gw_aload_n F 0 rfl rfl (by decide) dX11_breaks_11 ?_
    refine gw_get7 F (so_0 hst) (by decide) rfl sg_lay_RX11 (j := 5) (by decide) (o1 := 32) (by first | rfl | omega) rfl (host := "") (.inl kw_331) dX11_breaks_12 (fun h4 => ?_)
    refine gw_aload_n F 0 rfl rfl (by decide) dX11_breaks_15 ?_
    refine gw_get7 F (so_0 hst) (by decide) rfl sg_lay_RX11 (j := 2) (by decide) (o1 := 4) (by first | rfl | omega) rfl (host := "") (.inl kw_328) dX11_breaks_16 (fun h5 => ?_)
    refine gw_get4 F (so_4 hst) (by decide) rfl sg_lay_RX7 (j := 0) (by decide) rfl (.inr kw_234) dX11_breaks_19 (fun h6 => ?_)
    refine gw_iload_n F 1 rfl rfl dX11_breaks_22 ?_
    refine gw_iload_n F 2 rfl rfl dX11_breaks_23 ?_
    obtain ⟨g7, hf⟩ := hf
    have t8 := sg_nn h6 g7
    refine gk_HV F (gc_V F (S := []) (As := [sg_r (s0 4 0), sg_i x1, sg_i x2]) (T := TX0) (N := 11) (CX0_bendTo hst t8 r1 r2 hf) (so_32 hst) (by decide) rfl kw_506 kw_100 kw_503 kw_504 kw_505 hcX0_bendTo ⟨by decide, by decide⟩ rfl rfl (Nat.le_of_ble_eq_true rfl) ⟨by decide, by decide⟩ dX11_breaks_24) (fun s9 hf => ?_)
    refine gw_aload_n F 0 rfl rfl (by decide) dX11_breaks_27 ?_
    refine gw_get7 F (so_0 hst) (by decide) rfl sg_lay_RX11 (j := 5) (by decide) (o1 := 32) (by first | rfl | omega) rfl (host := "") (.inl kw_331) dX11_breaks_28 (fun h10 => ?_)
    refine gw_get0 F (so_32 hst) (by decide) rfl sg_lay_RX0 (j := 5) (by decide) rfl (.inr kw_260) dX11_breaks_31 (fun h11 => ?_)
    exact gr_HI F h11 hf (by decide) (by decide) dX11_breaks_34
  · have hf := hf.2 c3
    refine gw_bipush F rfl dX11_breaks_8 ?_
    exact gr_HI F (by decide) hf (by decide) (by decide) dX11_breaks_10

theorem dX3_knee_0 : decode cX3_knee 0 = .ok (.iload_n 1, 1) := by decide +kernel
theorem dX3_knee_1 : decode cX3_knee 1 = .ok (.iconst 1, 1) := by decide +kernel
theorem dX3_knee_2 : decode cX3_knee 2 = .ok (.if_icmp .lt 18, 3) := by decide +kernel
theorem dX3_knee_5 : decode cX3_knee 5 = .ok (.iload_n 1, 1) := by decide +kernel
theorem dX3_knee_6 : decode cX3_knee 6 = .ok (.aload_n 0, 1) := by decide +kernel
theorem dX3_knee_7 : decode cX3_knee 7 = .ok (.getfield 18, 3) := by decide +kernel
theorem dX3_knee_10 : decode cX3_knee 10 = .ok (.if_icmp .gt 10, 3) := by decide +kernel
theorem dX3_knee_13 : decode cX3_knee 13 = .ok (.iload_n 1, 1) := by decide +kernel
theorem dX3_knee_14 : decode cX3_knee 14 = .ok (.sipush 200, 3) := by decide +kernel
theorem dX3_knee_17 : decode cX3_knee 17 = .ok (.if_icmp .le 7, 3) := by decide +kernel
theorem dX3_knee_20 : decode cX3_knee 20 = .ok (.iconst 0, 1) := by decide +kernel
theorem dX3_knee_21 : decode cX3_knee 21 = .ok (.goto 11, 3) := by decide +kernel
theorem dX3_knee_24 : decode cX3_knee 24 = .ok (.aload_n 0, 1) := by decide +kernel
theorem dX3_knee_25 : decode cX3_knee 25 = .ok (.getfield 9, 3) := by decide +kernel
theorem dX3_knee_28 : decode cX3_knee 28 = .ok (.iload_n 1, 1) := by decide +kernel
theorem dX3_knee_29 : decode cX3_knee 29 = .ok (.iconst 1, 1) := by decide +kernel
theorem dX3_knee_30 : decode cX3_knee 30 = .ok (.isub, 1) := by decide +kernel
theorem dX3_knee_31 : decode cX3_knee 31 = .ok (.iaload, 1) := by decide +kernel
theorem dX3_knee_32 : decode cX3_knee 32 = .ok (.ireturn, 1) := by decide +kernel
theorem hcX3_knee : yX3_knee.cls ≠ "java/lang/invoke/MethodHandle" ∧ yX3_knee.cls ≠ "java/lang/invoke/VarHandle" ∧ (parseMethodDescriptor yX3_knee.desc).map (fun d => d.parameters.length) = some 1 := ⟨by decide +kernel, by decide +kernel, by decide +kernel⟩
def fX3_knee (s0 : sg_M) (o : Int) (x1 : Int) (Q : Int → Prop) : Prop := ((x1 < 1 → Q 0) ∧ (¬ (x1 < 1) → (((s0 o 2) < x1 → Q 0) ∧ (¬ ((s0 o 2) < x1) → ((x1 ≤ 200 → (0 ≤ (x1 - 1) ∧ (x1 - 1) < 200) ∧ Q (s0 (o + 1) (x1 - 1))) ∧ (¬ (x1 ≤ 200) → Q 0))))))
set_option maxHeartbeats 4000000 in
set_option maxRecDepth 100000 in
theorem CX3_knee {l : Launch} {G : sg_G} {La : sg_L} {s0 : sg_M} {o : Int} (to : sg_O La o 3) {x1 : Int} (r1 : sg_R x1) {Q : Int → Prop} (hf : fX3_knee s0 o x1 Q) : sg_C l G yX3_knee cX3_knee 2 (some .int) 1 0 0 La s0 [sg_r o, sg_i x1] (sg_PI La s0 Q) := by
  refine sg_body (by decide +kernel) (Nat.le_of_ble_eq_true rfl) ?_
  intro p e s m args below meth c F hnm
  unfold fX3_knee at hf
  show sg_W p l e (sg_rm 1 0 0) s m args below meth c (MQ below (sg_Q (some .int) G La s.heap.size (sg_PI La s0 Q)) args s 0 0 (sg_A La s.heap.size)) 2 G (sg_A La s.heap.size) La s0 0 0 0 [(0, sg_r o), (1, sg_i x1)] []
  refine gw_iload_n F 1 rfl rfl dX3_knee_0 ?_
  refine gw_iconst F dX3_knee_1 ?_
  refine gw_icmp_lt F (tgt := 20) dX3_knee_2 (by decide) r1 (by decide) (fun c1 => ?_) (fun c1 => ?_)
  · have hf := hf.1 c1
    refine gw_iconst F dX3_knee_20 ?_
    refine gw_goto F (tgt := 32) dX3_knee_21 (by decide) ?_
    exact gr_PI F (by decide) hf (by decide) (by decide) dX3_knee_32
  · have hf := hf.2 c1
    refine gw_iload_n F 1 rfl rfl dX3_knee_5 ?_
    refine gw_aload_n F 0 rfl rfl to.1 dX3_knee_6 ?_
    refine gw_get0 F to (by decide) rfl sg_lay_RX3 (j := 2) (by decide) rfl (host := "") (.inl kw_180) dX3_knee_7 (fun h2 => ?_)
    refine gw_icmp_gt F (tgt := 20) dX3_knee_10 (by decide) r1 h2 (fun c3 => ?_) (fun c3 => ?_)
    · have hf := hf.1 c3
      refine gw_iconst F dX3_knee_20 ?_
      refine gw_goto F (tgt := 32) dX3_knee_21 (by decide) ?_
      exact gr_PI F (by decide) hf (by decide) (by decide) dX3_knee_32
    · have hf := hf.2 c3
      refine gw_iload_n F 1 rfl rfl dX3_knee_13 ?_
      refine gw_sipush F rfl dX3_knee_14 ?_
      refine gw_icmp_le F (tgt := 24) dX3_knee_17 (by decide) r1 (by decide) (fun c4 => ?_) (fun c4 => ?_)
      · have hf := hf.1 c4
        refine gw_aload_n F 0 rfl rfl to.1 dX3_knee_24 ?_
        refine gw_get3 F to (by decide) rfl sg_lay_RX3 (j := 0) (by decide) (o1 := (o + 1)) (by first | rfl | omega) rfl (host := "") (.inl kw_178) dX3_knee_25 (fun h5 => ?_)
        refine gw_iload_n F 1 rfl rfl dX3_knee_28 ?_
        refine gw_iconst F dX3_knee_29 ?_
        refine gw_isub F rfl dX3_knee_30 ?_
        obtain ⟨⟨b60, b61⟩, hf⟩ := hf
        refine gw_iald F (sg_AN_of (sg_O_of h5 (by decide)) (by decide) (by decide) (by decide)) b60 b61 dX3_knee_31 (fun h7 => ?_)
        exact gr_PI F h7 hf (by decide) (by decide) dX3_knee_32
      · have hf := hf.2 c4
        refine gw_iconst F dX3_knee_20 ?_
        refine gw_goto F (tgt := 32) dX3_knee_21 (by decide) ?_
        exact gr_PI F (by decide) hf (by decide) (by decide) dX3_knee_32

theorem dX5_holds_0 : decode cX5_holds 0 = .ok (.iconst 0, 1) := by decide +kernel
theorem dX5_holds_1 : decode cX5_holds 1 = .ok (.istore_n 3, 1) := by decide +kernel
theorem dX5_holds_2 : decode cX5_holds 2 = .ok (.iconst 0, 1) := by decide +kernel
theorem dX5_holds_3 : decode cX5_holds 3 = .ok (.istore 4, 2) := by decide +kernel
theorem dX5_holds_5 : decode cX5_holds 5 = .ok (.iload 4, 2) := by decide +kernel
theorem dX5_holds_7 : decode cX5_holds 7 = .ok (.aload_n 0, 1) := by decide +kernel
theorem dX5_holds_8 : decode cX5_holds 8 = .ok (.getfield 16, 3) := by decide +kernel
theorem dX5_holds_11 : decode cX5_holds 11 = .ok (.getfield 112, 3) := by decide +kernel
theorem dX5_holds_14 : decode cX5_holds 14 = .ok (.if_icmp .ge 99, 3) := by decide +kernel
theorem dX5_holds_17 : decode cX5_holds 17 = .ok (.iload_n 3, 1) := by decide +kernel
theorem dX5_holds_18 : decode cX5_holds 18 = .ok (.iconst 1, 1) := by decide +kernel
theorem dX5_holds_19 : decode cX5_holds 19 = .ok (.iand, 1) := by decide +kernel
theorem dX5_holds_20 : decode cX5_holds 20 = .ok (.istore 5, 2) := by decide +kernel
theorem dX5_holds_22 : decode cX5_holds 22 = .ok (.aload_n 0, 1) := by decide +kernel
theorem dX5_holds_23 : decode cX5_holds 23 = .ok (.getfield 16, 3) := by decide +kernel
theorem dX5_holds_26 : decode cX5_holds 26 = .ok (.iload 4, 2) := by decide +kernel
theorem dX5_holds_28 : decode cX5_holds 28 = .ok (.invokevirtual 115, 3) := by decide +kernel
theorem dX5_holds_31 : decode cX5_holds 31 = .ok (.tableswitch 55 9 11 #[25, 32, 45], 25) := by decide +kernel
theorem dX5_holds_56 : decode cX5_holds 56 = .ok (.iload_n 3, 1) := by decide +kernel
theorem dX5_holds_57 : decode cX5_holds 57 = .ok (.iconst 1, 1) := by decide +kernel
theorem dX5_holds_58 : decode cX5_holds 58 = .ok (.ixor, 1) := by decide +kernel
theorem dX5_holds_59 : decode cX5_holds 59 = .ok (.istore_n 3, 1) := by decide +kernel
theorem dX5_holds_60 : decode cX5_holds 60 = .ok (.goto 47, 3) := by decide +kernel
theorem dX5_holds_63 : decode cX5_holds 63 = .ok (.iload_n 3, 1) := by decide +kernel
theorem dX5_holds_64 : decode cX5_holds 64 = .ok (.iconst 1, 1) := by decide +kernel
theorem dX5_holds_65 : decode cX5_holds 65 = .ok (.iushr, 1) := by decide +kernel
theorem dX5_holds_66 : decode cX5_holds 66 = .ok (.iload 5, 2) := by decide +kernel
theorem dX5_holds_68 : decode cX5_holds 68 = .ok (.bipush (-2), 2) := by decide +kernel
theorem dX5_holds_70 : decode cX5_holds 70 = .ok (.ior, 1) := by decide +kernel
theorem dX5_holds_71 : decode cX5_holds 71 = .ok (.iand, 1) := by decide +kernel
theorem dX5_holds_72 : decode cX5_holds 72 = .ok (.istore_n 3, 1) := by decide +kernel
theorem dX5_holds_73 : decode cX5_holds 73 = .ok (.goto 34, 3) := by decide +kernel
theorem dX5_holds_76 : decode cX5_holds 76 = .ok (.iload_n 3, 1) := by decide +kernel
theorem dX5_holds_77 : decode cX5_holds 77 = .ok (.iconst 1, 1) := by decide +kernel
theorem dX5_holds_78 : decode cX5_holds 78 = .ok (.iushr, 1) := by decide +kernel
theorem dX5_holds_79 : decode cX5_holds 79 = .ok (.iload 5, 2) := by decide +kernel
theorem dX5_holds_81 : decode cX5_holds 81 = .ok (.ior, 1) := by decide +kernel
theorem dX5_holds_82 : decode cX5_holds 82 = .ok (.istore_n 3, 1) := by decide +kernel
theorem dX5_holds_83 : decode cX5_holds 83 = .ok (.goto 24, 3) := by decide +kernel
theorem dX5_holds_86 : decode cX5_holds 86 = .ok (.iload_n 3, 1) := by decide +kernel
theorem dX5_holds_87 : decode cX5_holds 87 = .ok (.iconst 1, 1) := by decide +kernel
theorem dX5_holds_88 : decode cX5_holds 88 = .ok (.ishl, 1) := by decide +kernel
theorem dX5_holds_89 : decode cX5_holds 89 = .ok (.aload_n 0, 1) := by decide +kernel
theorem dX5_holds_90 : decode cX5_holds 90 = .ok (.iload 4, 2) := by decide +kernel
theorem dX5_holds_92 : decode cX5_holds 92 = .ok (.aload_n 1, 1) := by decide +kernel
theorem dX5_holds_93 : decode cX5_holds 93 = .ok (.iload_n 2, 1) := by decide +kernel
theorem dX5_holds_94 : decode cX5_holds 94 = .ok (.invokevirtual 119, 3) := by decide +kernel
theorem dX5_holds_97 : decode cX5_holds 97 = .ok (.ifCond .eq 7, 3) := by decide +kernel
theorem dX5_holds_100 : decode cX5_holds 100 = .ok (.iconst 1, 1) := by decide +kernel
theorem dX5_holds_101 : decode cX5_holds 101 = .ok (.goto 4, 3) := by decide +kernel
theorem dX5_holds_104 : decode cX5_holds 104 = .ok (.iconst 0, 1) := by decide +kernel
theorem dX5_holds_105 : decode cX5_holds 105 = .ok (.ior, 1) := by decide +kernel
theorem dX5_holds_106 : decode cX5_holds 106 = .ok (.istore_n 3, 1) := by decide +kernel
theorem dX5_holds_107 : decode cX5_holds 107 = .ok (.iinc 4 1, 3) := by decide +kernel
theorem dX5_holds_110 : decode cX5_holds 110 = .ok (.goto (-105), 3) := by decide +kernel
theorem dX5_holds_113 : decode cX5_holds 113 = .ok (.iload_n 3, 1) := by decide +kernel
theorem dX5_holds_114 : decode cX5_holds 114 = .ok (.iconst 1, 1) := by decide +kernel
theorem dX5_holds_115 : decode cX5_holds 115 = .ok (.iand, 1) := by decide +kernel
theorem dX5_holds_116 : decode cX5_holds 116 = .ok (.iconst 1, 1) := by decide +kernel
theorem dX5_holds_117 : decode cX5_holds 117 = .ok (.if_icmp .ne 7, 3) := by decide +kernel
theorem dX5_holds_120 : decode cX5_holds 120 = .ok (.iconst 1, 1) := by decide +kernel
theorem dX5_holds_121 : decode cX5_holds 121 = .ok (.goto 4, 3) := by decide +kernel
theorem dX5_holds_124 : decode cX5_holds 124 = .ok (.iconst 0, 1) := by decide +kernel
theorem dX5_holds_125 : decode cX5_holds 125 = .ok (.ireturn, 1) := by decide +kernel
theorem hcX5_holds : yX5_holds.cls ≠ "java/lang/invoke/MethodHandle" ∧ yX5_holds.cls ≠ "java/lang/invoke/VarHandle" ∧ (parseMethodDescriptor yX5_holds.desc).map (fun d => d.parameters.length) = some 2 := ⟨by decide +kernel, by decide +kernel, by decide +kernel⟩
def fX5_holds_j107 (x4_5 : Int) (k5 : Int → Int → Prop) (x3_107 : Int) : Prop := sg_R (x4_5 + 1) ∧ k5 x3_107 (x4_5 + 1)
def fX5_holds_j105 (x3_5 : Int) (k107 : Int → Prop) (y0_105 : Int) : Prop := k107 (sg_or (sg_shl x3_5 1) y0_105)
def fX5_holds_L5 (La : sg_L) (s0 : sg_M) (o : Int) (x2 : Int) (k113 : Int → Prop) : Nat → Int → Int → Prop
  | 0, _, _ => False
  | n_5 + 1, x3_5, x4_5 => (((s0 (o + 1) 1) ≤ x4_5 → k113 x3_5) ∧ (¬ ((s0 (o + 1) 1) ≤ x4_5) → fX4_at La s0 (o + 1) x4_5 (fun u5 => ((u5 < 9 ∨ 11 < u5 → fX5_isSo La s0 o x4_5 x2 (fun u9 => ((u9 = 0 → (fX5_holds_j105 x3_5 (fX5_holds_j107 x4_5 (fX5_holds_L5 La s0 o x2 k113 n_5))) 0) ∧ (¬ (u9 = 0) → (fX5_holds_j105 x3_5 (fX5_holds_j107 x4_5 (fX5_holds_L5 La s0 o x2 k113 n_5))) 1)))) ∧ (u5 = 9 → (fX5_holds_j107 x4_5 (fX5_holds_L5 La s0 o x2 k113 n_5)) (sg_xor x3_5 1)) ∧ (u5 = 10 → ∀ v12 : Int, v12 = (sg_and (sg_ushr x3_5 1) (sg_or (sg_and x3_5 1) (-2))) → sg_R v12 ∧ (fX5_holds_j107 x4_5 (fX5_holds_L5 La s0 o x2 k113 n_5)) v12) ∧ (u5 = 11 → ∀ v15 : Int, v15 = (sg_or (sg_ushr x3_5 1) (sg_and x3_5 1)) → sg_R v15 ∧ (fX5_holds_j107 x4_5 (fX5_holds_L5 La s0 o x2 k113 n_5)) v15)))))
def fX5_holds (La : sg_L) (s0 : sg_M) (o : Int) (x2 : Int) (Q : Int → Prop) : Prop := (∃ n18 : Nat, fX5_holds_L5 La s0 o x2 (fun x3_113e5 => (((sg_and x3_113e5 1) ≠ 1 → Q 0) ∧ ((sg_and x3_113e5 1) = 1 → Q 1))) n18 0 0)
set_option maxHeartbeats 4000000 in
set_option maxRecDepth 100000 in
theorem CX5_holds {l : Launch} {G : sg_G} {La : sg_L} {s0 : sg_M} (hst : sg_St La) {o : Int} (to : sg_O La o 5) {x2 : Int} (r2 : sg_R x2) {Q : Int → Prop} (hf : fX5_holds La s0 o x2 Q) : sg_C l G yX5_holds cX5_holds 6 (some .boolean) 4 0 0 La s0 [sg_r o, sg_r 32, sg_i x2] (sg_PZ La s0 Q) := by
  refine sg_body (by decide +kernel) (Nat.le_of_ble_eq_true rfl) ?_
  intro p e s m args below meth c F hnm
  unfold fX5_holds at hf
  show sg_W p l e (sg_rm 4 0 0) s m args below meth c (MQ below (sg_Q (some .boolean) G La s.heap.size (sg_PZ La s0 Q)) args s 0 0 (sg_A La s.heap.size)) 6 G (sg_A La s.heap.size) La s0 0 0 0 [(0, sg_r o), (1, sg_r 32), (2, sg_i x2)] []
  refine gw_iconst F dX5_holds_0 ?_
  refine gw_istore_n F rfl (by decide) rfl dX5_holds_1 ?_
  refine gw_iconst F dX5_holds_2 ?_
  refine gw_istore F (by decide) rfl dX5_holds_3 ?_
  have L5 : ∀ (k113 : Int → Prop) (hk113 : ∀ (x3_113e5 : Int), sg_R x3_113e5 → k113 x3_113e5 → sg_W p l e (sg_rm 4 0 0) s m args below meth c (MQ below (sg_Q (some .boolean) G La s.heap.size (sg_PZ La s0 Q)) args s 0 0 (sg_A La s.heap.size)) 6 G (sg_A La s.heap.size) La s0 0 0 113 [(3, sg_i x3_113e5)] []), ∀ n_5 : Nat, ∀ (x3_5 : Int) (x4_5 : Int), sg_R x3_5 → sg_R x4_5 → fX5_holds_L5 La s0 o x2 k113 n_5 x3_5 x4_5 → sg_W p l e (sg_rm 4 0 0) s m args below meth c (MQ below (sg_Q (some .boolean) G La s.heap.size (sg_PZ La s0 Q)) args s 0 0 (sg_A La s.heap.size)) 6 G (sg_A La s.heap.size) La s0 0 0 5 [(0, sg_r o), (1, sg_r 32), (2, sg_i x2), (3, sg_i x3_5), (4, sg_i x4_5)] [] := by
    intro k113 hk113 n_5
    induction n_5 with
    | zero => intro x3_5 x4_5 r3_5 r4_5 hf; exact hf.elim
    | succ n_5 ih =>
      intro x3_5 x4_5 r3_5 r4_5 hf
      unfold fX5_holds_L5 at hf
      refine gw_iload F 4 rfl dX5_holds_5 ?_
      refine gw_aload_n F 0 rfl rfl to.1 dX5_holds_7 ?_
      refine gw_get3 F to (by decide) rfl sg_lay_RX5 (j := 0) (by decide) (o1 := (o + 1)) (by first | rfl | omega) rfl (host := "") (.inl kw_207) dX5_holds_8 (fun h1 => ?_)
      refine gw_get0 F (sg_O_of h1 (by decide)) (by decide) rfl sg_lay_RX4 (j := 1) (by decide) rfl (.inr kw_203) dX5_holds_11 (fun h2 => ?_)
      refine gw_icmp_ge F (tgt := 113) dX5_holds_14 (by decide) r4_5 h2 (fun c3 => ?_) (fun c3 => ?_)
      · have hf := hf.1 c3
        refine gw_sub [3] rfl ?_
        exact hk113 x3_5 r3_5 hf
      · have hf := hf.2 c3
        refine gw_iload_n F 3 rfl rfl dX5_holds_17 ?_
        refine gw_iconst F dX5_holds_18 ?_
        refine gw_iand F rfl dX5_holds_19 ?_
        refine gw_istore F (by decide) rfl dX5_holds_20 ?_
        refine gw_aload_n F 1 rfl rfl to.1 dX5_holds_22 ?_
        refine gw_get3 F to (by decide) rfl sg_lay_RX5 (j := 0) (by decide) (o1 := (o + 1)) (by first | rfl | omega) rfl (host := "") (.inl kw_207) dX5_holds_23 (fun h4 => ?_)
        refine gw_iload F 5 rfl dX5_holds_26 ?_
        refine gk_PI F (gc_V F (S := []) (As := [sg_i x4_5]) (T := TX4) (N := 3) (CX4_at (sg_O_of h4 (by decide)) r4_5 hf) (sg_O_of h4 (by decide)) (by decide) rfl kw_546 kw_97 kw_847 kw_544 kw_545 hcX4_at ⟨by decide, by decide⟩ rfl rfl (Nat.le_of_ble_eq_true rfl) ⟨by decide, by decide⟩ dX5_holds_28) (fun u5 h6 hf => ?_)
        have J107 : ∀ (x3_107 : Int), sg_R x3_107 → (fX5_holds_j107 x4_5 (fX5_holds_L5 La s0 o x2 k113 n_5)) x3_107 → sg_W p l e (sg_rm 4 0 0) s m args below meth c (MQ below (sg_Q (some .boolean) G La s.heap.size (sg_PZ La s0 Q)) args s 0 0 (sg_A La s.heap.size)) 6 G (sg_A La s.heap.size) La s0 0 0 107 [(0, sg_r o), (1, sg_r 32), (2, sg_i x2), (3, sg_i x3_107), (4, sg_i x4_5)] [] := by
          intro x3_107 r3_107 hf
          unfold fX5_holds_j107 at hf
          refine gw_iinc F (z := (x4_5 + 1)) 4 rfl (by omega) (by decide) rfl dX5_holds_107 ?_
          refine gw_goto F (tgt := 5) dX5_holds_110 (by decide) ?_
          obtain ⟨g7, hf⟩ := hf
          refine gw_sub [1, 2, 3, 4, 0] rfl ?_
          exact ih x3_107 (x4_5 + 1) r3_107 g7 hf
        refine gw_switch F dX5_holds_31 h6 (td := 86) (by decide) (fun c8 => ?_) (fun i hi1 hi2 => ?_)
        · have hf := hf.1 c8
          refine gw_iload_n F 4 rfl rfl dX5_holds_86 ?_
          refine gw_iconst F dX5_holds_87 ?_
          refine gw_ishl F rfl dX5_holds_88 ?_
          refine gw_aload_n F 1 rfl rfl to.1 dX5_holds_89 ?_
          refine gw_iload F 5 rfl dX5_holds_90 ?_
          refine gw_aload_n F 2 rfl rfl (by decide) dX5_holds_92 ?_
          refine gw_iload_n F 3 rfl rfl dX5_holds_93 ?_
          refine gk_PZ F (gc_V F (S := [sg_i (sg_shl x3_5 1)]) (As := [sg_i x4_5, sg_r 32, sg_i x2]) (T := TX5) (N := 4) (CX5_isSo hst to r4_5 r2 hf) to (by decide) rfl kw_850 kw_96 kw_848 kw_849 kw_36 hcX5_isSo ⟨by decide, by decide⟩ rfl rfl (Nat.le_of_ble_eq_true rfl) ⟨by decide, by decide⟩ dX5_holds_94) (fun u9 h10 hf => ?_)
          have J105 : ∀ (y0_105 : Int), sg_R y0_105 → (fX5_holds_j105 x3_5 (fX5_holds_j107 x4_5 (fX5_holds_L5 La s0 o x2 k113 n_5))) y0_105 → sg_W p l e (sg_rm 4 0 0) s m args below meth c (MQ below (sg_Q (some .boolean) G La s.heap.size (sg_PZ La s0 Q)) args s 0 0 (sg_A La s.heap.size)) 6 G (sg_A La s.heap.size) La s0 0 0 105 [(0, sg_r o), (1, sg_r 32), (2, sg_i x2), (4, sg_i x4_5)] [sg_i y0_105, sg_i (sg_shl x3_5 1)] := by
            intro y0_105 ry0_105 hf
            unfold fX5_holds_j105 at hf
            refine gw_ior F rfl dX5_holds_105 ?_
            refine gw_istore_n F rfl (by decide) rfl dX5_holds_106 ?_
            refine gw_sub [1, 2, 3, 0, 4] rfl ?_
            exact J107 (sg_or (sg_shl x3_5 1) y0_105) (sg_or_R _ _) hf
          refine gw_if_eq F (tgt := 104) dX5_holds_97 (by decide) (sg_B_R h10) (fun c11 => ?_) (fun c11 => ?_)
          · have hf := hf.1 c11
            refine gw_iconst F dX5_holds_104 ?_
            refine gw_sub [1, 2, 3, 5] rfl ?_
            exact J105 0 (by decide) hf
          · have hf := hf.2 c11
            refine gw_iconst F dX5_holds_100 ?_
            refine gw_goto F (tgt := 105) dX5_holds_101 (by decide) ?_
            refine gw_sub [1, 2, 3, 5] rfl ?_
            exact J105 1 (by decide) hf
        · rcases (show i = 0 ∨ i = 1 ∨ i = 2 by omega) with rfl | rfl | rfl
          · have hf := hf.2.1 (by omega)
            refine ⟨25, 56, rfl, by decide, ?_⟩
            refine gw_iload_n F 4 rfl rfl dX5_holds_56 ?_
            refine gw_iconst F dX5_holds_57 ?_
            refine gw_ixor F rfl dX5_holds_58 ?_
            refine gw_istore_n F rfl (by decide) rfl dX5_holds_59 ?_
            refine gw_goto F (tgt := 107) dX5_holds_60 (by decide) ?_
            refine gw_sub [2, 3, 4, 0, 5] rfl ?_
            exact J107 (sg_xor x3_5 1) (sg_xor_R _ _) hf
          · have hf := hf.2.2.1 (by omega)
            refine ⟨32, 63, rfl, by decide, ?_⟩
            refine gw_iload_n F 4 rfl rfl dX5_holds_63 ?_
            refine gw_iconst F dX5_holds_64 ?_
            refine gw_iushr F rfl dX5_holds_65 ?_
            refine gw_iload F 0 rfl dX5_holds_66 ?_
            refine gw_bipush F rfl dX5_holds_68 ?_
            refine gw_ior F rfl dX5_holds_70 ?_
            refine gw_iand F rfl dX5_holds_71 ?_
            obtain ⟨v12, e13⟩ : ∃ z : Int, z = (sg_and (sg_ushr x3_5 1) (sg_or (sg_and x3_5 1) (-2))) := ⟨_, rfl⟩
            obtain ⟨g14, hf⟩ := hf v12 e13
            refine gw_nmI e13 ?_
            refine gw_istore_n F rfl (by decide) rfl dX5_holds_72 ?_
            refine gw_goto F (tgt := 107) dX5_holds_73 (by decide) ?_
            refine gw_sub [2, 3, 4, 0, 5] rfl ?_
            exact J107 v12 g14 hf
          · have hf := hf.2.2.2 (by omega)
            refine ⟨45, 76, rfl, by decide, ?_⟩
            refine gw_iload_n F 4 rfl rfl dX5_holds_76 ?_
            refine gw_iconst F dX5_holds_77 ?_
            refine gw_iushr F rfl dX5_holds_78 ?_
            refine gw_iload F 0 rfl dX5_holds_79 ?_
            refine gw_ior F rfl dX5_holds_81 ?_
            obtain ⟨v15, e16⟩ : ∃ z : Int, z = (sg_or (sg_ushr x3_5 1) (sg_and x3_5 1)) := ⟨_, rfl⟩
            obtain ⟨g17, hf⟩ := hf v15 e16
            refine gw_nmI e16 ?_
            refine gw_istore_n F rfl (by decide) rfl dX5_holds_82 ?_
            refine gw_goto F (tgt := 107) dX5_holds_83 (by decide) ?_
            refine gw_sub [2, 3, 4, 0, 5] rfl ?_
            exact J107 v15 g17 hf
  obtain ⟨n18, hf⟩ := hf
  refine gw_sub [2, 3, 4, 1, 0] rfl ?_
  refine L5 _ (fun x3_113e5 r3_113e5 hf => ?_) n18 0 0 (by decide) (by decide) hf
  refine gw_iload_n F 0 rfl rfl dX5_holds_113 ?_
  refine gw_iconst F dX5_holds_114 ?_
  refine gw_iand F rfl dX5_holds_115 ?_
  refine gw_iconst F dX5_holds_116 ?_
  refine gw_icmp_ne F (tgt := 124) dX5_holds_117 (by decide) (sg_and_R _ _) (by decide) (fun c19 => ?_) (fun c19 => ?_)
  · have hf := hf.1 c19
    refine gw_iconst F dX5_holds_124 ?_
    exact gr_PZ F (by decide) hf (by decide) (by decide) dX5_holds_125
  · have hf := hf.2 c19
    refine gw_iconst F dX5_holds_120 ?_
    refine gw_goto F (tgt := 125) dX5_holds_121 (by decide) ?_
    exact gr_PZ F (by decide) hf (by decide) (by decide) dX5_holds_125

theorem dX11_askTicks_0 : decode cX11_askTicks 0 = .ok (.aload_n 0, 1) := by decide +kernel
theorem dX11_askTicks_1 : decode cX11_askTicks 1 = .ok (.getfield 99, 3) := by decide +kernel
theorem dX11_askTicks_4 : decode cX11_askTicks 4 = .ok (.getfield 346, 3) := by decide +kernel
theorem dX11_askTicks_7 : decode cX11_askTicks 7 = .ok (.ifCond .eq 4, 3) := by decide +kernel
theorem dX11_askTicks_10 : decode cX11_askTicks 10 = .ok (.return_, 1) := by decide +kernel
theorem dX11_askTicks_11 : decode cX11_askTicks 11 = .ok (.aload_n 0, 1) := by decide +kernel
theorem dX11_askTicks_12 : decode cX11_askTicks 12 = .ok (.getfield 99, 3) := by decide +kernel
theorem dX11_askTicks_15 : decode cX11_askTicks 15 = .ok (.invokevirtual 271, 3) := by decide +kernel
theorem dX11_askTicks_18 : decode cX11_askTicks 18 = .ok (.iconst 1, 1) := by decide +kernel
theorem dX11_askTicks_19 : decode cX11_askTicks 19 = .ok (.istore_n 1, 1) := by decide +kernel
theorem dX11_askTicks_20 : decode cX11_askTicks 20 = .ok (.iload_n 1, 1) := by decide +kernel
theorem dX11_askTicks_21 : decode cX11_askTicks 21 = .ok (.aload_n 0, 1) := by decide +kernel
theorem dX11_askTicks_22 : decode cX11_askTicks 22 = .ok (.getfield 39, 3) := by decide +kernel
theorem dX11_askTicks_25 : decode cX11_askTicks 25 = .ok (.getfield 212, 3) := by decide +kernel
theorem dX11_askTicks_28 : decode cX11_askTicks 28 = .ok (.getfield 216, 3) := by decide +kernel
theorem dX11_askTicks_31 : decode cX11_askTicks 31 = .ok (.if_icmp .gt 68, 3) := by decide +kernel
theorem dX11_askTicks_34 : decode cX11_askTicks 34 = .ok (.aload_n 0, 1) := by decide +kernel
theorem dX11_askTicks_35 : decode cX11_askTicks 35 = .ok (.aload_n 0, 1) := by decide +kernel
theorem dX11_askTicks_36 : decode cX11_askTicks 36 = .ok (.getfield 39, 3) := by decide +kernel
theorem dX11_askTicks_39 : decode cX11_askTicks 39 = .ok (.getfield 112, 3) := by decide +kernel
theorem dX11_askTicks_42 : decode cX11_askTicks 42 = .ok (.aload_n 0, 1) := by decide +kernel
theorem dX11_askTicks_43 : decode cX11_askTicks 43 = .ok (.getfield 39, 3) := by decide +kernel
theorem dX11_askTicks_46 : decode cX11_askTicks 46 = .ok (.getfield 212, 3) := by decide +kernel
theorem dX11_askTicks_49 : decode cX11_askTicks 49 = .ok (.iload_n 1, 1) := by decide +kernel
theorem dX11_askTicks_50 : decode cX11_askTicks 50 = .ok (.invokevirtual 219, 3) := by decide +kernel
theorem dX11_askTicks_53 : decode cX11_askTicks 53 = .ok (.aload_n 0, 1) := by decide +kernel
theorem dX11_askTicks_54 : decode cX11_askTicks 54 = .ok (.getfield 39, 3) := by decide +kernel
theorem dX11_askTicks_57 : decode cX11_askTicks 57 = .ok (.getfield 212, 3) := by decide +kernel
theorem dX11_askTicks_60 : decode cX11_askTicks 60 = .ok (.iload_n 1, 1) := by decide +kernel
theorem dX11_askTicks_61 : decode cX11_askTicks 61 = .ok (.invokevirtual 222, 3) := by decide +kernel
theorem dX11_askTicks_64 : decode cX11_askTicks 64 = .ok (.invokevirtual 225, 3) := by decide +kernel
theorem dX11_askTicks_67 : decode cX11_askTicks 67 = .ok (.aload_n 0, 1) := by decide +kernel
theorem dX11_askTicks_68 : decode cX11_askTicks 68 = .ok (.getfield 39, 3) := by decide +kernel
theorem dX11_askTicks_71 : decode cX11_askTicks 71 = .ok (.getfield 324, 3) := by decide +kernel
theorem dX11_askTicks_74 : decode cX11_askTicks 74 = .ok (.aload_n 0, 1) := by decide +kernel
theorem dX11_askTicks_75 : decode cX11_askTicks 75 = .ok (.getfield 54, 3) := by decide +kernel
theorem dX11_askTicks_78 : decode cX11_askTicks 78 = .ok (.iload_n 1, 1) := by decide +kernel
theorem dX11_askTicks_79 : decode cX11_askTicks 79 = .ok (.invokevirtual 358, 3) := by decide +kernel
theorem dX11_askTicks_82 : decode cX11_askTicks 82 = .ok (.ifCond .eq 11, 3) := by decide +kernel
theorem dX11_askTicks_85 : decode cX11_askTicks 85 = .ok (.aload_n 0, 1) := by decide +kernel
theorem dX11_askTicks_86 : decode cX11_askTicks 86 = .ok (.getfield 99, 3) := by decide +kernel
theorem dX11_askTicks_89 : decode cX11_askTicks 89 = .ok (.iload_n 1, 1) := by decide +kernel
theorem dX11_askTicks_90 : decode cX11_askTicks 90 = .ok (.invokevirtual 278, 3) := by decide +kernel
theorem dX11_askTicks_93 : decode cX11_askTicks 93 = .ok (.iinc 1 1, 3) := by decide +kernel
theorem dX11_askTicks_96 : decode cX11_askTicks 96 = .ok (.goto (-76), 3) := by decide +kernel
theorem dX11_askTicks_99 : decode cX11_askTicks 99 = .ok (.aload_n 0, 1) := by decide +kernel
theorem dX11_askTicks_100 : decode cX11_askTicks 100 = .ok (.getfield 99, 3) := by decide +kernel
theorem dX11_askTicks_103 : decode cX11_askTicks 103 = .ok (.iconst 1, 1) := by decide +kernel
theorem dX11_askTicks_104 : decode cX11_askTicks 104 = .ok (.putfield 346, 3) := by decide +kernel
theorem dX11_askTicks_107 : decode cX11_askTicks 107 = .ok (.return_, 1) := by decide +kernel
theorem hcX11_askTicks : yX11_askTicks.cls ≠ "java/lang/invoke/MethodHandle" ∧ yX11_askTicks.cls ≠ "java/lang/invoke/VarHandle" ∧ (parseMethodDescriptor yX11_askTicks.desc).map (fun d => d.parameters.length) = some 0 := ⟨by decide +kernel, by decide +kernel, by decide +kernel⟩
def fX11_askTicks_j93 (x1_20 : Int) (k20 : sg_M → Int → Prop) (s_93 : sg_M) : Prop := sg_R (x1_20 + 1) ∧ k20 s_93 (x1_20 + 1)
def fX11_askTicks_L20 (La : sg_L) (Q : sg_M → Prop) : Nat → sg_M → Int → Prop
  | 0, _, _ => False
  | n_20 + 1, s_20, x1_20 => (0 ≤ (s_20 4 1)) ∧ (((s_20 (s_20 4 1) 2) < x1_20 → ∀ s13 : sg_M, s13 = sg_up s_20 62 2 1 → Q s13) ∧ (¬ ((s_20 (s_20 4 1) 2) < x1_20) → (0 ≤ (s_20 4 1)) ∧ fX3_knee s_20 (s_20 4 1) x1_20 (fun u21 => (0 ≤ (s_20 4 1)) ∧ fX3_tip s_20 (s_20 4 1) x1_20 (fun u27 => (0 ≤ (s_20 4 0)) ∧ fX11_listenTo La s_20 (s_20 4 0) u21 u27 (fun s31 => (0 ≤ (s31 4 2)) ∧ fX5_holds La s31 (s31 4 2) x1_20 (fun u37 => ((u37 = 0 → (fX11_askTicks_j93 x1_20 (fX11_askTicks_L20 La Q n_20)) s31) ∧ (¬ (u37 = 0) → fX4_add La s31 62 x1_20 (fun s42 => (fX11_askTicks_j93 x1_20 (fX11_askTicks_L20 La Q n_20)) s42)))))))))
def fX11_askTicks (La : sg_L) (s0 : sg_M) (Q : sg_M → Prop) : Prop := (((s0 62 2) = 0 → fX4_clear s0 62 (fun s5 => (∃ n43 : Nat, fX11_askTicks_L20 La Q n43 s5 1))) ∧ (¬ ((s0 62 2) = 0) → Q s0))
set_option maxHeartbeats 4000000 in
set_option maxRecDepth 100000 in
theorem CX11_askTicks {l : Launch} {G : sg_G} {La : sg_L} {s0 : sg_M} (hst : sg_St La) {Q : sg_M → Prop} (hf : fX11_askTicks La s0 Q) : sg_C l G yX11_askTicks cX11_askTicks 2 (none) 6 0 0 La s0 [sg_r 0] (sg_HV La Q) := by
  refine sg_body (by decide +kernel) (Nat.le_of_ble_eq_true rfl) ?_
  intro p e s m args below meth c F hnm
  unfold fX11_askTicks at hf
  show sg_W p l e (sg_rm 6 0 0) s m args below meth c (MQ below (sg_Q (none) G La s.heap.size (sg_HV La Q)) args s 0 0 (sg_A La s.heap.size)) 2 G (sg_A La s.heap.size) La s0 0 0 0 [(0, sg_r 0)] []
  refine gw_aload_n F 0 rfl rfl (by decide) dX11_askTicks_0 ?_
  refine gw_get7 F (so_0 hst) (by decide) rfl sg_lay_RX11 (j := 15) (by decide) (o1 := 62) (by first | rfl | omega) rfl (host := "") (.inl kw_341) dX11_askTicks_1 (fun h1 => ?_)
  refine gw_get1 F (so_62 hst) (by decide) rfl sg_lay_RX4 (j := 2) (by decide) rfl (.inr kw_206) dX11_askTicks_4 (fun h2 => ?_)
  refine gw_if_eq F (tgt := 11) dX11_askTicks_7 (by decide) (sg_B_R h2) (fun c3 => ?_) (fun c3 => ?_)
  · have hf := hf.1 c3
    refine gw_aload_n F 0 rfl rfl (by decide) dX11_askTicks_11 ?_
    refine gw_get7 F (so_0 hst) (by decide) rfl sg_lay_RX11 (j := 15) (by decide) (o1 := 62) (by first | rfl | omega) rfl (host := "") (.inl kw_341) dX11_askTicks_12 (fun h4 => ?_)
    refine gk_HV F (gc_V F (S := []) (As := []) (T := TX4) (N := 3) (CX4_clear (so_62 hst) hf) (so_62 hst) (by decide) rfl kw_531 kw_97 kw_652 kw_529 kw_530 hcX4_clear ⟨by decide, by decide⟩ rfl rfl (Nat.le_of_ble_eq_true rfl) ⟨by decide, by decide⟩ dX11_askTicks_15) (fun s5 hf => ?_)
    refine gw_iconst F dX11_askTicks_18 ?_
    refine gw_istore_n F rfl (by decide) rfl dX11_askTicks_19 ?_
    have L20 : ∀ n_20 : Nat, ∀ (s_20 : sg_M) (x1_20 : Int), sg_R x1_20 → fX11_askTicks_L20 La Q n_20 s_20 x1_20 → sg_W p l e (sg_rm 6 0 0) s m args below meth c (MQ below (sg_Q (none) G La s.heap.size (sg_HV La Q)) args s 0 0 (sg_A La s.heap.size)) 2 G (sg_A La s.heap.size) La s_20 0 0 20 [(0, sg_r 0), (1, sg_i x1_20)] [] := by
      intro n_20
      induction n_20 with
      | zero => intro s_20 x1_20 r1_20 hf; exact hf.elim
      | succ n_20 ih =>
        intro s_20 x1_20 r1_20 hf
        unfold fX11_askTicks_L20 at hf
        refine gw_iload_n F 1 rfl rfl dX11_askTicks_20 ?_
        refine gw_aload_n F 0 rfl rfl (by decide) dX11_askTicks_21 ?_
        refine gw_get7 F (so_0 hst) (by decide) rfl sg_lay_RX11 (j := 2) (by decide) (o1 := 4) (by first | rfl | omega) rfl (host := "") (.inl kw_328) dX11_askTicks_22 (fun h6 => ?_)
        refine gw_get4 F (so_4 hst) (by decide) rfl sg_lay_RX7 (j := 1) (by decide) rfl (.inr kw_236) dX11_askTicks_25 (fun h7 => ?_)
        obtain ⟨g8, hf⟩ := hf
        have t9 := sg_nn h7 g8
        refine gw_get0 F t9 (by decide) rfl sg_lay_RX3 (j := 2) (by decide) rfl (.inr kw_181) dX11_askTicks_28 (fun h10 => ?_)
        refine gw_icmp_gt F (tgt := 99) dX11_askTicks_31 (by decide) r1_20 h10 (fun c11 => ?_) (fun c11 => ?_)
        · have hf := hf.1 c11
          refine gw_aload_n F 0 rfl rfl (by decide) dX11_askTicks_99 ?_
          refine gw_get7 F (so_0 hst) (by decide) rfl sg_lay_RX11 (j := 15) (by decide) (o1 := 62) (by first | rfl | omega) rfl (host := "") (.inl kw_341) dX11_askTicks_100 (fun h12 => ?_)
          refine gw_iconst F dX11_askTicks_103 ?_
          obtain ⟨s13, e14⟩ : ∃ z : sg_M, z = sg_up s_20 62 2 1 := ⟨_, rfl⟩
          have hf := hf s13 e14
          refine gw_put1 F (so_62 hst) (by decide) rfl sg_lay_RX4 (j := 2) (by decide) (by decide) e14 tyX4_ok nmX4 rfl (tyX4_ok 2 (by decide)) rfl (.inr kw_206) dX11_askTicks_104 ?_
          exact gr_HV F hf (by decide) (by decide) dX11_askTicks_107
        · have hf := hf.2 c11
          refine gw_aload_n F 0 rfl rfl (by decide) dX11_askTicks_34 ?_
          refine gw_aload_n F 0 rfl rfl (by decide) dX11_askTicks_35 ?_
          refine gw_get7 F (so_0 hst) (by decide) rfl sg_lay_RX11 (j := 2) (by decide) (o1 := 4) (by first | rfl | omega) rfl (host := "") (.inl kw_328) dX11_askTicks_36 (fun h15 => ?_)
          refine gw_get4 F (so_4 hst) (by decide) rfl sg_lay_RX7 (j := 0) (by decide) rfl (.inr kw_234) dX11_askTicks_39 (fun h16 => ?_)
          refine gw_aload_n F 0 rfl rfl (by decide) dX11_askTicks_42 ?_
          refine gw_get7 F (so_0 hst) (by decide) rfl sg_lay_RX11 (j := 2) (by decide) (o1 := 4) (by first | rfl | omega) rfl (host := "") (.inl kw_328) dX11_askTicks_43 (fun h17 => ?_)
          refine gw_get4 F (so_4 hst) (by decide) rfl sg_lay_RX7 (j := 1) (by decide) rfl (.inr kw_236) dX11_askTicks_46 (fun h18 => ?_)
          refine gw_iload_n F 1 rfl rfl dX11_askTicks_49 ?_
          obtain ⟨g19, hf⟩ := hf
          have t20 := sg_nn h18 g19
          refine gk_PI F (gc_V F (S := [sg_r (s_20 4 0), sg_r 0]) (As := [sg_i x1_20]) (T := TX3) (N := 5) (CX3_knee t20 r1_20 hf) t20 (by decide) rfl kw_838 kw_95 kw_835 kw_836 kw_837 hcX3_knee ⟨by decide, by decide⟩ rfl rfl (Nat.le_of_ble_eq_true rfl) ⟨by decide, by decide⟩ dX11_askTicks_50) (fun u21 h22 hf => ?_)
          refine gw_aload_n F 0 rfl rfl (by decide) dX11_askTicks_53 ?_
          refine gw_get7 F (so_0 hst) (by decide) rfl sg_lay_RX11 (j := 2) (by decide) (o1 := 4) (by first | rfl | omega) rfl (host := "") (.inl kw_328) dX11_askTicks_54 (fun h23 => ?_)
          refine gw_get4 F (so_4 hst) (by decide) rfl sg_lay_RX7 (j := 1) (by decide) rfl (.inr kw_236) dX11_askTicks_57 (fun h24 => ?_)
          refine gw_iload_n F 1 rfl rfl dX11_askTicks_60 ?_
          obtain ⟨g25, hf⟩ := hf
          have t26 := sg_nn h24 g25
          refine gk_PI F (gc_V F (S := [sg_i u21, sg_r (s_20 4 0), sg_r 0]) (As := [sg_i x1_20]) (T := TX3) (N := 5) (CX3_tip t26 r1_20 hf) t26 (by decide) rfl kw_842 kw_95 kw_839 kw_840 kw_841 hcX3_tip ⟨by decide, by decide⟩ rfl rfl (Nat.le_of_ble_eq_true rfl) ⟨by decide, by decide⟩ dX11_askTicks_61) (fun u27 h28 hf => ?_)
          obtain ⟨g29, hf⟩ := hf
          have t30 := sg_nn h16 g29
          refine gk_HV F (gc_V F (S := []) (As := [sg_r (s_20 4 0), sg_i u21, sg_i u27]) (T := TX11) (N := 19) (CX11_listenTo hst t30 h22 h28 hf) (so_0 hst) (by decide) rfl kw_655 kw_90 kw_653 kw_654 kw_20 hcX11_listenTo ⟨by decide, by decide⟩ rfl rfl (Nat.le_of_ble_eq_true rfl) ⟨by decide, by decide⟩ dX11_askTicks_64) (fun s31 hf => ?_)
          refine gw_aload_n F 0 rfl rfl (by decide) dX11_askTicks_67 ?_
          refine gw_get7 F (so_0 hst) (by decide) rfl sg_lay_RX11 (j := 2) (by decide) (o1 := 4) (by first | rfl | omega) rfl (host := "") (.inl kw_328) dX11_askTicks_68 (fun h32 => ?_)
          refine gw_get4 F (so_4 hst) (by decide) rfl sg_lay_RX7 (j := 2) (by decide) rfl (.inr kw_238) dX11_askTicks_71 (fun h33 => ?_)
          refine gw_aload_n F 0 rfl rfl (by decide) dX11_askTicks_74 ?_
          refine gw_get7 F (so_0 hst) (by decide) rfl sg_lay_RX11 (j := 5) (by decide) (o1 := 32) (by first | rfl | omega) rfl (host := "") (.inl kw_331) dX11_askTicks_75 (fun h34 => ?_)
          refine gw_iload_n F 1 rfl rfl dX11_askTicks_78 ?_
          obtain ⟨g35, hf⟩ := hf
          have t36 := sg_nn h33 g35
          refine gk_PZ F (gc_V F (S := []) (As := [sg_r 32, sg_i x1_20]) (T := TX5) (N := 4) (CX5_holds hst t36 r1_20 hf) t36 (by decide) rfl kw_846 kw_96 kw_843 kw_844 kw_845 hcX5_holds ⟨by decide, by decide⟩ rfl rfl (Nat.le_of_ble_eq_true rfl) ⟨by decide, by decide⟩ dX11_askTicks_79) (fun u37 h38 hf => ?_)
          have J93 : ∀ (s_93 : sg_M), (fX11_askTicks_j93 x1_20 (fX11_askTicks_L20 La Q n_20)) s_93 → sg_W p l e (sg_rm 6 0 0) s m args below meth c (MQ below (sg_Q (none) G La s.heap.size (sg_HV La Q)) args s 0 0 (sg_A La s.heap.size)) 2 G (sg_A La s.heap.size) La s_93 0 0 93 [(0, sg_r 0), (1, sg_i x1_20)] [] := by
            intro s_93 hf
            unfold fX11_askTicks_j93 at hf
            refine gw_iinc F (z := (x1_20 + 1)) 1 rfl (by omega) (by decide) rfl dX11_askTicks_93 ?_
            refine gw_goto F (tgt := 20) dX11_askTicks_96 (by decide) ?_
            obtain ⟨g39, hf⟩ := hf
            refine gw_sub [1, 0] rfl ?_
            exact ih s_93 (x1_20 + 1) g39 hf
          refine gw_if_eq F (tgt := 93) dX11_askTicks_82 (by decide) (sg_B_R h38) (fun c40 => ?_) (fun c40 => ?_)
          · have hf := hf.1 c40
            refine gw_sub [0, 1] rfl ?_
            exact J93 s31 hf
          · have hf := hf.2 c40
            refine gw_aload_n F 0 rfl rfl (by decide) dX11_askTicks_85 ?_
            refine gw_get7 F (so_0 hst) (by decide) rfl sg_lay_RX11 (j := 15) (by decide) (o1 := 62) (by first | rfl | omega) rfl (host := "") (.inl kw_341) dX11_askTicks_86 (fun h41 => ?_)
            refine gw_iload_n F 1 rfl rfl dX11_askTicks_89 ?_
            refine gk_HV F (gc_V F (S := []) (As := [sg_i x1_20]) (T := TX4) (N := 3) (CX4_add (so_62 hst) r1_20 hf) (so_62 hst) (by decide) rfl kw_538 kw_97 kw_663 kw_536 kw_537 hcX4_add ⟨by decide, by decide⟩ rfl rfl (Nat.le_of_ble_eq_true rfl) ⟨by decide, by decide⟩ dX11_askTicks_90) (fun s42 hf => ?_)
            refine gw_sub [0, 1] rfl ?_
            exact J93 s42 hf
    obtain ⟨n43, hf⟩ := hf
    refine gw_sub [1, 0] rfl ?_
    refine L20   n43 s5 1 (by decide) hf
  · have hf := hf.2 c3
    exact gr_HV F hf (by decide) (by decide) dX11_askTicks_10

theorem dX11_said_0 : decode cX11_said 0 = .ok (.aload_n 0, 1) := by decide +kernel
theorem dX11_said_1 : decode cX11_said 1 = .ok (.getfield 39, 3) := by decide +kernel
theorem dX11_said_4 : decode cX11_said 4 = .ok (.getfield 324, 3) := by decide +kernel
theorem dX11_said_7 : decode cX11_said 7 = .ok (.getfield 328, 3) := by decide +kernel
theorem dX11_said_10 : decode cX11_said 10 = .ok (.ifCond .ne 5, 3) := by decide +kernel
theorem dX11_said_13 : decode cX11_said 13 = .ok (.iconst (-1), 1) := by decide +kernel
theorem dX11_said_14 : decode cX11_said 14 = .ok (.ireturn, 1) := by decide +kernel
theorem dX11_said_15 : decode cX11_said 15 = .ok (.aload_n 0, 1) := by decide +kernel
theorem dX11_said_16 : decode cX11_said 16 = .ok (.invokevirtual 331, 3) := by decide +kernel
theorem dX11_said_19 : decode cX11_said 19 = .ok (.iload_n 1, 1) := by decide +kernel
theorem dX11_said_20 : decode cX11_said 20 = .ok (.iconst (-1), 1) := by decide +kernel
theorem dX11_said_21 : decode cX11_said 21 = .ok (.if_icmp .ne 13, 3) := by decide +kernel
theorem dX11_said_24 : decode cX11_said 24 = .ok (.aload_n 0, 1) := by decide +kernel
theorem dX11_said_25 : decode cX11_said 25 = .ok (.getfield 99, 3) := by decide +kernel
theorem dX11_said_28 : decode cX11_said 28 = .ok (.getfield 181, 3) := by decide +kernel
theorem dX11_said_31 : decode cX11_said 31 = .ok (.goto 11, 3) := by decide +kernel
theorem dX11_said_34 : decode cX11_said 34 = .ok (.aload_n 0, 1) := by decide +kernel
theorem dX11_said_35 : decode cX11_said 35 = .ok (.getfield 99, 3) := by decide +kernel
theorem dX11_said_38 : decode cX11_said 38 = .ok (.iload_n 1, 1) := by decide +kernel
theorem dX11_said_39 : decode cX11_said 39 = .ok (.invokevirtual 182, 3) := by decide +kernel
theorem dX11_said_42 : decode cX11_said 42 = .ok (.ireturn, 1) := by decide +kernel
theorem hcX11_said : yX11_said.cls ≠ "java/lang/invoke/MethodHandle" ∧ yX11_said.cls ≠ "java/lang/invoke/VarHandle" ∧ (parseMethodDescriptor yX11_said.desc).map (fun d => d.parameters.length) = some 1 := ⟨by decide +kernel, by decide +kernel, by decide +kernel⟩
def fX11_said (La : sg_L) (s0 : sg_M) (x1 : Int) (Q : Int → sg_M → Prop) : Prop := (0 ≤ (s0 4 2)) ∧ (((s0 (s0 4 2) 3) ≠ 0 → fX11_askTicks La s0 (fun s7 => ((x1 ≠ (-1) → fX4_at La s7 62 x1 (fun u10 => Q u10 s7)) ∧ (x1 = (-1) → Q (s7 62 1) s7)))) ∧ ((s0 (s0 4 2) 3) = 0 → Q (-1) s0))
set_option maxHeartbeats 4000000 in
set_option maxRecDepth 100000 in
theorem CX11_said {l : Launch} {G : sg_G} {La : sg_L} {s0 : sg_M} (hst : sg_St La) {x1 : Int} (r1 : sg_R x1) {Q : Int → sg_M → Prop} (hf : fX11_said La s0 x1 Q) : sg_C l G yX11_said cX11_said 2 (some .int) 7 0 0 La s0 [sg_r 0, sg_i x1] (sg_HI La Q) := by
  refine sg_body (by decide +kernel) (Nat.le_of_ble_eq_true rfl) ?_
  intro p e s m args below meth c F hnm
  unfold fX11_said at hf
  show sg_W p l e (sg_rm 7 0 0) s m args below meth c (MQ below (sg_Q (some .int) G La s.heap.size (sg_HI La Q)) args s 0 0 (sg_A La s.heap.size)) 2 G (sg_A La s.heap.size) La s0 0 0 0 [(0, sg_r 0), (1, sg_i x1)] []
  refine gw_aload_n F 0 rfl rfl (by decide) dX11_said_0 ?_
  refine gw_get7 F (so_0 hst) (by decide) rfl sg_lay_RX11 (j := 2) (by decide) (o1 := 4) (by first | rfl | omega) rfl (host := "") (.inl kw_328) dX11_said_1 (fun h1 => ?_)
  refine gw_get4 F (so_4 hst) (by decide) rfl sg_lay_RX7 (j := 2) (by decide) rfl (.inr kw_238) dX11_said_4 (fun h2 => ?_)
  obtain ⟨g3, hf⟩ := hf
  have t4 := sg_nn h2 g3
  refine gw_get0 F t4 (by decide) rfl sg_lay_RX5 (j := 3) (by decide) rfl (.inr kw_211) dX11_said_7 (fun h5 => ?_)
  refine gw_if_ne F (tgt := 15) dX11_said_10 (by decide) h5 (fun c6 => ?_) (fun c6 => ?_)
  · have hf := hf.1 c6
    refine gw_aload_n F 0 rfl rfl (by decide) dX11_said_15 ?_
    refine gk_HV F (gc_V F (S := []) (As := []) (T := TX11) (N := 19) (CX11_askTicks hst hf) (so_0 hst) (by decide) rfl kw_834 kw_90 kw_832 kw_833 kw_35 hcX11_askTicks ⟨by decide, by decide⟩ rfl rfl (Nat.le_of_ble_eq_true rfl) ⟨by decide, by decide⟩ dX11_said_16) (fun s7 hf => ?_)
    refine gw_iload_n F 1 rfl rfl dX11_said_19 ?_
    refine gw_iconst F dX11_said_20 ?_
    refine gw_icmp_ne F (tgt := 34) dX11_said_21 (by decide) r1 (by decide) (fun c8 => ?_) (fun c8 => ?_)
    · have hf := hf.1 c8
      refine gw_aload_n F 0 rfl rfl (by decide) dX11_said_34 ?_
      refine gw_get7 F (so_0 hst) (by decide) rfl sg_lay_RX11 (j := 15) (by decide) (o1 := 62) (by first | rfl | omega) rfl (host := "") (.inl kw_341) dX11_said_35 (fun h9 => ?_)
      refine gw_iload_n F 1 rfl rfl dX11_said_38 ?_
      refine gk_PI F (gc_V F (S := []) (As := [sg_i x1]) (T := TX4) (N := 3) (CX4_at (so_62 hst) r1 hf) (so_62 hst) (by decide) rfl kw_546 kw_97 kw_543 kw_544 kw_545 hcX4_at ⟨by decide, by decide⟩ rfl rfl (Nat.le_of_ble_eq_true rfl) ⟨by decide, by decide⟩ dX11_said_39) (fun u10 h11 hf => ?_)
      exact gr_HI F h11 hf (by decide) (by decide) dX11_said_42
    · have hf := hf.2 c8
      refine gw_aload_n F 0 rfl rfl (by decide) dX11_said_24 ?_
      refine gw_get7 F (so_0 hst) (by decide) rfl sg_lay_RX11 (j := 15) (by decide) (o1 := 62) (by first | rfl | omega) rfl (host := "") (.inl kw_341) dX11_said_25 (fun h12 => ?_)
      refine gw_get0 F (so_62 hst) (by decide) rfl sg_lay_RX4 (j := 1) (by decide) rfl (.inr kw_204) dX11_said_28 (fun h13 => ?_)
      refine gw_goto F (tgt := 42) dX11_said_31 (by decide) ?_
      exact gr_HI F h13 hf (by decide) (by decide) dX11_said_42
  · have hf := hf.2 c6
    refine gw_iconst F dX11_said_13 ?_
    exact gr_HI F (by decide) hf (by decide) (by decide) dX11_said_14

theorem dX8_init_0 : decode cX8_init 0 = .ok (.aload_n 0, 1) := by decide +kernel
theorem dX8_init_1 : decode cX8_init 1 = .ok (.invokespecial 3, 3) := by decide +kernel
theorem dX8_init_4 : decode cX8_init 4 = .ok (.aload_n 0, 1) := by decide +kernel
theorem dX8_init_5 : decode cX8_init 5 = .ok (.sipush 540, 3) := by decide +kernel
theorem dX8_init_8 : decode cX8_init 8 = .ok (.newarray .int, 2) := by decide +kernel
theorem dX8_init_10 : decode cX8_init 10 = .ok (.putfield 9, 3) := by decide +kernel
theorem dX8_init_13 : decode cX8_init 13 = .ok (.aload_n 0, 1) := by decide +kernel
theorem dX8_init_14 : decode cX8_init 14 = .ok (.iconst 0, 1) := by decide +kernel
theorem dX8_init_15 : decode cX8_init 15 = .ok (.putfield 15, 3) := by decide +kernel
theorem dX8_init_18 : decode cX8_init 18 = .ok (.return_, 1) := by decide +kernel
theorem hcX8_init : yX8_init.cls ≠ "java/lang/invoke/MethodHandle" ∧ yX8_init.cls ≠ "java/lang/invoke/VarHandle" ∧ (parseMethodDescriptor yX8_init.desc).map (fun d => d.parameters.length) = some 0 := ⟨by decide +kernel, by decide +kernel, by decide +kernel⟩
def fX8_init (La : sg_L) (s0 : sg_M) (o : Int) (Q : sg_L → sg_M → Prop) : Prop := ∀ (q1 : Nat) (La2 : sg_L), La2 = sg_pu La 10540 q1 → ∀ s3 : sg_M, s3 = sg_nw s0 La.1 10540 → ∀ o4 : Int, o4 = (La.1 : Int) → ∀ s14 : sg_M, s14 = sg_up s3 o 0 o4 → ∀ s16 : sg_M, s16 = sg_up s14 o 1 0 → sg_sealed La2 s16 o 28 8 ∧ ∀ La18 : sg_L, La18 = sg_se La2 o.toNat 8 → Q La18 s16
set_option maxHeartbeats 4000000 in
set_option maxRecDepth 100000 in
theorem CX8_init {l : Launch} {G : sg_G} {La : sg_L} {s0 : sg_M} {o : Int} (to : sg_O La o 28) {Q : sg_L → sg_M → Prop} (hf : fX8_init La s0 o Q) : sg_C l G yX8_init cX8_init 1 (none) 1 1 540 La s0 [sg_r o] (sg_BV (sg_se La o.toNat 8) Q) := by
  refine sg_body (by decide +kernel) (Nat.le_of_ble_eq_true rfl) ?_
  intro p e s m args below meth c F hnm
  unfold fX8_init at hf
  show sg_W p l e (sg_rm 1 1 540) s m args below meth c (MQ below (sg_Q (none) G La s.heap.size (sg_BV (sg_se La o.toNat 8) Q)) args s 1 540 (sg_A La s.heap.size)) 1 G (sg_A La s.heap.size) La s0 0 0 0 [(0, sg_r o)] []
  have hin : meth.name = "<init>" := hnm
  refine gw_aload_n F 0 rfl rfl to.1 dX8_init_0 ?_
  refine gw_objInit F to.1 kw_125 kw_OI kw_OC (Nat.le_of_ble_eq_true rfl) (by decide) (by decide) dX8_init_1 ?_
  refine gw_aload_n F 0 rfl rfl to.1 dX8_init_4 ?_
  refine gw_sipush F rfl dX8_init_5 ?_
  refine gy_newI F (N := 540) kw_131 rfl (by decide) (by decide) (by decide) (List.forall_mem_cons.mpr ⟨(Or.inl to.2.1), (fun _ h => absurd h List.not_mem_nil)⟩) (List.forall_mem_cons.mpr ⟨(Or.inl to.2.1), (fun _ h => absurd h List.not_mem_nil)⟩) dX8_init_8 (fun q1 La2 s3 o4 e5 e6 e7 t8 hX9 => ?_)
  have hf := hf q1 La2 e5 s3 e6 o4 e7
  have hn10 : La.1 ≤ o4.toNat := by rw [e7, Int.toNat_natCast]; exact (sg_X.rf : sg_X La La).1
  have t11 := to.X hX9
  have hX12 := sg_X.tr (sg_X.rf) hX9
  have t13 := sg_AN_of (n := 540) t8 (by decide) (by decide) (by decide)
  obtain ⟨s14, e15⟩ : ∃ z : sg_M, z = sg_up s3 o 0 o4 := ⟨_, rfl⟩
  have hf := hf s14 e15
  refine gw_put5F F t11 (by decide) rfl sg_lay_RX8 (j := 0) (by decide) (D0 := tyX8 0) (fun _ => ⟨rfl, rfl⟩) t13.1 t13.2.1 e15 tyX8_ok nmX8 rfl hin rfl (tyX8_ok 0 (by decide)) rfl (host := "") kw_126 dX8_init_10 ?_
  refine gw_aload_n F 0 rfl rfl t11.1 dX8_init_13 ?_
  refine gw_iconst F dX8_init_14 ?_
  obtain ⟨s16, e17⟩ : ∃ z : sg_M, z = sg_up s14 o 1 0 := ⟨_, rfl⟩
  have hf := hf s16 e17
  refine gw_put0 F t11 (by decide) rfl sg_lay_RX8 (j := 1) (by decide) (by decide) e17 tyX8_ok nmX8 rfl (tyX8_ok 1 (by decide)) rfl (host := "") (.inl kw_127) dX8_init_15 ?_
  obtain ⟨g19, hf⟩ := hf
  obtain ⟨La18, e20⟩ : ∃ z : sg_L, z = sg_se La2 o.toNat 8 := ⟨_, rfl⟩
  have hf := hf La18 e20
  refine gw_seal t11 ⟨by decide, by decide, by decide⟩ (by decide) (by decide) g19.1 g19.2 ?_
  rw [← e20]
  exact gr_BC F (o := o.toNat) (kd := 8) hf (by rw [e20]; exact sg_X.both hX12) (by decide) (by decide) dX8_init_18

theorem dX6_init_0 : decode cX6_init 0 = .ok (.aload_n 0, 1) := by decide +kernel
theorem dX6_init_1 : decode cX6_init 1 = .ok (.invokespecial 3, 3) := by decide +kernel
theorem dX6_init_4 : decode cX6_init 4 = .ok (.aload_n 0, 1) := by decide +kernel
theorem dX6_init_5 : decode cX6_init 5 = .ok (.sipush 2400, 3) := by decide +kernel
theorem dX6_init_8 : decode cX6_init 8 = .ok (.newarray .int, 2) := by decide +kernel
theorem dX6_init_10 : decode cX6_init 10 = .ok (.putfield 9, 3) := by decide +kernel
theorem dX6_init_13 : decode cX6_init 13 = .ok (.aload_n 0, 1) := by decide +kernel
theorem dX6_init_14 : decode cX6_init 14 = .ok (.new 15, 3) := by decide +kernel
theorem dX6_init_17 : decode cX6_init 17 = .ok (.dup, 1) := by decide +kernel
theorem dX6_init_18 : decode cX6_init 18 = .ok (.bipush 60, 2) := by decide +kernel
theorem dX6_init_20 : decode cX6_init 20 = .ok (.invokespecial 17, 3) := by decide +kernel
theorem dX6_init_23 : decode cX6_init 23 = .ok (.putfield 20, 3) := by decide +kernel
theorem dX6_init_26 : decode cX6_init 26 = .ok (.aload_n 0, 1) := by decide +kernel
theorem dX6_init_27 : decode cX6_init 27 = .ok (.new 15, 3) := by decide +kernel
theorem dX6_init_30 : decode cX6_init 30 = .ok (.dup, 1) := by decide +kernel
theorem dX6_init_31 : decode cX6_init 31 = .ok (.bipush 60, 2) := by decide +kernel
theorem dX6_init_33 : decode cX6_init 33 = .ok (.invokespecial 17, 3) := by decide +kernel
theorem dX6_init_36 : decode cX6_init 36 = .ok (.putfield 24, 3) := by decide +kernel
theorem dX6_init_39 : decode cX6_init 39 = .ok (.return_, 1) := by decide +kernel
theorem hcX6_init : yX6_init.cls ≠ "java/lang/invoke/MethodHandle" ∧ yX6_init.cls ≠ "java/lang/invoke/VarHandle" ∧ (parseMethodDescriptor yX6_init.desc).map (fun d => d.parameters.length) = some 0 := ⟨by decide +kernel, by decide +kernel, by decide +kernel⟩
def fX6_init (La : sg_L) (s0 : sg_M) (o : Int) (Q : sg_L → sg_M → Prop) : Prop := ∀ (q1 : Nat) (La2 : sg_L), La2 = sg_pu La 12400 q1 → ∀ s3 : sg_M, s3 = sg_nw s0 La.1 12400 → ∀ o4 : Int, o4 = (La.1 : Int) → ∀ s14 : sg_M, s14 = sg_up s3 o 0 o4 → ∀ (q16 : Nat) (La17 : sg_L), La17 = sg_pu La2 24 q16 → ∀ s18 : sg_M, s18 = sg_nw s14 La2.1 24 → ∀ o19 : Int, o19 = (La2.1 : Int) → fX4_init La17 s18 o19 60 (fun La28 s29 => ∀ s34 : sg_M, s34 = sg_up s29 o 1 o19 → ∀ (q36 : Nat) (La37 : sg_L), La37 = sg_pu La28 24 q36 → ∀ s38 : sg_M, s38 = sg_nw s34 La28.1 24 → ∀ o39 : Int, o39 = (La28.1 : Int) → fX4_init La37 s38 o39 60 (fun La48 s49 => ∀ s54 : sg_M, s54 = sg_up s49 o 2 o39 → sg_sealed La48 s54 o 26 6 ∧ ∀ La56 : sg_L, La56 = sg_se La48 o.toNat 6 → Q La56 s54))
set_option maxHeartbeats 4000000 in
set_option maxRecDepth 100000 in
theorem CX6_init {l : Launch} {G : sg_G} {La : sg_L} {s0 : sg_M} {o : Int} (to : sg_O La o 26) {Q : sg_L → sg_M → Prop} (hf : fX6_init La s0 o Q) : sg_C l G yX6_init cX6_init 1 (none) 2 5 2806 La s0 [sg_r o] (sg_BV (sg_se La o.toNat 6) Q) := by
  refine sg_body (by decide +kernel) (Nat.le_of_ble_eq_true rfl) ?_
  intro p e s m args below meth c F hnm
  unfold fX6_init at hf
  show sg_W p l e (sg_rm 2 5 2806) s m args below meth c (MQ below (sg_Q (none) G La s.heap.size (sg_BV (sg_se La o.toNat 6) Q)) args s 5 2806 (sg_A La s.heap.size)) 1 G (sg_A La s.heap.size) La s0 0 0 0 [(0, sg_r o)] []
  have hin : meth.name = "<init>" := hnm
  refine gw_aload_n F 0 rfl rfl to.1 dX6_init_0 ?_
  refine gw_objInit F to.1 kw_309 kw_OI kw_OC (Nat.le_of_ble_eq_true rfl) (by decide) (by decide) dX6_init_1 ?_
  refine gw_aload_n F 0 rfl rfl to.1 dX6_init_4 ?_
  refine gw_sipush F rfl dX6_init_5 ?_
  refine gy_newI F (N := 2400) kw_131 rfl (by decide) (by decide) (by decide) (List.forall_mem_cons.mpr ⟨(Or.inl to.2.1), (fun _ h => absurd h List.not_mem_nil)⟩) (List.forall_mem_cons.mpr ⟨(Or.inl to.2.1), (fun _ h => absurd h List.not_mem_nil)⟩) dX6_init_8 (fun q1 La2 s3 o4 e5 e6 e7 t8 hX9 => ?_)
  have hf := hf q1 La2 e5 s3 e6 o4 e7
  have hn10 : La.1 ≤ o4.toNat := by rw [e7, Int.toNat_natCast]; exact (sg_X.rf : sg_X La La).1
  have t11 := to.X hX9
  have hX12 := sg_X.tr (sg_X.rf) hX9
  have t13 := sg_AN_of (n := 2400) t8 (by decide) (by decide) (by decide)
  obtain ⟨s14, e15⟩ : ∃ z : sg_M, z = sg_up s3 o 0 o4 := ⟨_, rfl⟩
  have hf := hf s14 e15
  refine gw_put5F F t11 (by decide) rfl sg_lay_RX6 (j := 0) (by decide) (D0 := tyX6 0) (fun _ => ⟨rfl, rfl⟩) t13.1 t13.2.1 e15 tyX6_ok nmX6 rfl hin rfl (tyX6_ok 0 (by decide)) rfl (host := "") kw_312 dX6_init_10 ?_
  refine gw_aload_n F 0 rfl rfl t11.1 dX6_init_13 ?_
  refine gy_new F (kd := 24) (T := TX4) (by decide) rfl sg_lay_RX4 tyX4_ok kw_310 kw_191 kw_97 ns_X4 nf_X4 nr_X4 (by decide) (by decide) (List.forall_mem_cons.mpr ⟨(Or.inl t11.2.1), (fun _ h => absurd h List.not_mem_nil)⟩) (List.forall_mem_cons.mpr ⟨(Or.inl t11.2.1), (fun _ h => absurd h List.not_mem_nil)⟩) dX6_init_14 (fun q16 La17 s18 o19 e20 e21 e22 t23 hX24 => ?_)
  have hf := hf q16 La17 e20 s18 e21 o19 e22
  have hn25 : La.1 ≤ o19.toNat := by rw [e22, Int.toNat_natCast]; exact (hX12 : sg_X La La2).1
  have t26 := t11.X hX24
  have hX27 := sg_X.tr (hX12) hX24
  refine gw_dup F rfl dX6_init_17 ?_
  refine gw_bipush F rfl dX6_init_18 ?_
  refine gk_BV F (gc_I F (S := [sg_r o19, sg_r o]) (As := [sg_i 60]) (CX4_init t23 (by decide) hf) t23.1 kw_194 kw_97 kw_311 kw_193 rfl hcX4_init ⟨by decide, by decide⟩ rfl rfl (Nat.le_of_ble_eq_true rfl) ⟨by decide, by decide⟩ dX6_init_20) (List.forall_mem_cons.mpr ⟨(Or.inl t26.2.1), (fun _ h => absurd h List.not_mem_nil)⟩) (List.forall_mem_cons.mpr ⟨(Or.inl t23.2.1), (List.forall_mem_cons.mpr ⟨(Or.inl t26.2.1), (fun _ h => absurd h List.not_mem_nil)⟩)⟩) (fun La28 s29 hX30 hf => ?_)
  have t31 := (sg_O_sx t26 t23 (by decide)).X hX30
  have t32 := (sg_O_sealed t23).X hX30
  have hX33 := (sg_X_sx (hX27) hn25).tr hX30
  obtain ⟨s34, e35⟩ : ∃ z : sg_M, z = sg_up s29 o 1 o19 := ⟨_, rfl⟩
  have hf := hf s34 e35
  refine gw_put5F F t31 (by decide) rfl sg_lay_RX6 (j := 1) (by decide) (D0 := tyX6 1) (fun _ => ⟨rfl, rfl⟩) t32.1 t32.2.1 e35 tyX6_ok nmX6 rfl hin rfl (tyX6_ok 1 (by decide)) rfl (host := "") kw_313 dX6_init_23 ?_
  refine gw_aload_n F 0 rfl rfl t31.1 dX6_init_26 ?_
  refine gy_new F (kd := 24) (T := TX4) (by decide) rfl sg_lay_RX4 tyX4_ok kw_310 kw_191 kw_97 ns_X4 nf_X4 nr_X4 (by decide) (by decide) (List.forall_mem_cons.mpr ⟨(Or.inl t31.2.1), (fun _ h => absurd h List.not_mem_nil)⟩) (List.forall_mem_cons.mpr ⟨(Or.inl t31.2.1), (fun _ h => absurd h List.not_mem_nil)⟩) dX6_init_27 (fun q36 La37 s38 o39 e40 e41 e42 t43 hX44 => ?_)
  have hf := hf q36 La37 e40 s38 e41 o39 e42
  have hn45 : La.1 ≤ o39.toNat := by rw [e42, Int.toNat_natCast]; exact (hX33 : sg_X La La28).1
  have t46 := t31.X hX44
  have hX47 := sg_X.tr (hX33) hX44
  refine gw_dup F rfl dX6_init_30 ?_
  refine gw_bipush F rfl dX6_init_31 ?_
  refine gk_BV F (gc_I F (S := [sg_r o39, sg_r o]) (As := [sg_i 60]) (CX4_init t43 (by decide) hf) t43.1 kw_194 kw_97 kw_311 kw_193 rfl hcX4_init ⟨by decide, by decide⟩ rfl rfl (Nat.le_of_ble_eq_true rfl) ⟨by decide, by decide⟩ dX6_init_33) (List.forall_mem_cons.mpr ⟨(Or.inl t46.2.1), (fun _ h => absurd h List.not_mem_nil)⟩) (List.forall_mem_cons.mpr ⟨(Or.inl t43.2.1), (List.forall_mem_cons.mpr ⟨(Or.inl t46.2.1), (fun _ h => absurd h List.not_mem_nil)⟩)⟩) (fun La48 s49 hX50 hf => ?_)
  have t51 := (sg_O_sx t46 t43 (by decide)).X hX50
  have t52 := (sg_O_sealed t43).X hX50
  have hX53 := (sg_X_sx (hX47) hn45).tr hX50
  obtain ⟨s54, e55⟩ : ∃ z : sg_M, z = sg_up s49 o 2 o39 := ⟨_, rfl⟩
  have hf := hf s54 e55
  refine gw_put5F F t51 (by decide) rfl sg_lay_RX6 (j := 2) (by decide) (D0 := tyX6 2) (fun _ => ⟨rfl, rfl⟩) t52.1 t52.2.1 e55 tyX6_ok nmX6 rfl hin rfl (tyX6_ok 2 (by decide)) rfl (host := "") kw_314 dX6_init_36 ?_
  obtain ⟨g57, hf⟩ := hf
  obtain ⟨La56, e58⟩ : ∃ z : sg_L, z = sg_se La48 o.toNat 6 := ⟨_, rfl⟩
  have hf := hf La56 e58
  refine gw_seal t51 ⟨by decide, by decide, by decide⟩ (by decide) (by decide) g57.1 g57.2 ?_
  rw [← e58]
  exact gr_BC F (o := o.toNat) (kd := 6) hf (by rw [e58]; exact sg_X.both hX53) (by decide) (by decide) dX6_init_39

theorem dX11_init_0 : decode cX11_init 0 = .ok (.aload_n 0, 1) := by decide +kernel
theorem dX11_init_1 : decode cX11_init 1 = .ok (.invokespecial 1, 3) := by decide +kernel
theorem dX11_init_4 : decode cX11_init 4 = .ok (.aload_n 0, 1) := by decide +kernel
theorem dX11_init_5 : decode cX11_init 5 = .ok (.new 7, 3) := by decide +kernel
theorem dX11_init_8 : decode cX11_init 8 = .ok (.dup, 1) := by decide +kernel
theorem dX11_init_9 : decode cX11_init 9 = .ok (.invokespecial 9, 3) := by decide +kernel
theorem dX11_init_12 : decode cX11_init 12 = .ok (.putfield 10, 3) := by decide +kernel
theorem dX11_init_15 : decode cX11_init 15 = .ok (.aload_n 0, 1) := by decide +kernel
theorem dX11_init_16 : decode cX11_init 16 = .ok (.new 16, 3) := by decide +kernel
theorem dX11_init_19 : decode cX11_init 19 = .ok (.dup, 1) := by decide +kernel
theorem dX11_init_20 : decode cX11_init 20 = .ok (.aload_n 0, 1) := by decide +kernel
theorem dX11_init_21 : decode cX11_init 21 = .ok (.getfield 10, 3) := by decide +kernel
theorem dX11_init_24 : decode cX11_init 24 = .ok (.invokespecial 18, 3) := by decide +kernel
theorem dX11_init_27 : decode cX11_init 27 = .ok (.putfield 21, 3) := by decide +kernel
theorem dX11_init_30 : decode cX11_init 30 = .ok (.aload_n 0, 1) := by decide +kernel
theorem dX11_init_31 : decode cX11_init 31 = .ok (.new 25, 3) := by decide +kernel
theorem dX11_init_34 : decode cX11_init 34 = .ok (.dup, 1) := by decide +kernel
theorem dX11_init_35 : decode cX11_init 35 = .ok (.new 27, 3) := by decide +kernel
theorem dX11_init_38 : decode cX11_init 38 = .ok (.dup, 1) := by decide +kernel
theorem dX11_init_39 : decode cX11_init 39 = .ok (.invokespecial 29, 3) := by decide +kernel
theorem dX11_init_42 : decode cX11_init 42 = .ok (.new 30, 3) := by decide +kernel
theorem dX11_init_45 : decode cX11_init 45 = .ok (.dup, 1) := by decide +kernel
theorem dX11_init_46 : decode cX11_init 46 = .ok (.invokespecial 32, 3) := by decide +kernel
theorem dX11_init_49 : decode cX11_init 49 = .ok (.new 33, 3) := by decide +kernel
theorem dX11_init_52 : decode cX11_init 52 = .ok (.dup, 1) := by decide +kernel
theorem dX11_init_53 : decode cX11_init 53 = .ok (.invokespecial 35, 3) := by decide +kernel
theorem dX11_init_56 : decode cX11_init 56 = .ok (.invokespecial 36, 3) := by decide +kernel
theorem dX11_init_59 : decode cX11_init 59 = .ok (.putfield 39, 3) := by decide +kernel
theorem dX11_init_62 : decode cX11_init 62 = .ok (.aload_n 0, 1) := by decide +kernel
theorem dX11_init_63 : decode cX11_init 63 = .ok (.iconst 2, 1) := by decide +kernel
theorem dX11_init_64 : decode cX11_init 64 = .ok (.anewarray 25, 3) := by decide +kernel
theorem dX11_init_67 : decode cX11_init 67 = .ok (.putfield 43, 3) := by decide +kernel
theorem dX11_init_70 : decode cX11_init 70 = .ok (.aload_n 0, 1) := by decide +kernel
theorem dX11_init_71 : decode cX11_init 71 = .ok (.new 27, 3) := by decide +kernel
theorem dX11_init_74 : decode cX11_init 74 = .ok (.dup, 1) := by decide +kernel
theorem dX11_init_75 : decode cX11_init 75 = .ok (.invokespecial 29, 3) := by decide +kernel
theorem dX11_init_78 : decode cX11_init 78 = .ok (.putfield 47, 3) := by decide +kernel
theorem dX11_init_81 : decode cX11_init 81 = .ok (.aload_n 0, 1) := by decide +kernel
theorem dX11_init_82 : decode cX11_init 82 = .ok (.new 51, 3) := by decide +kernel
theorem dX11_init_85 : decode cX11_init 85 = .ok (.dup, 1) := by decide +kernel
theorem dX11_init_86 : decode cX11_init 86 = .ok (.invokespecial 53, 3) := by decide +kernel
theorem dX11_init_89 : decode cX11_init 89 = .ok (.putfield 54, 3) := by decide +kernel
theorem dX11_init_92 : decode cX11_init 92 = .ok (.aload_n 0, 1) := by decide +kernel
theorem dX11_init_93 : decode cX11_init 93 = .ok (.new 58, 3) := by decide +kernel
theorem dX11_init_96 : decode cX11_init 96 = .ok (.dup, 1) := by decide +kernel
theorem dX11_init_97 : decode cX11_init 97 = .ok (.invokespecial 60, 3) := by decide +kernel
theorem dX11_init_100 : decode cX11_init 100 = .ok (.putfield 61, 3) := by decide +kernel
theorem dX11_init_103 : decode cX11_init 103 = .ok (.aload_n 0, 1) := by decide +kernel
theorem dX11_init_104 : decode cX11_init 104 = .ok (.new 58, 3) := by decide +kernel
theorem dX11_init_107 : decode cX11_init 107 = .ok (.dup, 1) := by decide +kernel
theorem dX11_init_108 : decode cX11_init 108 = .ok (.invokespecial 60, 3) := by decide +kernel
theorem dX11_init_111 : decode cX11_init 111 = .ok (.putfield 65, 3) := by decide +kernel
theorem dX11_init_114 : decode cX11_init 114 = .ok (.aload_n 0, 1) := by decide +kernel
theorem dX11_init_115 : decode cX11_init 115 = .ok (.new 58, 3) := by decide +kernel
theorem dX11_init_118 : decode cX11_init 118 = .ok (.dup, 1) := by decide +kernel
theorem dX11_init_119 : decode cX11_init 119 = .ok (.invokespecial 60, 3) := by decide +kernel
theorem dX11_init_122 : decode cX11_init 122 = .ok (.putfield 68, 3) := by decide +kernel
theorem dX11_init_125 : decode cX11_init 125 = .ok (.aload_n 0, 1) := by decide +kernel
theorem dX11_init_126 : decode cX11_init 126 = .ok (.new 71, 3) := by decide +kernel
theorem dX11_init_129 : decode cX11_init 129 = .ok (.dup, 1) := by decide +kernel
theorem dX11_init_130 : decode cX11_init 130 = .ok (.invokespecial 73, 3) := by decide +kernel
theorem dX11_init_133 : decode cX11_init 133 = .ok (.putfield 74, 3) := by decide +kernel
theorem dX11_init_136 : decode cX11_init 136 = .ok (.aload_n 0, 1) := by decide +kernel
theorem dX11_init_137 : decode cX11_init 137 = .ok (.new 78, 3) := by decide +kernel
theorem dX11_init_140 : decode cX11_init 140 = .ok (.dup, 1) := by decide +kernel
theorem dX11_init_141 : decode cX11_init 141 = .ok (.bipush 40, 2) := by decide +kernel
theorem dX11_init_143 : decode cX11_init 143 = .ok (.invokespecial 80, 3) := by decide +kernel
theorem dX11_init_146 : decode cX11_init 146 = .ok (.putfield 83, 3) := by decide +kernel
theorem dX11_init_149 : decode cX11_init 149 = .ok (.aload_n 0, 1) := by decide +kernel
theorem dX11_init_150 : decode cX11_init 150 = .ok (.new 78, 3) := by decide +kernel
theorem dX11_init_153 : decode cX11_init 153 = .ok (.dup, 1) := by decide +kernel
theorem dX11_init_154 : decode cX11_init 154 = .ok (.bipush 21, 2) := by decide +kernel
theorem dX11_init_156 : decode cX11_init 156 = .ok (.invokespecial 80, 3) := by decide +kernel
theorem dX11_init_159 : decode cX11_init 159 = .ok (.putfield 87, 3) := by decide +kernel
theorem dX11_init_162 : decode cX11_init 162 = .ok (.aload_n 0, 1) := by decide +kernel
theorem dX11_init_163 : decode cX11_init 163 = .ok (.new 78, 3) := by decide +kernel
theorem dX11_init_166 : decode cX11_init 166 = .ok (.dup, 1) := by decide +kernel
theorem dX11_init_167 : decode cX11_init 167 = .ok (.bipush 101, 2) := by decide +kernel
theorem dX11_init_169 : decode cX11_init 169 = .ok (.invokespecial 80, 3) := by decide +kernel
theorem dX11_init_172 : decode cX11_init 172 = .ok (.putfield 90, 3) := by decide +kernel
theorem dX11_init_175 : decode cX11_init 175 = .ok (.aload_n 0, 1) := by decide +kernel
theorem dX11_init_176 : decode cX11_init 176 = .ok (.new 78, 3) := by decide +kernel
theorem dX11_init_179 : decode cX11_init 179 = .ok (.dup, 1) := by decide +kernel
theorem dX11_init_180 : decode cX11_init 180 = .ok (.bipush 40, 2) := by decide +kernel
theorem dX11_init_182 : decode cX11_init 182 = .ok (.invokespecial 80, 3) := by decide +kernel
theorem dX11_init_185 : decode cX11_init 185 = .ok (.putfield 93, 3) := by decide +kernel
theorem dX11_init_188 : decode cX11_init 188 = .ok (.aload_n 0, 1) := by decide +kernel
theorem dX11_init_189 : decode cX11_init 189 = .ok (.new 78, 3) := by decide +kernel
theorem dX11_init_192 : decode cX11_init 192 = .ok (.dup, 1) := by decide +kernel
theorem dX11_init_193 : decode cX11_init 193 = .ok (.bipush 40, 2) := by decide +kernel
theorem dX11_init_195 : decode cX11_init 195 = .ok (.invokespecial 80, 3) := by decide +kernel
theorem dX11_init_198 : decode cX11_init 198 = .ok (.putfield 96, 3) := by decide +kernel
theorem dX11_init_201 : decode cX11_init 201 = .ok (.aload_n 0, 1) := by decide +kernel
theorem dX11_init_202 : decode cX11_init 202 = .ok (.new 78, 3) := by decide +kernel
theorem dX11_init_205 : decode cX11_init 205 = .ok (.dup, 1) := by decide +kernel
theorem dX11_init_206 : decode cX11_init 206 = .ok (.sipush 200, 3) := by decide +kernel
theorem dX11_init_209 : decode cX11_init 209 = .ok (.invokespecial 80, 3) := by decide +kernel
theorem dX11_init_212 : decode cX11_init 212 = .ok (.putfield 99, 3) := by decide +kernel
theorem dX11_init_215 : decode cX11_init 215 = .ok (.aload_n 0, 1) := by decide +kernel
theorem dX11_init_216 : decode cX11_init 216 = .ok (.iconst 0, 1) := by decide +kernel
theorem dX11_init_217 : decode cX11_init 217 = .ok (.putfield 102, 3) := by decide +kernel
theorem dX11_init_220 : decode cX11_init 220 = .ok (.aload_n 0, 1) := by decide +kernel
theorem dX11_init_221 : decode cX11_init 221 = .ok (.iconst 0, 1) := by decide +kernel
theorem dX11_init_222 : decode cX11_init 222 = .ok (.putfield 106, 3) := by decide +kernel
theorem dX11_init_225 : decode cX11_init 225 = .ok (.aload_n 0, 1) := by decide +kernel
theorem dX11_init_226 : decode cX11_init 226 = .ok (.iconst (-1), 1) := by decide +kernel
theorem dX11_init_227 : decode cX11_init 227 = .ok (.putfield 109, 3) := by decide +kernel
theorem dX11_init_230 : decode cX11_init 230 = .ok (.aload_n 0, 1) := by decide +kernel
theorem dX11_init_231 : decode cX11_init 231 = .ok (.getfield 39, 3) := by decide +kernel
theorem dX11_init_234 : decode cX11_init 234 = .ok (.getfield 112, 3) := by decide +kernel
theorem dX11_init_237 : decode cX11_init 237 = .ok (.iconst 3, 1) := by decide +kernel
theorem dX11_init_238 : decode cX11_init 238 = .ok (.bipush 30, 2) := by decide +kernel
theorem dX11_init_240 : decode cX11_init 240 = .ok (.iconst 5, 1) := by decide +kernel
theorem dX11_init_241 : decode cX11_init 241 = .ok (.iconst 0, 1) := by decide +kernel
theorem dX11_init_242 : decode cX11_init 242 = .ok (.iconst 0, 1) := by decide +kernel
theorem dX11_init_243 : decode cX11_init 243 = .ok (.invokevirtual 115, 3) := by decide +kernel
theorem dX11_init_246 : decode cX11_init 246 = .ok (.aload_n 0, 1) := by decide +kernel
theorem dX11_init_247 : decode cX11_init 247 = .ok (.getfield 39, 3) := by decide +kernel
theorem dX11_init_250 : decode cX11_init 250 = .ok (.getfield 112, 3) := by decide +kernel
theorem dX11_init_253 : decode cX11_init 253 = .ok (.invokevirtual 119, 3) := by decide +kernel
theorem dX11_init_256 : decode cX11_init 256 = .ok (.return_, 1) := by decide +kernel
theorem hcX11_init : yX11_init.cls ≠ "java/lang/invoke/MethodHandle" ∧ yX11_init.cls ≠ "java/lang/invoke/VarHandle" ∧ (parseMethodDescriptor yX11_init.desc).map (fun d => d.parameters.length) = some 0 := ⟨by decide +kernel, by decide +kernel, by decide +kernel⟩
def fX11_init (La : sg_L) (s0 : sg_M) (o : Int) (Q : sg_L → sg_M → Prop) : Prop := ∀ (q1 : Nat) (La2 : sg_L), La2 = sg_pu La 28 q1 → ∀ s3 : sg_M, s3 = sg_nw s0 La.1 28 → ∀ o4 : Int, o4 = (La.1 : Int) → fX8_init La2 s3 o4 (fun La14 s15 => ∀ s21 : sg_M, s21 = sg_up s15 o 0 o4 → ∀ (q23 : Nat) (La24 : sg_L), La24 = sg_pu La14 29 q23 → ∀ s25 : sg_M, s25 = sg_nw s21 La14.1 29 → ∀ o26 : Int, o26 = (La14.1 : Int) → (sg_O La24 (s25 o 0) 8) ∧ fX9_init La24 s25 o26 (s25 o 0) (fun La38 s39 => ∀ s45 : sg_M, s45 = sg_up s39 o 1 o26 → ∀ (q47 : Nat) (La48 : sg_L), La48 = sg_pu La38 47 q47 → ∀ s49 : sg_M, s49 = sg_nw s45 La38.1 47 → ∀ o50 : Int, o50 = (La38.1 : Int) → ∀ (q60 : Nat) (La61 : sg_L), La61 = sg_pu La48 21 q60 → ∀ s62 : sg_M, s62 = sg_nw s49 La48.1 21 → ∀ o63 : Int, o63 = (La48.1 : Int) → fX1_init La61 s62 o63 (fun La74 s75 => ∀ (q82 : Nat) (La83 : sg_L), La83 = sg_pu La74 23 q82 → ∀ s84 : sg_M, s84 = sg_nw s75 La74.1 23 → ∀ o85 : Int, o85 = (La74.1 : Int) → fX3_init La83 s84 o85 (fun La97 s98 => ∀ (q106 : Nat) (La107 : sg_L), La107 = sg_pu La97 25 q106 → ∀ s108 : sg_M, s108 = sg_nw s98 La97.1 25 → ∀ o109 : Int, o109 = (La97.1 : Int) → fX5_init La107 s108 o109 (fun La122 s123 => fX7_init_A La122 s123 o50 o63 o85 o109 (fun La132 s133 => ∀ s139 : sg_M, s139 = sg_up s133 o 2 o50 → ∀ (q141 : Nat) (La142 : sg_L), La142 = sg_pu La132 40002 q141 → ∀ s143 : sg_M, s143 = sg_nw s139 La132.1 40002 → ∀ o144 : Int, o144 = (La132.1 : Int) → ∀ s154 : sg_M, s154 = sg_up s143 o 3 o144 → ∀ (q156 : Nat) (La157 : sg_L), La157 = sg_pu La142 21 q156 → ∀ s158 : sg_M, s158 = sg_nw s154 La142.1 21 → ∀ o159 : Int, o159 = (La142.1 : Int) → fX1_init La157 s158 o159 (fun La169 s170 => ∀ s176 : sg_M, s176 = sg_up s170 o 4 o159 → ∀ (q178 : Nat) (La179 : sg_L), La179 = sg_pu La169 20 q178 → ∀ s180 : sg_M, s180 = sg_nw s176 La169.1 20 → ∀ o181 : Int, o181 = (La169.1 : Int) → fX0_init La179 s180 o181 (fun La191 s192 => ∀ s198 : sg_M, s198 = sg_up s192 o 5 o181 → ∀ (q200 : Nat) (La201 : sg_L), La201 = sg_pu La191 30 q200 → ∀ s202 : sg_M, s202 = sg_nw s198 La191.1 30 → ∀ o203 : Int, o203 = (La191.1 : Int) → fX10_init La201 s202 o203 (fun La213 s214 => ∀ s220 : sg_M, s220 = sg_up s214 o 6 o203 → ∀ (q222 : Nat) (La223 : sg_L), La223 = sg_pu La213 30 q222 → ∀ s224 : sg_M, s224 = sg_nw s220 La213.1 30 → ∀ o225 : Int, o225 = (La213.1 : Int) → fX10_init La223 s224 o225 (fun La235 s236 => ∀ s242 : sg_M, s242 = sg_up s236 o 7 o225 → ∀ (q244 : Nat) (La245 : sg_L), La245 = sg_pu La235 30 q244 → ∀ s246 : sg_M, s246 = sg_nw s242 La235.1 30 → ∀ o247 : Int, o247 = (La235.1 : Int) → fX10_init La245 s246 o247 (fun La257 s258 => ∀ s264 : sg_M, s264 = sg_up s258 o 8 o247 → ∀ (q266 : Nat) (La267 : sg_L), La267 = sg_pu La257 26 q266 → ∀ s268 : sg_M, s268 = sg_nw s264 La257.1 26 → ∀ o269 : Int, o269 = (La257.1 : Int) → fX6_init La267 s268 o269 (fun La279 s280 => ∀ s286 : sg_M, s286 = sg_up s280 o 9 o269 → ∀ (q288 : Nat) (La289 : sg_L), La289 = sg_pu La279 24 q288 → ∀ s290 : sg_M, s290 = sg_nw s286 La279.1 24 → ∀ o291 : Int, o291 = (La279.1 : Int) → fX4_init La289 s290 o291 40 (fun La301 s302 => ∀ s308 : sg_M, s308 = sg_up s302 o 10 o291 → ∀ (q310 : Nat) (La311 : sg_L), La311 = sg_pu La301 24 q310 → ∀ s312 : sg_M, s312 = sg_nw s308 La301.1 24 → ∀ o313 : Int, o313 = (La301.1 : Int) → fX4_init La311 s312 o313 21 (fun La323 s324 => ∀ s330 : sg_M, s330 = sg_up s324 o 11 o313 → ∀ (q332 : Nat) (La333 : sg_L), La333 = sg_pu La323 24 q332 → ∀ s334 : sg_M, s334 = sg_nw s330 La323.1 24 → ∀ o335 : Int, o335 = (La323.1 : Int) → fX4_init La333 s334 o335 101 (fun La345 s346 => ∀ s352 : sg_M, s352 = sg_up s346 o 12 o335 → ∀ (q354 : Nat) (La355 : sg_L), La355 = sg_pu La345 24 q354 → ∀ s356 : sg_M, s356 = sg_nw s352 La345.1 24 → ∀ o357 : Int, o357 = (La345.1 : Int) → fX4_init La355 s356 o357 40 (fun La367 s368 => ∀ s374 : sg_M, s374 = sg_up s368 o 13 o357 → ∀ (q376 : Nat) (La377 : sg_L), La377 = sg_pu La367 24 q376 → ∀ s378 : sg_M, s378 = sg_nw s374 La367.1 24 → ∀ o379 : Int, o379 = (La367.1 : Int) → fX4_init La377 s378 o379 40 (fun La389 s390 => ∀ s396 : sg_M, s396 = sg_up s390 o 14 o379 → ∀ (q398 : Nat) (La399 : sg_L), La399 = sg_pu La389 24 q398 → ∀ s400 : sg_M, s400 = sg_nw s396 La389.1 24 → ∀ o401 : Int, o401 = (La389.1 : Int) → fX4_init La399 s400 o401 200 (fun La411 s412 => ∀ s418 : sg_M, s418 = sg_up s412 o 15 o401 → ∀ s420 : sg_M, s420 = sg_up s418 o 16 0 → ∀ s422 : sg_M, s422 = sg_up s420 o 17 0 → ∀ s424 : sg_M, s424 = sg_up s422 o 18 (-1) → (sg_O La411 (s424 o 2) 27) ∧ (0 ≤ (s424 (s424 o 2) 0)) ∧ fX1_addAlike s424 (s424 (s424 o 2) 0) 3 30 5 0 0 (fun s431 => (sg_O La411 (s431 o 2) 27) ∧ (0 ≤ (s431 (s431 o 2) 0)) ∧ fX1_fillUntold s431 (s431 (s431 o 2) 0) (fun s437 => sg_sealed La411 s437 o 31 11 ∧ ∀ La438 : sg_L, La438 = sg_se La411 o.toNat 11 → Q La438 s437))))))))))))))))))))
set_option maxHeartbeats 4000000 in
set_option maxRecDepth 100000 in
theorem CX11_init {l : Launch} {G : sg_G} {La : sg_L} {s0 : sg_M} (hst : sg_St La) {o : Int} (to : sg_O La o 31) {Q : sg_L → sg_M → Prop} (hf : fX11_init La s0 o Q) : sg_C l G yX11_init cX11_init 1 (none) 4 63 7473 La s0 [sg_r o] (sg_BV (sg_se La o.toNat 11) Q) := by
  refine sg_body (by decide +kernel) (Nat.le_of_ble_eq_true rfl) ?_
  intro p e s m args below meth c F hnm
  unfold fX11_init at hf
  show sg_W p l e (sg_rm 4 63 7473) s m args below meth c (MQ below (sg_Q (none) G La s.heap.size (sg_BV (sg_se La o.toNat 11) Q)) args s 63 7473 (sg_A La s.heap.size)) 1 G (sg_A La s.heap.size) La s0 0 0 0 [(0, sg_r o)] []
  have hin : meth.name = "<init>" := hnm
  refine gw_aload_n F 0 rfl rfl to.1 dX11_init_0 ?_
  refine gw_objInit F to.1 kw_117 kw_OI kw_OC (Nat.le_of_ble_eq_true rfl) (by decide) (by decide) dX11_init_1 ?_
  refine gw_aload_n F 0 rfl rfl to.1 dX11_init_4 ?_
  refine gy_new F (kd := 28) (T := TX8) (by decide) rfl sg_lay_RX8 tyX8_ok kw_120 kw_121 kw_91 ns_X8 nf_X8 nr_X8 (by decide) (by decide) (List.forall_mem_cons.mpr ⟨(Or.inl to.2.1), (fun _ h => absurd h List.not_mem_nil)⟩) (List.forall_mem_cons.mpr ⟨(Or.inl to.2.1), (fun _ h => absurd h List.not_mem_nil)⟩) dX11_init_5 (fun q1 La2 s3 o4 e5 e6 e7 t8 hX9 => ?_)
  have hf := hf q1 La2 e5 s3 e6 o4 e7
  have hn10 : La.1 ≤ o4.toNat := by rw [e7, Int.toNat_natCast]; exact (sg_X.rf : sg_X La La).1
  have t11 := to.X hX9
  have hst12 := hst.X hX9
  have hX13 := sg_X.tr (sg_X.rf) hX9
  refine gw_dup F rfl dX11_init_8 ?_
  refine gk_BV F (gc_IN F (S := [sg_r o4, sg_r o]) (As := []) (CX8_init t8 hf) t8.1 kw_124 kw_91 kw_122 kw_123 rfl hcX8_init ⟨by decide, by decide⟩ rfl rfl (Nat.le_of_ble_eq_true rfl) ⟨by decide, by decide⟩ dX11_init_9) (List.forall_mem_cons.mpr ⟨(Or.inl t11.2.1), (fun _ h => absurd h List.not_mem_nil)⟩) (List.forall_mem_cons.mpr ⟨(Or.inl t8.2.1), (List.forall_mem_cons.mpr ⟨(Or.inl t11.2.1), (fun _ h => absurd h List.not_mem_nil)⟩)⟩) (fun La14 s15 hX16 hf => ?_)
  have t17 := (sg_O_sx t11 t8 (by decide)).X hX16
  have t18 := (sg_O_sealed t8).X hX16
  have hst19 := (sg_St_sx hst12 t8 ⟨by decide, by decide, by decide⟩).X hX16
  have hX20 := (sg_X_sx (hX13) hn10).tr hX16
  obtain ⟨s21, e22⟩ : ∃ z : sg_M, z = sg_up s15 o 0 o4 := ⟨_, rfl⟩
  have hf := hf s21 e22
  refine gw_put5F F t17 (by decide) rfl sg_lay_RX11 (j := 0) (by decide) (D0 := tyX11 0) (fun _ => ⟨rfl, rfl⟩) t18.1 t18.2.1 e22 tyX11_ok nmX11 rfl hin rfl (tyX11_ok 0 (by decide)) rfl (host := "") kw_326 dX11_init_12 ?_
  refine gw_aload_n F 0 rfl rfl t17.1 dX11_init_15 ?_
  refine gy_new F (kd := 29) (T := TX9) (by decide) rfl sg_lay_RX9 tyX9_ok kw_132 kw_133 kw_92 ns_X9 nf_X9 nr_X9 (by decide) (by decide) (List.forall_mem_cons.mpr ⟨(Or.inl t17.2.1), (fun _ h => absurd h List.not_mem_nil)⟩) (List.forall_mem_cons.mpr ⟨(Or.inl t17.2.1), (fun _ h => absurd h List.not_mem_nil)⟩) dX11_init_16 (fun q23 La24 s25 o26 e27 e28 e29 t30 hX31 => ?_)
  have hf := hf q23 La24 e27 s25 e28 o26 e29
  have hn32 : La.1 ≤ o26.toNat := by rw [e29, Int.toNat_natCast]; exact (hX20 : sg_X La La14).1
  have t33 := t17.X hX31
  have hst34 := hst19.X hX31
  have hX35 := sg_X.tr (hX20) hX31
  refine gw_dup F rfl dX11_init_19 ?_
  refine gw_aload_n F 0 rfl rfl t33.1 dX11_init_20 ?_
  refine gw_get5 F t33 (by decide) rfl sg_lay_RX11 (j := 0) (by decide) rfl (host := "") (.inl kw_326) dX11_init_21 (fun h36 => ?_)
  obtain ⟨g37, hf⟩ := hf
  refine gk_BV F (gc_I F (S := [sg_r o26, sg_r o]) (As := [sg_r (s25 o 0)]) (CX9_init hst34 t30 g37 hf) t30.1 kw_136 kw_92 kw_134 kw_135 rfl hcX9_init ⟨by decide, by decide⟩ rfl rfl (Nat.le_of_ble_eq_true rfl) ⟨by decide, by decide⟩ dX11_init_24) (List.forall_mem_cons.mpr ⟨(Or.inl t33.2.1), (fun _ h => absurd h List.not_mem_nil)⟩) (List.forall_mem_cons.mpr ⟨(Or.inl t30.2.1), (List.forall_mem_cons.mpr ⟨(Or.inl t33.2.1), (fun _ h => absurd h List.not_mem_nil)⟩)⟩) (fun La38 s39 hX40 hf => ?_)
  have t41 := (sg_O_sx t33 t30 (by decide)).X hX40
  have t42 := (sg_O_sealed t30).X hX40
  have hst43 := (sg_St_sx hst34 t30 ⟨by decide, by decide, by decide⟩).X hX40
  have hX44 := (sg_X_sx (hX35) hn32).tr hX40
  obtain ⟨s45, e46⟩ : ∃ z : sg_M, z = sg_up s39 o 1 o26 := ⟨_, rfl⟩
  have hf := hf s45 e46
  refine gw_put5F F t41 (by decide) rfl sg_lay_RX11 (j := 1) (by decide) (D0 := tyX11 1) (fun _ => ⟨rfl, rfl⟩) t42.1 t42.2.1 e46 tyX11_ok nmX11 rfl hin rfl (tyX11_ok 1 (by decide)) rfl (host := "") kw_327 dX11_init_27 ?_
  refine gw_aload_n F 0 rfl rfl t41.1 dX11_init_30 ?_
  refine gy_new F (kd := 47) (T := TX7) (by decide) rfl sg_lay_RX7 tyX7_ok kw_150 kw_151 kw_93 ns_X7 nf_X7 nr_X7 (by decide) (by decide) (List.forall_mem_cons.mpr ⟨(Or.inl t41.2.1), (fun _ h => absurd h List.not_mem_nil)⟩) (List.forall_mem_cons.mpr ⟨(Or.inl t41.2.1), (fun _ h => absurd h List.not_mem_nil)⟩) dX11_init_31 (fun q47 La48 s49 o50 e51 e52 e53 t54 hX55 => ?_)
  have hf := hf q47 La48 e51 s49 e52 o50 e53
  have hn56 : La.1 ≤ o50.toNat := by rw [e53, Int.toNat_natCast]; exact (hX44 : sg_X La La38).1
  have t57 := t41.X hX55
  have hst58 := hst43.X hX55
  have hX59 := sg_X.tr (hX44) hX55
  refine gw_dup F rfl dX11_init_34 ?_
  refine gy_new F (kd := 21) (T := TX1) (by decide) rfl sg_lay_RX1 tyX1_ok kw_152 kw_153 kw_94 ns_X1 nf_X1 nr_X1 (by decide) (by decide) (List.forall_mem_cons.mpr ⟨(Or.inl t57.2.1), (fun _ h => absurd h List.not_mem_nil)⟩) (List.forall_mem_cons.mpr ⟨(Or.inl t54.2.1), (List.forall_mem_cons.mpr ⟨(Or.inl t54.2.1), (List.forall_mem_cons.mpr ⟨(Or.inl t57.2.1), (fun _ h => absurd h List.not_mem_nil)⟩)⟩)⟩) dX11_init_35 (fun q60 La61 s62 o63 e64 e65 e66 t67 hX68 => ?_)
  have hf := hf q60 La61 e64 s62 e65 o63 e66
  have hn69 : La.1 ≤ o63.toNat := by rw [e66, Int.toNat_natCast]; exact (hX59 : sg_X La La48).1
  have t70 := t57.X hX68
  have t71 := t54.X hX68
  have hst72 := hst58.X hX68
  have hX73 := sg_X.tr (hX59) hX68
  refine gw_dup F rfl dX11_init_38 ?_
  refine gk_BV F (gc_IN F (S := [sg_r o63, sg_r o50, sg_r o50, sg_r o]) (As := []) (CX1_init t67 hf) t67.1 kw_156 kw_94 kw_154 kw_155 rfl hcX1_init ⟨by decide, by decide⟩ rfl rfl (Nat.le_of_ble_eq_true rfl) ⟨by decide, by decide⟩ dX11_init_39) (List.forall_mem_cons.mpr ⟨(Or.inl t70.2.1), (fun _ h => absurd h List.not_mem_nil)⟩) (List.forall_mem_cons.mpr ⟨(Or.inl t67.2.1), (List.forall_mem_cons.mpr ⟨(Or.inl t71.2.1), (List.forall_mem_cons.mpr ⟨(Or.inl t71.2.1), (List.forall_mem_cons.mpr ⟨(Or.inl t70.2.1), (fun _ h => absurd h List.not_mem_nil)⟩)⟩)⟩)⟩) (fun La74 s75 hX76 hf => ?_)
  have t77 := (sg_O_sx t70 t67 (by decide)).X hX76
  have t78 := (sg_O_sx t71 t67 (by decide)).X hX76
  have t79 := (sg_O_sealed t67).X hX76
  have hst80 := (sg_St_sx hst72 t67 ⟨by decide, by decide, by decide⟩).X hX76
  have hX81 := (sg_X_sx (hX73) hn69).tr hX76
  refine gy_new F (kd := 23) (T := TX3) (by decide) rfl sg_lay_RX3 tyX3_ok kw_172 kw_173 kw_95 ns_X3 nf_X3 nr_X3 (by decide) (by decide) (List.forall_mem_cons.mpr ⟨(Or.inl t77.2.1), (fun _ h => absurd h List.not_mem_nil)⟩) (List.forall_mem_cons.mpr ⟨(Or.inl t79.2.1), (List.forall_mem_cons.mpr ⟨(Or.inl t78.2.1), (List.forall_mem_cons.mpr ⟨(Or.inl t78.2.1), (List.forall_mem_cons.mpr ⟨(Or.inl t77.2.1), (fun _ h => absurd h List.not_mem_nil)⟩)⟩)⟩)⟩) dX11_init_42 (fun q82 La83 s84 o85 e86 e87 e88 t89 hX90 => ?_)
  have hf := hf q82 La83 e86 s84 e87 o85 e88
  have hn91 : La.1 ≤ o85.toNat := by rw [e88, Int.toNat_natCast]; exact (hX81 : sg_X La La74).1
  have t92 := t77.X hX90
  have t93 := t78.X hX90
  have t94 := t79.X hX90
  have hst95 := hst80.X hX90
  have hX96 := sg_X.tr (hX81) hX90
  refine gw_dup F rfl dX11_init_45 ?_
  refine gk_BV F (gc_IN F (S := [sg_r o85, sg_r o63, sg_r o50, sg_r o50, sg_r o]) (As := []) (CX3_init t89 hf) t89.1 kw_176 kw_95 kw_174 kw_175 rfl hcX3_init ⟨by decide, by decide⟩ rfl rfl (Nat.le_of_ble_eq_true rfl) ⟨by decide, by decide⟩ dX11_init_46) (List.forall_mem_cons.mpr ⟨(Or.inl t92.2.1), (fun _ h => absurd h List.not_mem_nil)⟩) (List.forall_mem_cons.mpr ⟨(Or.inl t89.2.1), (List.forall_mem_cons.mpr ⟨(Or.inl t94.2.1), (List.forall_mem_cons.mpr ⟨(Or.inl t93.2.1), (List.forall_mem_cons.mpr ⟨(Or.inl t93.2.1), (List.forall_mem_cons.mpr ⟨(Or.inl t92.2.1), (fun _ h => absurd h List.not_mem_nil)⟩)⟩)⟩)⟩)⟩) (fun La97 s98 hX99 hf => ?_)
  have t100 := (sg_O_sx t92 t89 (by decide)).X hX99
  have t101 := (sg_O_sx t93 t89 (by decide)).X hX99
  have t102 := (sg_O_sx t94 t89 (by decide)).X hX99
  have t103 := (sg_O_sealed t89).X hX99
  have hst104 := (sg_St_sx hst95 t89 ⟨by decide, by decide, by decide⟩).X hX99
  have hX105 := (sg_X_sx (hX96) hn91).tr hX99
  refine gy_new F (kd := 25) (T := TX5) (by decide) rfl sg_lay_RX5 tyX5_ok kw_184 kw_185 kw_96 ns_X5 nf_X5 nr_X5 (by decide) (by decide) (List.forall_mem_cons.mpr ⟨(Or.inl t100.2.1), (fun _ h => absurd h List.not_mem_nil)⟩) (List.forall_mem_cons.mpr ⟨(Or.inl t103.2.1), (List.forall_mem_cons.mpr ⟨(Or.inl t102.2.1), (List.forall_mem_cons.mpr ⟨(Or.inl t101.2.1), (List.forall_mem_cons.mpr ⟨(Or.inl t101.2.1), (List.forall_mem_cons.mpr ⟨(Or.inl t100.2.1), (fun _ h => absurd h List.not_mem_nil)⟩)⟩)⟩)⟩)⟩) dX11_init_49 (fun q106 La107 s108 o109 e110 e111 e112 t113 hX114 => ?_)
  have hf := hf q106 La107 e110 s108 e111 o109 e112
  have hn115 : La.1 ≤ o109.toNat := by rw [e112, Int.toNat_natCast]; exact (hX105 : sg_X La La97).1
  have t116 := t100.X hX114
  have t117 := t101.X hX114
  have t118 := t102.X hX114
  have t119 := t103.X hX114
  have hst120 := hst104.X hX114
  have hX121 := sg_X.tr (hX105) hX114
  refine gw_dup F rfl dX11_init_52 ?_
  refine gk_BV F (gc_IN F (S := [sg_r o109, sg_r o85, sg_r o63, sg_r o50, sg_r o50, sg_r o]) (As := []) (CX5_init t113 hf) t113.1 kw_188 kw_96 kw_186 kw_187 rfl hcX5_init ⟨by decide, by decide⟩ rfl rfl (Nat.le_of_ble_eq_true rfl) ⟨by decide, by decide⟩ dX11_init_53) (List.forall_mem_cons.mpr ⟨(Or.inl t116.2.1), (fun _ h => absurd h List.not_mem_nil)⟩) (List.forall_mem_cons.mpr ⟨(Or.inl t113.2.1), (List.forall_mem_cons.mpr ⟨(Or.inl t119.2.1), (List.forall_mem_cons.mpr ⟨(Or.inl t118.2.1), (List.forall_mem_cons.mpr ⟨(Or.inl t117.2.1), (List.forall_mem_cons.mpr ⟨(Or.inl t117.2.1), (List.forall_mem_cons.mpr ⟨(Or.inl t116.2.1), (fun _ h => absurd h List.not_mem_nil)⟩)⟩)⟩)⟩)⟩)⟩) (fun La122 s123 hX124 hf => ?_)
  have t125 := (sg_O_sx t116 t113 (by decide)).X hX124
  have t126 := (sg_O_sx t117 t113 (by decide)).X hX124
  have t127 := (sg_O_sx t118 t113 (by decide)).X hX124
  have t128 := (sg_O_sx t119 t113 (by decide)).X hX124
  have t129 := (sg_O_sealed t113).X hX124
  have hst130 := (sg_St_sx hst120 t113 ⟨by decide, by decide, by decide⟩).X hX124
  have hX131 := (sg_X_sx (hX121) hn115).tr hX124
  refine gk_BV F (gc_I F (S := [sg_r o50, sg_r o]) (As := [sg_r o63, sg_r o85, sg_r o109]) (CX7_init_A t126 t127 t128 t129 hf) t126.1 kw_214 kw_93 kw_212 kw_213 rfl hcX7_init ⟨by decide, by decide⟩ rfl rfl (Nat.le_of_ble_eq_true rfl) ⟨by decide, by decide⟩ dX11_init_56) (List.forall_mem_cons.mpr ⟨(Or.inl t125.2.1), (fun _ h => absurd h List.not_mem_nil)⟩) (List.forall_mem_cons.mpr ⟨(Or.inl t126.2.1), (List.forall_mem_cons.mpr ⟨(Or.inl t125.2.1), (fun _ h => absurd h List.not_mem_nil)⟩)⟩) (fun La132 s133 hX134 hf => ?_)
  have t135 := (sg_O_sx t125 t126 (by decide)).X hX134
  have t136 := (sg_O_sealed t126).X hX134
  have hst137 := (sg_St_sx hst130 t126 ⟨by decide, by decide, by decide⟩).X hX134
  have hX138 := (sg_X_sx (hX131) hn56).tr hX134
  obtain ⟨s139, e140⟩ : ∃ z : sg_M, z = sg_up s133 o 2 o50 := ⟨_, rfl⟩
  have hf := hf s139 e140
  refine gw_put5F F t135 (by decide) rfl sg_lay_RX11 (j := 2) (by decide) (D0 := tyX11 2) (fun _ => ⟨rfl, rfl⟩) t136.1 t136.2.1 e140 tyX11_ok nmX11 rfl hin rfl (tyX11_ok 2 (by decide)) rfl (host := "") kw_328 dX11_init_59 ?_
  refine gw_aload_n F 0 rfl rfl t135.1 dX11_init_62 ?_
  refine gw_iconst F dX11_init_63 ?_
  refine gy_newT F (N := 2) kw_150 (F.2.2.2.2.2.2.2.2.2.1 _ kw_243) rfl (by decide) (by decide) (by decide) (List.forall_mem_cons.mpr ⟨(Or.inl t135.2.1), (fun _ h => absurd h List.not_mem_nil)⟩) (List.forall_mem_cons.mpr ⟨(Or.inl t135.2.1), (fun _ h => absurd h List.not_mem_nil)⟩) dX11_init_64 (fun q141 La142 s143 o144 e145 e146 e147 t148 hX149 => ?_)
  have hf := hf q141 La142 e145 s143 e146 o144 e147
  have hn150 : La.1 ≤ o144.toNat := by rw [e147, Int.toNat_natCast]; exact (hX138 : sg_X La La132).1
  have t151 := t135.X hX149
  have hst152 := hst137.X hX149
  have hX153 := sg_X.tr (hX138) hX149
  obtain ⟨s154, e155⟩ : ∃ z : sg_M, z = sg_up s143 o 3 o144 := ⟨_, rfl⟩
  have hf := hf s154 e155
  refine gw_put5F F t151 (by decide) rfl sg_lay_RX11 (j := 3) (by decide) (D0 := tyX11 3) (fun _ => ⟨rfl, rfl⟩) t148.1 t148.2.1 e155 tyX11_ok nmX11 rfl hin rfl (tyX11_ok 3 (by decide)) rfl (host := "") kw_329 dX11_init_67 ?_
  refine gw_aload_n F 0 rfl rfl t151.1 dX11_init_70 ?_
  refine gy_new F (kd := 21) (T := TX1) (by decide) rfl sg_lay_RX1 tyX1_ok kw_152 kw_153 kw_94 ns_X1 nf_X1 nr_X1 (by decide) (by decide) (List.forall_mem_cons.mpr ⟨(Or.inl t151.2.1), (fun _ h => absurd h List.not_mem_nil)⟩) (List.forall_mem_cons.mpr ⟨(Or.inl t151.2.1), (fun _ h => absurd h List.not_mem_nil)⟩) dX11_init_71 (fun q156 La157 s158 o159 e160 e161 e162 t163 hX164 => ?_)
  have hf := hf q156 La157 e160 s158 e161 o159 e162
  have hn165 : La.1 ≤ o159.toNat := by rw [e162, Int.toNat_natCast]; exact (hX153 : sg_X La La142).1
  have t166 := t151.X hX164
  have hst167 := hst152.X hX164
  have hX168 := sg_X.tr (hX153) hX164
  refine gw_dup F rfl dX11_init_74 ?_
  refine gk_BV F (gc_IN F (S := [sg_r o159, sg_r o]) (As := []) (CX1_init t163 hf) t163.1 kw_156 kw_94 kw_154 kw_155 rfl hcX1_init ⟨by decide, by decide⟩ rfl rfl (Nat.le_of_ble_eq_true rfl) ⟨by decide, by decide⟩ dX11_init_75) (List.forall_mem_cons.mpr ⟨(Or.inl t166.2.1), (fun _ h => absurd h List.not_mem_nil)⟩) (List.forall_mem_cons.mpr ⟨(Or.inl t163.2.1), (List.forall_mem_cons.mpr ⟨(Or.inl t166.2.1), (fun _ h => absurd h List.not_mem_nil)⟩)⟩) (fun La169 s170 hX171 hf => ?_)
  have t172 := (sg_O_sx t166 t163 (by decide)).X hX171
  have t173 := (sg_O_sealed t163).X hX171
  have hst174 := (sg_St_sx hst167 t163 ⟨by decide, by decide, by decide⟩).X hX171
  have hX175 := (sg_X_sx (hX168) hn165).tr hX171
  obtain ⟨s176, e177⟩ : ∃ z : sg_M, z = sg_up s170 o 4 o159 := ⟨_, rfl⟩
  have hf := hf s176 e177
  refine gw_put5F F t172 (by decide) rfl sg_lay_RX11 (j := 4) (by decide) (D0 := tyX11 4) (fun _ => ⟨rfl, rfl⟩) t173.1 t173.2.1 e177 tyX11_ok nmX11 rfl hin rfl (tyX11_ok 4 (by decide)) rfl (host := "") kw_330 dX11_init_78 ?_
  refine gw_aload_n F 0 rfl rfl t172.1 dX11_init_81 ?_
  refine gy_new F (kd := 20) (T := TX0) (by decide) rfl sg_lay_RX0 tyX0_ok kw_244 kw_245 kw_100 ns_X0 nf_X0 nr_X0 (by decide) (by decide) (List.forall_mem_cons.mpr ⟨(Or.inl t172.2.1), (fun _ h => absurd h List.not_mem_nil)⟩) (List.forall_mem_cons.mpr ⟨(Or.inl t172.2.1), (fun _ h => absurd h List.not_mem_nil)⟩) dX11_init_82 (fun q178 La179 s180 o181 e182 e183 e184 t185 hX186 => ?_)
  have hf := hf q178 La179 e182 s180 e183 o181 e184
  have hn187 : La.1 ≤ o181.toNat := by rw [e184, Int.toNat_natCast]; exact (hX175 : sg_X La La169).1
  have t188 := t172.X hX186
  have hst189 := hst174.X hX186
  have hX190 := sg_X.tr (hX175) hX186
  refine gw_dup F rfl dX11_init_85 ?_
  refine gk_BV F (gc_IN F (S := [sg_r o181, sg_r o]) (As := []) (CX0_init t185 hf) t185.1 kw_248 kw_100 kw_246 kw_247 rfl hcX0_init ⟨by decide, by decide⟩ rfl rfl (Nat.le_of_ble_eq_true rfl) ⟨by decide, by decide⟩ dX11_init_86) (List.forall_mem_cons.mpr ⟨(Or.inl t188.2.1), (fun _ h => absurd h List.not_mem_nil)⟩) (List.forall_mem_cons.mpr ⟨(Or.inl t185.2.1), (List.forall_mem_cons.mpr ⟨(Or.inl t188.2.1), (fun _ h => absurd h List.not_mem_nil)⟩)⟩) (fun La191 s192 hX193 hf => ?_)
  have t194 := (sg_O_sx t188 t185 (by decide)).X hX193
  have t195 := (sg_O_sealed t185).X hX193
  have hst196 := (sg_St_sx hst189 t185 ⟨by decide, by decide, by decide⟩).X hX193
  have hX197 := (sg_X_sx (hX190) hn187).tr hX193
  obtain ⟨s198, e199⟩ : ∃ z : sg_M, z = sg_up s192 o 5 o181 := ⟨_, rfl⟩
  have hf := hf s198 e199
  refine gw_put5F F t194 (by decide) rfl sg_lay_RX11 (j := 5) (by decide) (D0 := tyX11 5) (fun _ => ⟨rfl, rfl⟩) t195.1 t195.2.1 e199 tyX11_ok nmX11 rfl hin rfl (tyX11_ok 5 (by decide)) rfl (host := "") kw_331 dX11_init_89 ?_
  refine gw_aload_n F 0 rfl rfl t194.1 dX11_init_92 ?_
  refine gy_new F (kd := 30) (T := TX10) (by decide) rfl sg_lay_RX10 tyX10_ok kw_275 kw_276 kw_101 ns_X10 nf_X10 nr_X10 (by decide) (by decide) (List.forall_mem_cons.mpr ⟨(Or.inl t194.2.1), (fun _ h => absurd h List.not_mem_nil)⟩) (List.forall_mem_cons.mpr ⟨(Or.inl t194.2.1), (fun _ h => absurd h List.not_mem_nil)⟩) dX11_init_93 (fun q200 La201 s202 o203 e204 e205 e206 t207 hX208 => ?_)
  have hf := hf q200 La201 e204 s202 e205 o203 e206
  have hn209 : La.1 ≤ o203.toNat := by rw [e206, Int.toNat_natCast]; exact (hX197 : sg_X La La191).1
  have t210 := t194.X hX208
  have hst211 := hst196.X hX208
  have hX212 := sg_X.tr (hX197) hX208
  refine gw_dup F rfl dX11_init_96 ?_
  refine gk_BV F (gc_IN F (S := [sg_r o203, sg_r o]) (As := []) (CX10_init t207 hf) t207.1 kw_279 kw_101 kw_277 kw_278 rfl hcX10_init ⟨by decide, by decide⟩ rfl rfl (Nat.le_of_ble_eq_true rfl) ⟨by decide, by decide⟩ dX11_init_97) (List.forall_mem_cons.mpr ⟨(Or.inl t210.2.1), (fun _ h => absurd h List.not_mem_nil)⟩) (List.forall_mem_cons.mpr ⟨(Or.inl t207.2.1), (List.forall_mem_cons.mpr ⟨(Or.inl t210.2.1), (fun _ h => absurd h List.not_mem_nil)⟩)⟩) (fun La213 s214 hX215 hf => ?_)
  have t216 := (sg_O_sx t210 t207 (by decide)).X hX215
  have t217 := (sg_O_sealed t207).X hX215
  have hst218 := (sg_St_sx hst211 t207 ⟨by decide, by decide, by decide⟩).X hX215
  have hX219 := (sg_X_sx (hX212) hn209).tr hX215
  obtain ⟨s220, e221⟩ : ∃ z : sg_M, z = sg_up s214 o 6 o203 := ⟨_, rfl⟩
  have hf := hf s220 e221
  refine gw_put5F F t216 (by decide) rfl sg_lay_RX11 (j := 6) (by decide) (D0 := tyX11 6) (fun _ => ⟨rfl, rfl⟩) t217.1 t217.2.1 e221 tyX11_ok nmX11 rfl hin rfl (tyX11_ok 6 (by decide)) rfl (host := "") kw_332 dX11_init_100 ?_
  refine gw_aload_n F 0 rfl rfl t216.1 dX11_init_103 ?_
  refine gy_new F (kd := 30) (T := TX10) (by decide) rfl sg_lay_RX10 tyX10_ok kw_275 kw_276 kw_101 ns_X10 nf_X10 nr_X10 (by decide) (by decide) (List.forall_mem_cons.mpr ⟨(Or.inl t216.2.1), (fun _ h => absurd h List.not_mem_nil)⟩) (List.forall_mem_cons.mpr ⟨(Or.inl t216.2.1), (fun _ h => absurd h List.not_mem_nil)⟩) dX11_init_104 (fun q222 La223 s224 o225 e226 e227 e228 t229 hX230 => ?_)
  have hf := hf q222 La223 e226 s224 e227 o225 e228
  have hn231 : La.1 ≤ o225.toNat := by rw [e228, Int.toNat_natCast]; exact (hX219 : sg_X La La213).1
  have t232 := t216.X hX230
  have hst233 := hst218.X hX230
  have hX234 := sg_X.tr (hX219) hX230
  refine gw_dup F rfl dX11_init_107 ?_
  refine gk_BV F (gc_IN F (S := [sg_r o225, sg_r o]) (As := []) (CX10_init t229 hf) t229.1 kw_279 kw_101 kw_277 kw_278 rfl hcX10_init ⟨by decide, by decide⟩ rfl rfl (Nat.le_of_ble_eq_true rfl) ⟨by decide, by decide⟩ dX11_init_108) (List.forall_mem_cons.mpr ⟨(Or.inl t232.2.1), (fun _ h => absurd h List.not_mem_nil)⟩) (List.forall_mem_cons.mpr ⟨(Or.inl t229.2.1), (List.forall_mem_cons.mpr ⟨(Or.inl t232.2.1), (fun _ h => absurd h List.not_mem_nil)⟩)⟩) (fun La235 s236 hX237 hf => ?_)
  have t238 := (sg_O_sx t232 t229 (by decide)).X hX237
  have t239 := (sg_O_sealed t229).X hX237
  have hst240 := (sg_St_sx hst233 t229 ⟨by decide, by decide, by decide⟩).X hX237
  have hX241 := (sg_X_sx (hX234) hn231).tr hX237
  obtain ⟨s242, e243⟩ : ∃ z : sg_M, z = sg_up s236 o 7 o225 := ⟨_, rfl⟩
  have hf := hf s242 e243
  refine gw_put5F F t238 (by decide) rfl sg_lay_RX11 (j := 7) (by decide) (D0 := tyX11 7) (fun _ => ⟨rfl, rfl⟩) t239.1 t239.2.1 e243 tyX11_ok nmX11 rfl hin rfl (tyX11_ok 7 (by decide)) rfl (host := "") kw_333 dX11_init_111 ?_
  refine gw_aload_n F 0 rfl rfl t238.1 dX11_init_114 ?_
  refine gy_new F (kd := 30) (T := TX10) (by decide) rfl sg_lay_RX10 tyX10_ok kw_275 kw_276 kw_101 ns_X10 nf_X10 nr_X10 (by decide) (by decide) (List.forall_mem_cons.mpr ⟨(Or.inl t238.2.1), (fun _ h => absurd h List.not_mem_nil)⟩) (List.forall_mem_cons.mpr ⟨(Or.inl t238.2.1), (fun _ h => absurd h List.not_mem_nil)⟩) dX11_init_115 (fun q244 La245 s246 o247 e248 e249 e250 t251 hX252 => ?_)
  have hf := hf q244 La245 e248 s246 e249 o247 e250
  have hn253 : La.1 ≤ o247.toNat := by rw [e250, Int.toNat_natCast]; exact (hX241 : sg_X La La235).1
  have t254 := t238.X hX252
  have hst255 := hst240.X hX252
  have hX256 := sg_X.tr (hX241) hX252
  refine gw_dup F rfl dX11_init_118 ?_
  refine gk_BV F (gc_IN F (S := [sg_r o247, sg_r o]) (As := []) (CX10_init t251 hf) t251.1 kw_279 kw_101 kw_277 kw_278 rfl hcX10_init ⟨by decide, by decide⟩ rfl rfl (Nat.le_of_ble_eq_true rfl) ⟨by decide, by decide⟩ dX11_init_119) (List.forall_mem_cons.mpr ⟨(Or.inl t254.2.1), (fun _ h => absurd h List.not_mem_nil)⟩) (List.forall_mem_cons.mpr ⟨(Or.inl t251.2.1), (List.forall_mem_cons.mpr ⟨(Or.inl t254.2.1), (fun _ h => absurd h List.not_mem_nil)⟩)⟩) (fun La257 s258 hX259 hf => ?_)
  have t260 := (sg_O_sx t254 t251 (by decide)).X hX259
  have t261 := (sg_O_sealed t251).X hX259
  have hst262 := (sg_St_sx hst255 t251 ⟨by decide, by decide, by decide⟩).X hX259
  have hX263 := (sg_X_sx (hX256) hn253).tr hX259
  obtain ⟨s264, e265⟩ : ∃ z : sg_M, z = sg_up s258 o 8 o247 := ⟨_, rfl⟩
  have hf := hf s264 e265
  refine gw_put5F F t260 (by decide) rfl sg_lay_RX11 (j := 8) (by decide) (D0 := tyX11 8) (fun _ => ⟨rfl, rfl⟩) t261.1 t261.2.1 e265 tyX11_ok nmX11 rfl hin rfl (tyX11_ok 8 (by decide)) rfl (host := "") kw_334 dX11_init_122 ?_
  refine gw_aload_n F 0 rfl rfl t260.1 dX11_init_125 ?_
  refine gy_new F (kd := 26) (T := TX6) (by decide) rfl sg_lay_RX6 tyX6_ok kw_304 kw_305 kw_102 ns_X6 nf_X6 nr_X6 (by decide) (by decide) (List.forall_mem_cons.mpr ⟨(Or.inl t260.2.1), (fun _ h => absurd h List.not_mem_nil)⟩) (List.forall_mem_cons.mpr ⟨(Or.inl t260.2.1), (fun _ h => absurd h List.not_mem_nil)⟩) dX11_init_126 (fun q266 La267 s268 o269 e270 e271 e272 t273 hX274 => ?_)
  have hf := hf q266 La267 e270 s268 e271 o269 e272
  have hn275 : La.1 ≤ o269.toNat := by rw [e272, Int.toNat_natCast]; exact (hX263 : sg_X La La257).1
  have t276 := t260.X hX274
  have hst277 := hst262.X hX274
  have hX278 := sg_X.tr (hX263) hX274
  refine gw_dup F rfl dX11_init_129 ?_
  refine gk_BV F (gc_IN F (S := [sg_r o269, sg_r o]) (As := []) (CX6_init t273 hf) t273.1 kw_308 kw_102 kw_306 kw_307 rfl hcX6_init ⟨by decide, by decide⟩ rfl rfl (Nat.le_of_ble_eq_true rfl) ⟨by decide, by decide⟩ dX11_init_130) (List.forall_mem_cons.mpr ⟨(Or.inl t276.2.1), (fun _ h => absurd h List.not_mem_nil)⟩) (List.forall_mem_cons.mpr ⟨(Or.inl t273.2.1), (List.forall_mem_cons.mpr ⟨(Or.inl t276.2.1), (fun _ h => absurd h List.not_mem_nil)⟩)⟩) (fun La279 s280 hX281 hf => ?_)
  have t282 := (sg_O_sx t276 t273 (by decide)).X hX281
  have t283 := (sg_O_sealed t273).X hX281
  have hst284 := (sg_St_sx hst277 t273 ⟨by decide, by decide, by decide⟩).X hX281
  have hX285 := (sg_X_sx (hX278) hn275).tr hX281
  obtain ⟨s286, e287⟩ : ∃ z : sg_M, z = sg_up s280 o 9 o269 := ⟨_, rfl⟩
  have hf := hf s286 e287
  refine gw_put5F F t282 (by decide) rfl sg_lay_RX11 (j := 9) (by decide) (D0 := tyX11 9) (fun _ => ⟨rfl, rfl⟩) t283.1 t283.2.1 e287 tyX11_ok nmX11 rfl hin rfl (tyX11_ok 9 (by decide)) rfl (host := "") kw_335 dX11_init_133 ?_
  refine gw_aload_n F 0 rfl rfl t282.1 dX11_init_136 ?_
  refine gy_new F (kd := 24) (T := TX4) (by decide) rfl sg_lay_RX4 tyX4_ok kw_316 kw_191 kw_97 ns_X4 nf_X4 nr_X4 (by decide) (by decide) (List.forall_mem_cons.mpr ⟨(Or.inl t282.2.1), (fun _ h => absurd h List.not_mem_nil)⟩) (List.forall_mem_cons.mpr ⟨(Or.inl t282.2.1), (fun _ h => absurd h List.not_mem_nil)⟩) dX11_init_137 (fun q288 La289 s290 o291 e292 e293 e294 t295 hX296 => ?_)
  have hf := hf q288 La289 e292 s290 e293 o291 e294
  have hn297 : La.1 ≤ o291.toNat := by rw [e294, Int.toNat_natCast]; exact (hX285 : sg_X La La279).1
  have t298 := t282.X hX296
  have hst299 := hst284.X hX296
  have hX300 := sg_X.tr (hX285) hX296
  refine gw_dup F rfl dX11_init_140 ?_
  refine gw_bipush F rfl dX11_init_141 ?_
  refine gk_BV F (gc_I F (S := [sg_r o291, sg_r o]) (As := [sg_i 40]) (CX4_init t295 (by decide) hf) t295.1 kw_194 kw_97 kw_317 kw_193 rfl hcX4_init ⟨by decide, by decide⟩ rfl rfl (Nat.le_of_ble_eq_true rfl) ⟨by decide, by decide⟩ dX11_init_143) (List.forall_mem_cons.mpr ⟨(Or.inl t298.2.1), (fun _ h => absurd h List.not_mem_nil)⟩) (List.forall_mem_cons.mpr ⟨(Or.inl t295.2.1), (List.forall_mem_cons.mpr ⟨(Or.inl t298.2.1), (fun _ h => absurd h List.not_mem_nil)⟩)⟩) (fun La301 s302 hX303 hf => ?_)
  have t304 := (sg_O_sx t298 t295 (by decide)).X hX303
  have t305 := (sg_O_sealed t295).X hX303
  have hst306 := (sg_St_sx hst299 t295 ⟨by decide, by decide, by decide⟩).X hX303
  have hX307 := (sg_X_sx (hX300) hn297).tr hX303
  obtain ⟨s308, e309⟩ : ∃ z : sg_M, z = sg_up s302 o 10 o291 := ⟨_, rfl⟩
  have hf := hf s308 e309
  refine gw_put5F F t304 (by decide) rfl sg_lay_RX11 (j := 10) (by decide) (D0 := tyX11 10) (fun _ => ⟨rfl, rfl⟩) t305.1 t305.2.1 e309 tyX11_ok nmX11 rfl hin rfl (tyX11_ok 10 (by decide)) rfl (host := "") kw_336 dX11_init_146 ?_
  refine gw_aload_n F 0 rfl rfl t304.1 dX11_init_149 ?_
  refine gy_new F (kd := 24) (T := TX4) (by decide) rfl sg_lay_RX4 tyX4_ok kw_316 kw_191 kw_97 ns_X4 nf_X4 nr_X4 (by decide) (by decide) (List.forall_mem_cons.mpr ⟨(Or.inl t304.2.1), (fun _ h => absurd h List.not_mem_nil)⟩) (List.forall_mem_cons.mpr ⟨(Or.inl t304.2.1), (fun _ h => absurd h List.not_mem_nil)⟩) dX11_init_150 (fun q310 La311 s312 o313 e314 e315 e316 t317 hX318 => ?_)
  have hf := hf q310 La311 e314 s312 e315 o313 e316
  have hn319 : La.1 ≤ o313.toNat := by rw [e316, Int.toNat_natCast]; exact (hX307 : sg_X La La301).1
  have t320 := t304.X hX318
  have hst321 := hst306.X hX318
  have hX322 := sg_X.tr (hX307) hX318
  refine gw_dup F rfl dX11_init_153 ?_
  refine gw_bipush F rfl dX11_init_154 ?_
  refine gk_BV F (gc_I F (S := [sg_r o313, sg_r o]) (As := [sg_i 21]) (CX4_init t317 (by decide) hf) t317.1 kw_194 kw_97 kw_317 kw_193 rfl hcX4_init ⟨by decide, by decide⟩ rfl rfl (Nat.le_of_ble_eq_true rfl) ⟨by decide, by decide⟩ dX11_init_156) (List.forall_mem_cons.mpr ⟨(Or.inl t320.2.1), (fun _ h => absurd h List.not_mem_nil)⟩) (List.forall_mem_cons.mpr ⟨(Or.inl t317.2.1), (List.forall_mem_cons.mpr ⟨(Or.inl t320.2.1), (fun _ h => absurd h List.not_mem_nil)⟩)⟩) (fun La323 s324 hX325 hf => ?_)
  have t326 := (sg_O_sx t320 t317 (by decide)).X hX325
  have t327 := (sg_O_sealed t317).X hX325
  have hst328 := (sg_St_sx hst321 t317 ⟨by decide, by decide, by decide⟩).X hX325
  have hX329 := (sg_X_sx (hX322) hn319).tr hX325
  obtain ⟨s330, e331⟩ : ∃ z : sg_M, z = sg_up s324 o 11 o313 := ⟨_, rfl⟩
  have hf := hf s330 e331
  refine gw_put5F F t326 (by decide) rfl sg_lay_RX11 (j := 11) (by decide) (D0 := tyX11 11) (fun _ => ⟨rfl, rfl⟩) t327.1 t327.2.1 e331 tyX11_ok nmX11 rfl hin rfl (tyX11_ok 11 (by decide)) rfl (host := "") kw_337 dX11_init_159 ?_
  refine gw_aload_n F 0 rfl rfl t326.1 dX11_init_162 ?_
  refine gy_new F (kd := 24) (T := TX4) (by decide) rfl sg_lay_RX4 tyX4_ok kw_316 kw_191 kw_97 ns_X4 nf_X4 nr_X4 (by decide) (by decide) (List.forall_mem_cons.mpr ⟨(Or.inl t326.2.1), (fun _ h => absurd h List.not_mem_nil)⟩) (List.forall_mem_cons.mpr ⟨(Or.inl t326.2.1), (fun _ h => absurd h List.not_mem_nil)⟩) dX11_init_163 (fun q332 La333 s334 o335 e336 e337 e338 t339 hX340 => ?_)
  have hf := hf q332 La333 e336 s334 e337 o335 e338
  have hn341 : La.1 ≤ o335.toNat := by rw [e338, Int.toNat_natCast]; exact (hX329 : sg_X La La323).1
  have t342 := t326.X hX340
  have hst343 := hst328.X hX340
  have hX344 := sg_X.tr (hX329) hX340
  refine gw_dup F rfl dX11_init_166 ?_
  refine gw_bipush F rfl dX11_init_167 ?_
  refine gk_BV F (gc_I F (S := [sg_r o335, sg_r o]) (As := [sg_i 101]) (CX4_init t339 (by decide) hf) t339.1 kw_194 kw_97 kw_317 kw_193 rfl hcX4_init ⟨by decide, by decide⟩ rfl rfl (Nat.le_of_ble_eq_true rfl) ⟨by decide, by decide⟩ dX11_init_169) (List.forall_mem_cons.mpr ⟨(Or.inl t342.2.1), (fun _ h => absurd h List.not_mem_nil)⟩) (List.forall_mem_cons.mpr ⟨(Or.inl t339.2.1), (List.forall_mem_cons.mpr ⟨(Or.inl t342.2.1), (fun _ h => absurd h List.not_mem_nil)⟩)⟩) (fun La345 s346 hX347 hf => ?_)
  have t348 := (sg_O_sx t342 t339 (by decide)).X hX347
  have t349 := (sg_O_sealed t339).X hX347
  have hst350 := (sg_St_sx hst343 t339 ⟨by decide, by decide, by decide⟩).X hX347
  have hX351 := (sg_X_sx (hX344) hn341).tr hX347
  obtain ⟨s352, e353⟩ : ∃ z : sg_M, z = sg_up s346 o 12 o335 := ⟨_, rfl⟩
  have hf := hf s352 e353
  refine gw_put5F F t348 (by decide) rfl sg_lay_RX11 (j := 12) (by decide) (D0 := tyX11 12) (fun _ => ⟨rfl, rfl⟩) t349.1 t349.2.1 e353 tyX11_ok nmX11 rfl hin rfl (tyX11_ok 12 (by decide)) rfl (host := "") kw_338 dX11_init_172 ?_
  refine gw_aload_n F 0 rfl rfl t348.1 dX11_init_175 ?_
  refine gy_new F (kd := 24) (T := TX4) (by decide) rfl sg_lay_RX4 tyX4_ok kw_316 kw_191 kw_97 ns_X4 nf_X4 nr_X4 (by decide) (by decide) (List.forall_mem_cons.mpr ⟨(Or.inl t348.2.1), (fun _ h => absurd h List.not_mem_nil)⟩) (List.forall_mem_cons.mpr ⟨(Or.inl t348.2.1), (fun _ h => absurd h List.not_mem_nil)⟩) dX11_init_176 (fun q354 La355 s356 o357 e358 e359 e360 t361 hX362 => ?_)
  have hf := hf q354 La355 e358 s356 e359 o357 e360
  have hn363 : La.1 ≤ o357.toNat := by rw [e360, Int.toNat_natCast]; exact (hX351 : sg_X La La345).1
  have t364 := t348.X hX362
  have hst365 := hst350.X hX362
  have hX366 := sg_X.tr (hX351) hX362
  refine gw_dup F rfl dX11_init_179 ?_
  refine gw_bipush F rfl dX11_init_180 ?_
  refine gk_BV F (gc_I F (S := [sg_r o357, sg_r o]) (As := [sg_i 40]) (CX4_init t361 (by decide) hf) t361.1 kw_194 kw_97 kw_317 kw_193 rfl hcX4_init ⟨by decide, by decide⟩ rfl rfl (Nat.le_of_ble_eq_true rfl) ⟨by decide, by decide⟩ dX11_init_182) (List.forall_mem_cons.mpr ⟨(Or.inl t364.2.1), (fun _ h => absurd h List.not_mem_nil)⟩) (List.forall_mem_cons.mpr ⟨(Or.inl t361.2.1), (List.forall_mem_cons.mpr ⟨(Or.inl t364.2.1), (fun _ h => absurd h List.not_mem_nil)⟩)⟩) (fun La367 s368 hX369 hf => ?_)
  have t370 := (sg_O_sx t364 t361 (by decide)).X hX369
  have t371 := (sg_O_sealed t361).X hX369
  have hst372 := (sg_St_sx hst365 t361 ⟨by decide, by decide, by decide⟩).X hX369
  have hX373 := (sg_X_sx (hX366) hn363).tr hX369
  obtain ⟨s374, e375⟩ : ∃ z : sg_M, z = sg_up s368 o 13 o357 := ⟨_, rfl⟩
  have hf := hf s374 e375
  refine gw_put5F F t370 (by decide) rfl sg_lay_RX11 (j := 13) (by decide) (D0 := tyX11 13) (fun _ => ⟨rfl, rfl⟩) t371.1 t371.2.1 e375 tyX11_ok nmX11 rfl hin rfl (tyX11_ok 13 (by decide)) rfl (host := "") kw_339 dX11_init_185 ?_
  refine gw_aload_n F 0 rfl rfl t370.1 dX11_init_188 ?_
  refine gy_new F (kd := 24) (T := TX4) (by decide) rfl sg_lay_RX4 tyX4_ok kw_316 kw_191 kw_97 ns_X4 nf_X4 nr_X4 (by decide) (by decide) (List.forall_mem_cons.mpr ⟨(Or.inl t370.2.1), (fun _ h => absurd h List.not_mem_nil)⟩) (List.forall_mem_cons.mpr ⟨(Or.inl t370.2.1), (fun _ h => absurd h List.not_mem_nil)⟩) dX11_init_189 (fun q376 La377 s378 o379 e380 e381 e382 t383 hX384 => ?_)
  have hf := hf q376 La377 e380 s378 e381 o379 e382
  have hn385 : La.1 ≤ o379.toNat := by rw [e382, Int.toNat_natCast]; exact (hX373 : sg_X La La367).1
  have t386 := t370.X hX384
  have hst387 := hst372.X hX384
  have hX388 := sg_X.tr (hX373) hX384
  refine gw_dup F rfl dX11_init_192 ?_
  refine gw_bipush F rfl dX11_init_193 ?_
  refine gk_BV F (gc_I F (S := [sg_r o379, sg_r o]) (As := [sg_i 40]) (CX4_init t383 (by decide) hf) t383.1 kw_194 kw_97 kw_317 kw_193 rfl hcX4_init ⟨by decide, by decide⟩ rfl rfl (Nat.le_of_ble_eq_true rfl) ⟨by decide, by decide⟩ dX11_init_195) (List.forall_mem_cons.mpr ⟨(Or.inl t386.2.1), (fun _ h => absurd h List.not_mem_nil)⟩) (List.forall_mem_cons.mpr ⟨(Or.inl t383.2.1), (List.forall_mem_cons.mpr ⟨(Or.inl t386.2.1), (fun _ h => absurd h List.not_mem_nil)⟩)⟩) (fun La389 s390 hX391 hf => ?_)
  have t392 := (sg_O_sx t386 t383 (by decide)).X hX391
  have t393 := (sg_O_sealed t383).X hX391
  have hst394 := (sg_St_sx hst387 t383 ⟨by decide, by decide, by decide⟩).X hX391
  have hX395 := (sg_X_sx (hX388) hn385).tr hX391
  obtain ⟨s396, e397⟩ : ∃ z : sg_M, z = sg_up s390 o 14 o379 := ⟨_, rfl⟩
  have hf := hf s396 e397
  refine gw_put5F F t392 (by decide) rfl sg_lay_RX11 (j := 14) (by decide) (D0 := tyX11 14) (fun _ => ⟨rfl, rfl⟩) t393.1 t393.2.1 e397 tyX11_ok nmX11 rfl hin rfl (tyX11_ok 14 (by decide)) rfl (host := "") kw_340 dX11_init_198 ?_
  refine gw_aload_n F 0 rfl rfl t392.1 dX11_init_201 ?_
  refine gy_new F (kd := 24) (T := TX4) (by decide) rfl sg_lay_RX4 tyX4_ok kw_316 kw_191 kw_97 ns_X4 nf_X4 nr_X4 (by decide) (by decide) (List.forall_mem_cons.mpr ⟨(Or.inl t392.2.1), (fun _ h => absurd h List.not_mem_nil)⟩) (List.forall_mem_cons.mpr ⟨(Or.inl t392.2.1), (fun _ h => absurd h List.not_mem_nil)⟩) dX11_init_202 (fun q398 La399 s400 o401 e402 e403 e404 t405 hX406 => ?_)
  have hf := hf q398 La399 e402 s400 e403 o401 e404
  have hn407 : La.1 ≤ o401.toNat := by rw [e404, Int.toNat_natCast]; exact (hX395 : sg_X La La389).1
  have t408 := t392.X hX406
  have hst409 := hst394.X hX406
  have hX410 := sg_X.tr (hX395) hX406
  refine gw_dup F rfl dX11_init_205 ?_
  refine gw_sipush F rfl dX11_init_206 ?_
  refine gk_BV F (gc_I F (S := [sg_r o401, sg_r o]) (As := [sg_i 200]) (CX4_init t405 (by decide) hf) t405.1 kw_194 kw_97 kw_317 kw_193 rfl hcX4_init ⟨by decide, by decide⟩ rfl rfl (Nat.le_of_ble_eq_true rfl) ⟨by decide, by decide⟩ dX11_init_209) (List.forall_mem_cons.mpr ⟨(Or.inl t408.2.1), (fun _ h => absurd h List.not_mem_nil)⟩) (List.forall_mem_cons.mpr ⟨(Or.inl t405.2.1), (List.forall_mem_cons.mpr ⟨(Or.inl t408.2.1), (fun _ h => absurd h List.not_mem_nil)⟩)⟩) (fun La411 s412 hX413 hf => ?_)
  have t414 := (sg_O_sx t408 t405 (by decide)).X hX413
  have t415 := (sg_O_sealed t405).X hX413
  have hst416 := (sg_St_sx hst409 t405 ⟨by decide, by decide, by decide⟩).X hX413
  have hX417 := (sg_X_sx (hX410) hn407).tr hX413
  obtain ⟨s418, e419⟩ : ∃ z : sg_M, z = sg_up s412 o 15 o401 := ⟨_, rfl⟩
  have hf := hf s418 e419
  refine gw_put5F F t414 (by decide) rfl sg_lay_RX11 (j := 15) (by decide) (D0 := tyX11 15) (fun _ => ⟨rfl, rfl⟩) t415.1 t415.2.1 e419 tyX11_ok nmX11 rfl hin rfl (tyX11_ok 15 (by decide)) rfl (host := "") kw_341 dX11_init_212 ?_
  refine gw_aload_n F 0 rfl rfl t414.1 dX11_init_215 ?_
  refine gw_iconst F dX11_init_216 ?_
  obtain ⟨s420, e421⟩ : ∃ z : sg_M, z = sg_up s418 o 16 0 := ⟨_, rfl⟩
  have hf := hf s420 e421
  refine gw_put0 F t414 (by decide) rfl sg_lay_RX11 (j := 16) (by decide) (by decide) e421 tyX11_ok nmX11 rfl (tyX11_ok 16 (by decide)) rfl (host := "") (.inl kw_342) dX11_init_217 ?_
  refine gw_aload_n F 0 rfl rfl t414.1 dX11_init_220 ?_
  refine gw_iconst F dX11_init_221 ?_
  obtain ⟨s422, e423⟩ : ∃ z : sg_M, z = sg_up s420 o 17 0 := ⟨_, rfl⟩
  have hf := hf s422 e423
  refine gw_put0 F t414 (by decide) rfl sg_lay_RX11 (j := 17) (by decide) (by decide) e423 tyX11_ok nmX11 rfl (tyX11_ok 17 (by decide)) rfl (host := "") (.inl kw_343) dX11_init_222 ?_
  refine gw_aload_n F 0 rfl rfl t414.1 dX11_init_225 ?_
  refine gw_iconst F dX11_init_226 ?_
  obtain ⟨s424, e425⟩ : ∃ z : sg_M, z = sg_up s422 o 18 (-1) := ⟨_, rfl⟩
  have hf := hf s424 e425
  refine gw_put0 F t414 (by decide) rfl sg_lay_RX11 (j := 18) (by decide) (by decide) e425 tyX11_ok nmX11 rfl (tyX11_ok 18 (by decide)) rfl (host := "") (.inl kw_344) dX11_init_227 ?_
  refine gw_aload_n F 0 rfl rfl t414.1 dX11_init_230 ?_
  refine gw_get5 F t414 (by decide) rfl sg_lay_RX11 (j := 2) (by decide) rfl (host := "") (.inl kw_328) dX11_init_231 (fun h426 => ?_)
  obtain ⟨g427, hf⟩ := hf
  refine gw_get4 F g427 (by decide) rfl sg_lay_RX7 (j := 0) (by decide) rfl (.inr kw_234) dX11_init_234 (fun h428 => ?_)
  refine gw_iconst F dX11_init_237 ?_
  refine gw_bipush F rfl dX11_init_238 ?_
  refine gw_iconst F dX11_init_240 ?_
  refine gw_iconst F dX11_init_241 ?_
  refine gw_iconst F dX11_init_242 ?_
  obtain ⟨g429, hf⟩ := hf
  have t430 := sg_nn h428 g429
  refine gk_HV F (gc_V F (S := []) (As := [sg_i 3, sg_i 30, sg_i 5, sg_i 0, sg_i 0]) (T := TX1) (N := 7) (CX1_addAlike t430 (by decide) (by decide) (by decide) (by decide) (by decide) hf) t430 (by decide) rfl kw_321 kw_94 kw_318 kw_319 kw_320 hcX1_addAlike ⟨by decide, by decide⟩ rfl rfl (Nat.le_of_ble_eq_true rfl) ⟨by decide, by decide⟩ dX11_init_243) (fun s431 hf => ?_)
  refine gw_aload_n F 0 rfl rfl t414.1 dX11_init_246 ?_
  refine gw_get5 F t414 (by decide) rfl sg_lay_RX11 (j := 2) (by decide) rfl (host := "") (.inl kw_328) dX11_init_247 (fun h432 => ?_)
  obtain ⟨g433, hf⟩ := hf
  refine gw_get4 F g433 (by decide) rfl sg_lay_RX7 (j := 0) (by decide) rfl (.inr kw_234) dX11_init_250 (fun h434 => ?_)
  obtain ⟨g435, hf⟩ := hf
  have t436 := sg_nn h434 g435
  refine gk_HV F (gc_V F (S := []) (As := []) (T := TX1) (N := 7) (CX1_fillUntold t436 hf) t436 (by decide) rfl kw_325 kw_94 kw_322 kw_323 kw_324 hcX1_fillUntold ⟨by decide, by decide⟩ rfl rfl (Nat.le_of_ble_eq_true rfl) ⟨by decide, by decide⟩ dX11_init_253) (fun s437 hf => ?_)
  obtain ⟨g439, hf⟩ := hf
  obtain ⟨La438, e440⟩ : ∃ z : sg_L, z = sg_se La411 o.toNat 11 := ⟨_, rfl⟩
  have hf := hf La438 e440
  refine gw_seal t414 ⟨by decide, by decide, by decide⟩ (by decide) (by decide) g439.1 g439.2 ?_
  rw [← e440]
  exact gr_BC F (o := o.toNat) (kd := 11) hf (by rw [e440]; exact sg_X.both hX417) (by decide) (by decide) dX11_init_256

theorem dX11_run_0 : decode cX11_run 0 = .ok (.aload_n 0, 1) := by decide +kernel
theorem dX11_run_1 : decode cX11_run 1 = .ok (.getfield 61, 3) := by decide +kernel
theorem dX11_run_4 : decode cX11_run 4 = .ok (.getfield 189, 3) := by decide +kernel
theorem dX11_run_7 : decode cX11_run 7 = .ok (.ifCond .ne 5, 3) := by decide +kernel
theorem dX11_run_10 : decode cX11_run 10 = .ok (.iconst (-1), 1) := by decide +kernel
theorem dX11_run_11 : decode cX11_run 11 = .ok (.ireturn, 1) := by decide +kernel
theorem dX11_run_12 : decode cX11_run 12 = .ok (.iload_n 1, 1) := by decide +kernel
theorem dX11_run_13 : decode cX11_run 13 = .ok (.tableswitch 91 0 4 #[35, 43, 51, 67, 83], 35) := by decide +kernel
theorem dX11_run_48 : decode cX11_run 48 = .ok (.aload_n 0, 1) := by decide +kernel
theorem dX11_run_49 : decode cX11_run 49 = .ok (.getfield 61, 3) := by decide +kernel
theorem dX11_run_52 : decode cX11_run 52 = .ok (.getfield 192, 3) := by decide +kernel
theorem dX11_run_55 : decode cX11_run 55 = .ok (.ireturn, 1) := by decide +kernel
theorem dX11_run_56 : decode cX11_run 56 = .ok (.aload_n 0, 1) := by decide +kernel
theorem dX11_run_57 : decode cX11_run 57 = .ok (.getfield 61, 3) := by decide +kernel
theorem dX11_run_60 : decode cX11_run 60 = .ok (.getfield 195, 3) := by decide +kernel
theorem dX11_run_63 : decode cX11_run 63 = .ok (.ireturn, 1) := by decide +kernel
theorem dX11_run_64 : decode cX11_run 64 = .ok (.aload_n 0, 1) := by decide +kernel
theorem dX11_run_65 : decode cX11_run 65 = .ok (.getfield 61, 3) := by decide +kernel
theorem dX11_run_68 : decode cX11_run 68 = .ok (.getfield 198, 3) := by decide +kernel
theorem dX11_run_71 : decode cX11_run 71 = .ok (.ifCond .eq 7, 3) := by decide +kernel
theorem dX11_run_74 : decode cX11_run 74 = .ok (.iconst 1, 1) := by decide +kernel
theorem dX11_run_75 : decode cX11_run 75 = .ok (.goto 4, 3) := by decide +kernel
theorem dX11_run_78 : decode cX11_run 78 = .ok (.iconst 0, 1) := by decide +kernel
theorem dX11_run_79 : decode cX11_run 79 = .ok (.ireturn, 1) := by decide +kernel
theorem dX11_run_80 : decode cX11_run 80 = .ok (.aload_n 0, 1) := by decide +kernel
theorem dX11_run_81 : decode cX11_run 81 = .ok (.getfield 61, 3) := by decide +kernel
theorem dX11_run_84 : decode cX11_run 84 = .ok (.getfield 202, 3) := by decide +kernel
theorem dX11_run_87 : decode cX11_run 87 = .ok (.ifCond .eq 7, 3) := by decide +kernel
theorem dX11_run_90 : decode cX11_run 90 = .ok (.iconst 1, 1) := by decide +kernel
theorem dX11_run_91 : decode cX11_run 91 = .ok (.goto 4, 3) := by decide +kernel
theorem dX11_run_94 : decode cX11_run 94 = .ok (.iconst 0, 1) := by decide +kernel
theorem dX11_run_95 : decode cX11_run 95 = .ok (.ireturn, 1) := by decide +kernel
theorem dX11_run_96 : decode cX11_run 96 = .ok (.aload_n 0, 1) := by decide +kernel
theorem dX11_run_97 : decode cX11_run 97 = .ok (.getfield 61, 3) := by decide +kernel
theorem dX11_run_100 : decode cX11_run 100 = .ok (.getfield 205, 3) := by decide +kernel
theorem dX11_run_103 : decode cX11_run 103 = .ok (.ireturn, 1) := by decide +kernel
theorem dX11_run_104 : decode cX11_run 104 = .ok (.iconst (-1), 1) := by decide +kernel
theorem dX11_run_105 : decode cX11_run 105 = .ok (.ireturn, 1) := by decide +kernel
theorem hcX11_run : yX11_run.cls ≠ "java/lang/invoke/MethodHandle" ∧ yX11_run.cls ≠ "java/lang/invoke/VarHandle" ∧ (parseMethodDescriptor yX11_run.desc).map (fun d => d.parameters.length) = some 1 := ⟨by decide +kernel, by decide +kernel, by decide +kernel⟩
def fX11_run (s0 : sg_M) (x1 : Int) (Q : Int → Prop) : Prop := (((s0 37 1) ≠ 0 → ((x1 < 0 ∨ 4 < x1 → Q (-1)) ∧ (x1 = 0 → Q (s0 37 2)) ∧ (x1 = 1 → Q (s0 37 3)) ∧ (x1 = 2 → (((s0 37 5) = 0 → Q 0) ∧ (¬ ((s0 37 5) = 0) → Q 1))) ∧ (x1 = 3 → (((s0 37 6) = 0 → Q 0) ∧ (¬ ((s0 37 6) = 0) → Q 1))) ∧ (x1 = 4 → Q (s0 37 4)))) ∧ ((s0 37 1) = 0 → Q (-1)))
set_option maxHeartbeats 4000000 in
set_option maxRecDepth 100000 in
theorem CX11_run {l : Launch} {G : sg_G} {La : sg_L} {s0 : sg_M} (hst : sg_St La) {x1 : Int} (r1 : sg_R x1) {Q : Int → Prop} (hf : fX11_run s0 x1 Q) : sg_C l G yX11_run cX11_run 2 (some .int) 1 0 0 La s0 [sg_r 0, sg_i x1] (sg_PI La s0 Q) := by
  refine sg_body (by decide +kernel) (Nat.le_of_ble_eq_true rfl) ?_
  intro p e s m args below meth c F hnm
  unfold fX11_run at hf
  show sg_W p l e (sg_rm 1 0 0) s m args below meth c (MQ below (sg_Q (some .int) G La s.heap.size (sg_PI La s0 Q)) args s 0 0 (sg_A La s.heap.size)) 2 G (sg_A La s.heap.size) La s0 0 0 0 [(0, sg_r 0), (1, sg_i x1)] []
  refine gw_aload_n F 0 rfl rfl (by decide) dX11_run_0 ?_
  refine gw_get7 F (so_0 hst) (by decide) rfl sg_lay_RX11 (j := 6) (by decide) (o1 := 37) (by first | rfl | omega) rfl (host := "") (.inl kw_332) dX11_run_1 (fun h1 => ?_)
  refine gw_get0 F (so_37 hst) (by decide) rfl sg_lay_RX10 (j := 1) (by decide) rfl (.inr kw_288) dX11_run_4 (fun h2 => ?_)
  refine gw_if_ne F (tgt := 12) dX11_run_7 (by decide) h2 (fun c3 => ?_) (fun c3 => ?_)
  · have hf := hf.1 c3
    refine gw_iload_n F 1 rfl rfl dX11_run_12 ?_
    refine gw_switch F dX11_run_13 r1 (td := 104) (by decide) (fun c4 => ?_) (fun i hi1 hi2 => ?_)
    · have hf := hf.1 c4
      refine gw_iconst F dX11_run_104 ?_
      exact gr_PI F (by decide) hf (by decide) (by decide) dX11_run_105
    · rcases (show i = 0 ∨ i = 1 ∨ i = 2 ∨ i = 3 ∨ i = 4 by omega) with rfl | rfl | rfl | rfl | rfl
      · have hf := hf.2.1 (by omega)
        refine ⟨35, 48, rfl, by decide, ?_⟩
        refine gw_aload_n F 0 rfl rfl (by decide) dX11_run_48 ?_
        refine gw_get7 F (so_0 hst) (by decide) rfl sg_lay_RX11 (j := 6) (by decide) (o1 := 37) (by first | rfl | omega) rfl (host := "") (.inl kw_332) dX11_run_49 (fun h5 => ?_)
        refine gw_get0 F (so_37 hst) (by decide) rfl sg_lay_RX10 (j := 2) (by decide) rfl (.inr kw_291) dX11_run_52 (fun h6 => ?_)
        exact gr_PI F h6 hf (by decide) (by decide) dX11_run_55
      · have hf := hf.2.2.1 (by omega)
        refine ⟨43, 56, rfl, by decide, ?_⟩
        refine gw_aload_n F 0 rfl rfl (by decide) dX11_run_56 ?_
        refine gw_get7 F (so_0 hst) (by decide) rfl sg_lay_RX11 (j := 6) (by decide) (o1 := 37) (by first | rfl | omega) rfl (host := "") (.inl kw_332) dX11_run_57 (fun h7 => ?_)
        refine gw_get0 F (so_37 hst) (by decide) rfl sg_lay_RX10 (j := 3) (by decide) rfl (.inr kw_294) dX11_run_60 (fun h8 => ?_)
        exact gr_PI F h8 hf (by decide) (by decide) dX11_run_63
      · have hf := hf.2.2.2.1 (by omega)
        refine ⟨51, 64, rfl, by decide, ?_⟩
        refine gw_aload_n F 0 rfl rfl (by decide) dX11_run_64 ?_
        refine gw_get7 F (so_0 hst) (by decide) rfl sg_lay_RX11 (j := 6) (by decide) (o1 := 37) (by first | rfl | omega) rfl (host := "") (.inl kw_332) dX11_run_65 (fun h9 => ?_)
        refine gw_get1 F (so_37 hst) (by decide) rfl sg_lay_RX10 (j := 5) (by decide) rfl (.inr kw_300) dX11_run_68 (fun h10 => ?_)
        refine gw_if_eq F (tgt := 78) dX11_run_71 (by decide) (sg_B_R h10) (fun c11 => ?_) (fun c11 => ?_)
        · have hf := hf.1 c11
          refine gw_iconst F dX11_run_78 ?_
          exact gr_PI F (by decide) hf (by decide) (by decide) dX11_run_79
        · have hf := hf.2 c11
          refine gw_iconst F dX11_run_74 ?_
          refine gw_goto F (tgt := 79) dX11_run_75 (by decide) ?_
          exact gr_PI F (by decide) hf (by decide) (by decide) dX11_run_79
      · have hf := hf.2.2.2.2.1 (by omega)
        refine ⟨67, 80, rfl, by decide, ?_⟩
        refine gw_aload_n F 0 rfl rfl (by decide) dX11_run_80 ?_
        refine gw_get7 F (so_0 hst) (by decide) rfl sg_lay_RX11 (j := 6) (by decide) (o1 := 37) (by first | rfl | omega) rfl (host := "") (.inl kw_332) dX11_run_81 (fun h12 => ?_)
        refine gw_get1 F (so_37 hst) (by decide) rfl sg_lay_RX10 (j := 6) (by decide) rfl (.inr kw_303) dX11_run_84 (fun h13 => ?_)
        refine gw_if_eq F (tgt := 94) dX11_run_87 (by decide) (sg_B_R h13) (fun c14 => ?_) (fun c14 => ?_)
        · have hf := hf.1 c14
          refine gw_iconst F dX11_run_94 ?_
          exact gr_PI F (by decide) hf (by decide) (by decide) dX11_run_95
        · have hf := hf.2 c14
          refine gw_iconst F dX11_run_90 ?_
          refine gw_goto F (tgt := 95) dX11_run_91 (by decide) ?_
          exact gr_PI F (by decide) hf (by decide) (by decide) dX11_run_95
      · have hf := hf.2.2.2.2.2 (by omega)
        refine ⟨83, 96, rfl, by decide, ?_⟩
        refine gw_aload_n F 0 rfl rfl (by decide) dX11_run_96 ?_
        refine gw_get7 F (so_0 hst) (by decide) rfl sg_lay_RX11 (j := 6) (by decide) (o1 := 37) (by first | rfl | omega) rfl (host := "") (.inl kw_332) dX11_run_97 (fun h15 => ?_)
        refine gw_get0 F (so_37 hst) (by decide) rfl sg_lay_RX10 (j := 4) (by decide) rfl (.inr kw_297) dX11_run_100 (fun h16 => ?_)
        exact gr_PI F h16 hf (by decide) (by decide) dX11_run_103
  · have hf := hf.2 c3
    refine gw_iconst F dX11_run_10 ?_
    exact gr_PI F (by decide) hf (by decide) (by decide) dX11_run_11

theorem dX5_addStep_0 : decode cX5_addStep 0 = .ok (.aload_n 0, 1) := by decide +kernel
theorem dX5_addStep_1 : decode cX5_addStep 1 = .ok (.getfield 16, 3) := by decide +kernel
theorem dX5_addStep_4 : decode cX5_addStep 4 = .ok (.iload_n 1, 1) := by decide +kernel
theorem dX5_addStep_5 : decode cX5_addStep 5 = .ok (.invokevirtual 109, 3) := by decide +kernel
theorem dX5_addStep_8 : decode cX5_addStep 8 = .ok (.aload_n 0, 1) := by decide +kernel
theorem dX5_addStep_9 : decode cX5_addStep 9 = .ok (.getfield 20, 3) := by decide +kernel
theorem dX5_addStep_12 : decode cX5_addStep 12 = .ok (.iload_n 2, 1) := by decide +kernel
theorem dX5_addStep_13 : decode cX5_addStep 13 = .ok (.invokevirtual 109, 3) := by decide +kernel
theorem dX5_addStep_16 : decode cX5_addStep 16 = .ok (.aload_n 0, 1) := by decide +kernel
theorem dX5_addStep_17 : decode cX5_addStep 17 = .ok (.getfield 23, 3) := by decide +kernel
theorem dX5_addStep_20 : decode cX5_addStep 20 = .ok (.iload_n 3, 1) := by decide +kernel
theorem dX5_addStep_21 : decode cX5_addStep 21 = .ok (.invokevirtual 109, 3) := by decide +kernel
theorem dX5_addStep_24 : decode cX5_addStep 24 = .ok (.return_, 1) := by decide +kernel
theorem hcX5_addStep : yX5_addStep.cls ≠ "java/lang/invoke/MethodHandle" ∧ yX5_addStep.cls ≠ "java/lang/invoke/VarHandle" ∧ (parseMethodDescriptor yX5_addStep.desc).map (fun d => d.parameters.length) = some 3 := ⟨by decide +kernel, by decide +kernel, by decide +kernel⟩
def fX5_addStep (La : sg_L) (s0 : sg_M) (o : Int) (x1 : Int) (x2 : Int) (x3 : Int) (Q : sg_M → Prop) : Prop := fX4_add La s0 (o + 1) x1 (fun s2 => fX4_add La s2 (o + 3) x2 (fun s4 => fX4_add La s4 (o + 5) x3 (fun s6 => Q s6)))
set_option maxHeartbeats 4000000 in
set_option maxRecDepth 100000 in
theorem CX5_addStep {l : Launch} {G : sg_G} {La : sg_L} {s0 : sg_M} {o : Int} (to : sg_O La o 5) {x1 : Int} (r1 : sg_R x1) {x2 : Int} (r2 : sg_R x2) {x3 : Int} (r3 : sg_R x3) {Q : sg_M → Prop} (hf : fX5_addStep La s0 o x1 x2 x3 Q) : sg_C l G yX5_addStep cX5_addStep 4 (none) 2 0 0 La s0 [sg_r o, sg_i x1, sg_i x2, sg_i x3] (sg_HV La Q) := by
  refine sg_body (by decide +kernel) (Nat.le_of_ble_eq_true rfl) ?_
  intro p e s m args below meth c F hnm
  unfold fX5_addStep at hf
  show sg_W p l e (sg_rm 2 0 0) s m args below meth c (MQ below (sg_Q (none) G La s.heap.size (sg_HV La Q)) args s 0 0 (sg_A La s.heap.size)) 4 G (sg_A La s.heap.size) La s0 0 0 0 [(0, sg_r o), (1, sg_i x1), (2, sg_i x2), (3, sg_i x3)] []
  refine gw_aload_n F 0 rfl rfl to.1 dX5_addStep_0 ?_
  refine gw_get3 F to (by decide) rfl sg_lay_RX5 (j := 0) (by decide) (o1 := (o + 1)) (by first | rfl | omega) rfl (host := "") (.inl kw_207) dX5_addStep_1 (fun h1 => ?_)
  refine gw_iload_n F 1 rfl rfl dX5_addStep_4 ?_
  refine gk_HV F (gc_V F (S := []) (As := [sg_i x1]) (T := TX4) (N := 3) (CX4_add (sg_O_of h1 (by decide)) r1 hf) (sg_O_of h1 (by decide)) (by decide) rfl kw_538 kw_97 kw_819 kw_536 kw_537 hcX4_add ⟨by decide, by decide⟩ rfl rfl (Nat.le_of_ble_eq_true rfl) ⟨by decide, by decide⟩ dX5_addStep_5) (fun s2 hf => ?_)
  refine gw_aload_n F 0 rfl rfl to.1 dX5_addStep_8 ?_
  refine gw_get3 F to (by decide) rfl sg_lay_RX5 (j := 1) (by decide) (o1 := (o + 3)) (by first | rfl | omega) rfl (host := "") (.inl kw_208) dX5_addStep_9 (fun h3 => ?_)
  refine gw_iload_n F 2 rfl rfl dX5_addStep_12 ?_
  refine gk_HV F (gc_V F (S := []) (As := [sg_i x2]) (T := TX4) (N := 3) (CX4_add (sg_O_of h3 (by decide)) r2 hf) (sg_O_of h3 (by decide)) (by decide) rfl kw_538 kw_97 kw_819 kw_536 kw_537 hcX4_add ⟨by decide, by decide⟩ rfl rfl (Nat.le_of_ble_eq_true rfl) ⟨by decide, by decide⟩ dX5_addStep_13) (fun s4 hf => ?_)
  refine gw_aload_n F 0 rfl rfl to.1 dX5_addStep_16 ?_
  refine gw_get3 F to (by decide) rfl sg_lay_RX5 (j := 2) (by decide) (o1 := (o + 5)) (by first | rfl | omega) rfl (host := "") (.inl kw_209) dX5_addStep_17 (fun h5 => ?_)
  refine gw_iload_n F 3 rfl rfl dX5_addStep_20 ?_
  refine gk_HV F (gc_V F (S := []) (As := [sg_i x3]) (T := TX4) (N := 3) (CX4_add (sg_O_of h5 (by decide)) r3 hf) (sg_O_of h5 (by decide)) (by decide) rfl kw_538 kw_97 kw_819 kw_536 kw_537 hcX4_add ⟨by decide, by decide⟩ rfl rfl (Nat.le_of_ble_eq_true rfl) ⟨by decide, by decide⟩ dX5_addStep_21) (fun s6 hf => ?_)
  exact gr_HV F hf (by decide) (by decide) dX5_addStep_24

theorem dX11_readAt_0 : decode cX11_readAt 0 = .ok (.aload_n 0, 1) := by decide +kernel
theorem dX11_readAt_1 : decode cX11_readAt 1 = .ok (.getfield 83, 3) := by decide +kernel
theorem dX11_readAt_4 : decode cX11_readAt 4 = .ok (.iload_n 1, 1) := by decide +kernel
theorem dX11_readAt_5 : decode cX11_readAt 5 = .ok (.invokevirtual 182, 3) := by decide +kernel
theorem dX11_readAt_8 : decode cX11_readAt 8 = .ok (.ireturn, 1) := by decide +kernel
theorem hcX11_readAt : yX11_readAt.cls ≠ "java/lang/invoke/MethodHandle" ∧ yX11_readAt.cls ≠ "java/lang/invoke/VarHandle" ∧ (parseMethodDescriptor yX11_readAt.desc).map (fun d => d.parameters.length) = some 1 := ⟨by decide +kernel, by decide +kernel, by decide +kernel⟩
def fX11_readAt (La : sg_L) (s0 : sg_M) (x1 : Int) (Q : Int → Prop) : Prop := fX4_at La s0 52 x1 (fun u2 => Q u2)
set_option maxHeartbeats 4000000 in
set_option maxRecDepth 100000 in
theorem CX11_readAt {l : Launch} {G : sg_G} {La : sg_L} {s0 : sg_M} (hst : sg_St La) {x1 : Int} (r1 : sg_R x1) {Q : Int → Prop} (hf : fX11_readAt La s0 x1 Q) : sg_C l G yX11_readAt cX11_readAt 2 (some .int) 2 0 0 La s0 [sg_r 0, sg_i x1] (sg_PI La s0 Q) := by
  refine sg_body (by decide +kernel) (Nat.le_of_ble_eq_true rfl) ?_
  intro p e s m args below meth c F hnm
  unfold fX11_readAt at hf
  show sg_W p l e (sg_rm 2 0 0) s m args below meth c (MQ below (sg_Q (some .int) G La s.heap.size (sg_PI La s0 Q)) args s 0 0 (sg_A La s.heap.size)) 2 G (sg_A La s.heap.size) La s0 0 0 0 [(0, sg_r 0), (1, sg_i x1)] []
  refine gw_aload_n F 0 rfl rfl (by decide) dX11_readAt_0 ?_
  refine gw_get7 F (so_0 hst) (by decide) rfl sg_lay_RX11 (j := 10) (by decide) (o1 := 52) (by first | rfl | omega) rfl (host := "") (.inl kw_336) dX11_readAt_1 (fun h1 => ?_)
  refine gw_iload_n F 1 rfl rfl dX11_readAt_4 ?_
  refine gk_PI F (gc_V F (S := []) (As := [sg_i x1]) (T := TX4) (N := 3) (CX4_at (so_52 hst) r1 hf) (so_52 hst) (by decide) rfl kw_546 kw_97 kw_543 kw_544 kw_545 hcX4_at ⟨by decide, by decide⟩ rfl rfl (Nat.le_of_ble_eq_true rfl) ⟨by decide, by decide⟩ dX11_readAt_5) (fun u2 h3 hf => ?_)
  exact gr_PI F h3 hf (by decide) (by decide) dX11_readAt_8

theorem dX11_form_0 : decode cX11_form 0 = .ok (.iload_n 1, 1) := by decide +kernel
theorem dX11_form_1 : decode cX11_form 1 = .ok (.iconst 1, 1) := by decide +kernel
theorem dX11_form_2 : decode cX11_form 2 = .ok (.if_icmp .lt 34, 3) := by decide +kernel
theorem dX11_form_5 : decode cX11_form 5 = .ok (.iload_n 2, 1) := by decide +kernel
theorem dX11_form_6 : decode cX11_form 6 = .ok (.bipush 20, 2) := by decide +kernel
theorem dX11_form_8 : decode cX11_form 8 = .ok (.if_icmp .gt 28, 3) := by decide +kernel
theorem dX11_form_11 : decode cX11_form 11 = .ok (.iload_n 1, 1) := by decide +kernel
theorem dX11_form_12 : decode cX11_form 12 = .ok (.iload_n 2, 1) := by decide +kernel
theorem dX11_form_13 : decode cX11_form 13 = .ok (.if_icmp .gt 23, 3) := by decide +kernel
theorem dX11_form_16 : decode cX11_form 16 = .ok (.iload_n 2, 1) := by decide +kernel
theorem dX11_form_17 : decode cX11_form 17 = .ok (.iload_n 1, 1) := by decide +kernel
theorem dX11_form_18 : decode cX11_form 18 = .ok (.isub, 1) := by decide +kernel
theorem dX11_form_19 : decode cX11_form 19 = .ok (.iconst 5, 1) := by decide +kernel
theorem dX11_form_20 : decode cX11_form 20 = .ok (.if_icmp .gt 16, 3) := by decide +kernel
theorem dX11_form_23 : decode cX11_form 23 = .ok (.aload_n 0, 1) := by decide +kernel
theorem dX11_form_24 : decode cX11_form 24 = .ok (.getfield 39, 3) := by decide +kernel
theorem dX11_form_27 : decode cX11_form 27 = .ok (.getfield 237, 3) := by decide +kernel
theorem dX11_form_30 : decode cX11_form 30 = .ok (.getfield 241, 3) := by decide +kernel
theorem dX11_form_33 : decode cX11_form 33 = .ok (.ifCond .ne 6, 3) := by decide +kernel
theorem dX11_form_36 : decode cX11_form 36 = .ok (.bipush (-2), 2) := by decide +kernel
theorem dX11_form_38 : decode cX11_form 38 = .ok (.ireturn, 1) := by decide +kernel
theorem dX11_form_39 : decode cX11_form 39 = .ok (.aload_n 0, 1) := by decide +kernel
theorem dX11_form_40 : decode cX11_form 40 = .ok (.getfield 47, 3) := by decide +kernel
theorem dX11_form_43 : decode cX11_form 43 = .ok (.aload_n 0, 1) := by decide +kernel
theorem dX11_form_44 : decode cX11_form 44 = .ok (.getfield 39, 3) := by decide +kernel
theorem dX11_form_47 : decode cX11_form 47 = .ok (.getfield 112, 3) := by decide +kernel
theorem dX11_form_50 : decode cX11_form 50 = .ok (.invokevirtual 312, 3) := by decide +kernel
theorem dX11_form_53 : decode cX11_form 53 = .ok (.iconst (-1), 1) := by decide +kernel
theorem dX11_form_54 : decode cX11_form 54 = .ok (.istore_n 3, 1) := by decide +kernel
theorem dX11_form_55 : decode cX11_form 55 = .ok (.bipush (-2), 2) := by decide +kernel
theorem dX11_form_57 : decode cX11_form 57 = .ok (.istore 4, 2) := by decide +kernel
theorem dX11_form_59 : decode cX11_form 59 = .ok (.iload_n 1, 1) := by decide +kernel
theorem dX11_form_60 : decode cX11_form 60 = .ok (.istore 5, 2) := by decide +kernel
theorem dX11_form_62 : decode cX11_form 62 = .ok (.iload 5, 2) := by decide +kernel
theorem dX11_form_64 : decode cX11_form 64 = .ok (.iload_n 2, 1) := by decide +kernel
theorem dX11_form_65 : decode cX11_form 65 = .ok (.if_icmp .gt 61, 3) := by decide +kernel
theorem dX11_form_68 : decode cX11_form 68 = .ok (.iload_n 1, 1) := by decide +kernel
theorem dX11_form_69 : decode cX11_form 69 = .ok (.istore 6, 2) := by decide +kernel
theorem dX11_form_71 : decode cX11_form 71 = .ok (.iload 6, 2) := by decide +kernel
theorem dX11_form_73 : decode cX11_form 73 = .ok (.iload_n 2, 1) := by decide +kernel
theorem dX11_form_74 : decode cX11_form 74 = .ok (.if_icmp .gt 46, 3) := by decide +kernel
theorem dX11_form_77 : decode cX11_form 77 = .ok (.aload_n 0, 1) := by decide +kernel
theorem dX11_form_78 : decode cX11_form 78 = .ok (.getfield 47, 3) := by decide +kernel
theorem dX11_form_81 : decode cX11_form 81 = .ok (.iload 5, 2) := by decide +kernel
theorem dX11_form_83 : decode cX11_form 83 = .ok (.iload 6, 2) := by decide +kernel
theorem dX11_form_85 : decode cX11_form 85 = .ok (.invokevirtual 316, 3) := by decide +kernel
theorem dX11_form_88 : decode cX11_form 88 = .ok (.aload_n 0, 1) := by decide +kernel
theorem dX11_form_89 : decode cX11_form 89 = .ok (.invokevirtual 319, 3) := by decide +kernel
theorem dX11_form_92 : decode cX11_form 92 = .ok (.istore 7, 2) := by decide +kernel
theorem dX11_form_94 : decode cX11_form 94 = .ok (.iload 7, 2) := by decide +kernel
theorem dX11_form_96 : decode cX11_form 96 = .ok (.iload 4, 2) := by decide +kernel
theorem dX11_form_98 : decode cX11_form 98 = .ok (.if_icmp .le 16, 3) := by decide +kernel
theorem dX11_form_101 : decode cX11_form 101 = .ok (.iload 7, 2) := by decide +kernel
theorem dX11_form_103 : decode cX11_form 103 = .ok (.istore 4, 2) := by decide +kernel
theorem dX11_form_105 : decode cX11_form 105 = .ok (.bipush 100, 2) := by decide +kernel
theorem dX11_form_107 : decode cX11_form 107 = .ok (.iload 5, 2) := by decide +kernel
theorem dX11_form_109 : decode cX11_form 109 = .ok (.imul, 1) := by decide +kernel
theorem dX11_form_110 : decode cX11_form 110 = .ok (.iload 6, 2) := by decide +kernel
theorem dX11_form_112 : decode cX11_form 112 = .ok (.iadd, 1) := by decide +kernel
theorem dX11_form_113 : decode cX11_form 113 = .ok (.istore_n 3, 1) := by decide +kernel
theorem dX11_form_114 : decode cX11_form 114 = .ok (.iinc 6 1, 3) := by decide +kernel
theorem dX11_form_117 : decode cX11_form 117 = .ok (.goto (-46), 3) := by decide +kernel
theorem dX11_form_120 : decode cX11_form 120 = .ok (.iinc 5 1, 3) := by decide +kernel
theorem dX11_form_123 : decode cX11_form 123 = .ok (.goto (-61), 3) := by decide +kernel
theorem dX11_form_126 : decode cX11_form 126 = .ok (.iload_n 3, 1) := by decide +kernel
theorem dX11_form_127 : decode cX11_form 127 = .ok (.ifCond .le 9, 3) := by decide +kernel
theorem dX11_form_130 : decode cX11_form 130 = .ok (.aload_n 0, 1) := by decide +kernel
theorem dX11_form_131 : decode cX11_form 131 = .ok (.iload 4, 2) := by decide +kernel
theorem dX11_form_133 : decode cX11_form 133 = .ok (.putfield 109, 3) := by decide +kernel
theorem dX11_form_136 : decode cX11_form 136 = .ok (.iload_n 3, 1) := by decide +kernel
theorem dX11_form_137 : decode cX11_form 137 = .ok (.ireturn, 1) := by decide +kernel
theorem hcX11_form : yX11_form.cls ≠ "java/lang/invoke/MethodHandle" ∧ yX11_form.cls ≠ "java/lang/invoke/VarHandle" ∧ (parseMethodDescriptor yX11_form.desc).map (fun d => d.parameters.length) = some 2 := ⟨by decide +kernel, by decide +kernel, by decide +kernel⟩
def fX11_form_j114 (x6_71 : Int) (s22 : sg_M) (k71 : sg_M → Int → Int → Int → Prop) (x3_114 : Int) (x4_114 : Int) : Prop := sg_R (x6_71 + 1) ∧ k71 s22 x3_114 x4_114 (x6_71 + 1)
def fX11_form_L71 (La : sg_L) (x2 : Int) (x5_62 : Int) (k120 : sg_M → Int → Int → Prop) : Nat → sg_M → Int → Int → Int → Prop
  | 0, _, _, _, _ => False
  | n_71 + 1, s_71, x3_71, x4_71, x6_71 => ((x2 < x6_71 → k120 s_71 x3_71 x4_71) ∧ (¬ (x2 < x6_71) → fX1_thicken s_71 27 x5_62 x6_71 (fun s19 => fX11_rangeOfTrial La s19 (fun u20 s22 => ((u20 ≤ x4_71 → (fX11_form_j114 x6_71 s22 (fX11_form_L71 La x2 x5_62 k120 n_71)) x3_71 x4_71) ∧ (¬ (u20 ≤ x4_71) → sg_R ((100 * x5_62) + x6_71) ∧ (fX11_form_j114 x6_71 s22 (fX11_form_L71 La x2 x5_62 k120 n_71)) ((100 * x5_62) + x6_71) u20))))))
def fX11_form_L62 (La : sg_L) (x1 : Int) (x2 : Int) (k126 : sg_M → Int → Int → Prop) : Nat → sg_M → Int → Int → Int → Prop
  | 0, _, _, _, _ => False
  | n_62 + 1, s_62, x3_62, x4_62, x5_62 => ((x2 < x5_62 → k126 s_62 x3_62 x4_62) ∧ (¬ (x2 < x5_62) → (∃ n26 : Nat, fX11_form_L71 La x2 x5_62 (fun s_120e71 x3_120e71 x4_120e71 => sg_R (x5_62 + 1) ∧ (fX11_form_L62 La x1 x2 k126 n_62) s_120e71 x3_120e71 x4_120e71 (x5_62 + 1)) n26 s_62 x3_62 x4_62 x1)))
def fX11_form (La : sg_L) (s0 : sg_M) (x1 : Int) (x2 : Int) (Q : Int → sg_M → Prop) : Prop := ((x1 < 1 → Q (-2) s0) ∧ (¬ (x1 < 1) → ((20 < x2 → Q (-2) s0) ∧ (¬ (20 < x2) → ((x2 < x1 → Q (-2) s0) ∧ (¬ (x2 < x1) → sg_R (x2 - x1) ∧ ((5 < (x2 - x1) → Q (-2) s0) ∧ (¬ (5 < (x2 - x1)) → (((s0 20 2) ≠ 0 → (0 ≤ (s0 4 0)) ∧ fX1_copyFrom s0 27 (s0 4 0) (fun s15 => (∃ n28 : Nat, fX11_form_L62 La x1 x2 (fun s_126e62 x3_126e62 x4_126e62 => ((x3_126e62 ≤ 0 → Q x3_126e62 s_126e62) ∧ (¬ (x3_126e62 ≤ 0) → ∀ s30 : sg_M, s30 = sg_up s_126e62 0 18 x4_126e62 → Q x3_126e62 s30))) n28 s15 (-1) (-2) x1))) ∧ ((s0 20 2) = 0 → Q (-2) s0))))))))))
set_option maxHeartbeats 4000000 in
set_option maxRecDepth 100000 in
theorem CX11_form {l : Launch} {G : sg_G} {La : sg_L} {s0 : sg_M} (hst : sg_St La) {x1 : Int} (r1 : sg_R x1) {x2 : Int} (r2 : sg_R x2) {Q : Int → sg_M → Prop} (hf : fX11_form La s0 x1 x2 Q) : sg_C l G yX11_form cX11_form 8 (some .int) 7 0 0 La s0 [sg_r 0, sg_i x1, sg_i x2] (sg_HI La Q) := by
  refine sg_body (by decide +kernel) (Nat.le_of_ble_eq_true rfl) ?_
  intro p e s m args below meth c F hnm
  unfold fX11_form at hf
  show sg_W p l e (sg_rm 7 0 0) s m args below meth c (MQ below (sg_Q (some .int) G La s.heap.size (sg_HI La Q)) args s 0 0 (sg_A La s.heap.size)) 8 G (sg_A La s.heap.size) La s0 0 0 0 [(0, sg_r 0), (1, sg_i x1), (2, sg_i x2)] []
  refine gw_iload_n F 1 rfl rfl dX11_form_0 ?_
  refine gw_iconst F dX11_form_1 ?_
  refine gw_icmp_lt F (tgt := 36) dX11_form_2 (by decide) r1 (by decide) (fun c1 => ?_) (fun c1 => ?_)
  · have hf := hf.1 c1
    refine gw_bipush F rfl dX11_form_36 ?_
    exact gr_HI F (by decide) hf (by decide) (by decide) dX11_form_38
  · have hf := hf.2 c1
    refine gw_iload_n F 2 rfl rfl dX11_form_5 ?_
    refine gw_bipush F rfl dX11_form_6 ?_
    refine gw_icmp_gt F (tgt := 36) dX11_form_8 (by decide) r2 (by decide) (fun c2 => ?_) (fun c2 => ?_)
    · have hf := hf.1 c2
      refine gw_bipush F rfl dX11_form_36 ?_
      exact gr_HI F (by decide) hf (by decide) (by decide) dX11_form_38
    · have hf := hf.2 c2
      refine gw_iload_n F 1 rfl rfl dX11_form_11 ?_
      refine gw_iload_n F 2 rfl rfl dX11_form_12 ?_
      refine gw_icmp_gt F (tgt := 36) dX11_form_13 (by decide) r1 r2 (fun c3 => ?_) (fun c3 => ?_)
      · have hf := hf.1 c3
        refine gw_bipush F rfl dX11_form_36 ?_
        exact gr_HI F (by decide) hf (by decide) (by decide) dX11_form_38
      · have hf := hf.2 c3
        refine gw_iload_n F 2 rfl rfl dX11_form_16 ?_
        refine gw_iload_n F 1 rfl rfl dX11_form_17 ?_
        refine gw_isub F rfl dX11_form_18 ?_
        refine gw_iconst F dX11_form_19 ?_
        obtain ⟨g4, hf⟩ := hf
        refine gw_icmp_gt F (tgt := 36) dX11_form_20 (by decide) g4 (by decide) (fun c5 => ?_) (fun c5 => ?_)
        · have hf := hf.1 c5
          refine gw_bipush F rfl dX11_form_36 ?_
          exact gr_HI F (by decide) hf (by decide) (by decide) dX11_form_38
        · have hf := hf.2 c5
          refine gw_aload_n F 0 rfl rfl (by decide) dX11_form_23 ?_
          refine gw_get7 F (so_0 hst) (by decide) rfl sg_lay_RX11 (j := 2) (by decide) (o1 := 4) (by first | rfl | omega) rfl (host := "") (.inl kw_328) dX11_form_24 (fun h6 => ?_)
          refine gw_get7 F (so_4 hst) (by decide) rfl sg_lay_RX7 (j := 3) (by decide) (o1 := 20) (by first | rfl | omega) rfl (.inr kw_240) dX11_form_27 (fun h7 => ?_)
          refine gw_get0 F (so_20 hst) (by decide) rfl sg_lay_RX2 (j := 2) (by decide) rfl (.inr kw_230) dX11_form_30 (fun h8 => ?_)
          refine gw_if_ne F (tgt := 39) dX11_form_33 (by decide) h8 (fun c9 => ?_) (fun c9 => ?_)
          · have hf := hf.1 c9
            refine gw_aload_n F 0 rfl rfl (by decide) dX11_form_39 ?_
            refine gw_get7 F (so_0 hst) (by decide) rfl sg_lay_RX11 (j := 4) (by decide) (o1 := 27) (by first | rfl | omega) rfl (host := "") (.inl kw_330) dX11_form_40 (fun h10 => ?_)
            refine gw_aload_n F 0 rfl rfl (by decide) dX11_form_43 ?_
            refine gw_get7 F (so_0 hst) (by decide) rfl sg_lay_RX11 (j := 2) (by decide) (o1 := 4) (by first | rfl | omega) rfl (host := "") (.inl kw_328) dX11_form_44 (fun h11 => ?_)
            refine gw_get4 F (so_4 hst) (by decide) rfl sg_lay_RX7 (j := 0) (by decide) rfl (.inr kw_234) dX11_form_47 (fun h12 => ?_)
            obtain ⟨g13, hf⟩ := hf
            have t14 := sg_nn h12 g13
            refine gk_HV F (gc_V F (S := []) (As := [sg_r (s0 4 0)]) (T := TX1) (N := 7) (CX1_copyFrom (so_27 hst) t14 hf) (so_27 hst) (by decide) rfl kw_776 kw_94 kw_773 kw_774 kw_775 hcX1_copyFrom ⟨by decide, by decide⟩ rfl rfl (Nat.le_of_ble_eq_true rfl) ⟨by decide, by decide⟩ dX11_form_50) (fun s15 hf => ?_)
            refine gw_iconst F dX11_form_53 ?_
            refine gw_istore_n F rfl (by decide) rfl dX11_form_54 ?_
            refine gw_bipush F rfl dX11_form_55 ?_
            refine gw_istore F (by decide) rfl dX11_form_57 ?_
            refine gw_iload_n F 3 rfl rfl dX11_form_59 ?_
            refine gw_istore F (by decide) rfl dX11_form_60 ?_
            have L62 : ∀ (k126 : sg_M → Int → Int → Prop) (hk126 : ∀ (s_126e62 : sg_M) (x3_126e62 : Int) (x4_126e62 : Int), sg_R x3_126e62 → sg_R x4_126e62 → k126 s_126e62 x3_126e62 x4_126e62 → sg_W p l e (sg_rm 7 0 0) s m args below meth c (MQ below (sg_Q (some .int) G La s.heap.size (sg_HI La Q)) args s 0 0 (sg_A La s.heap.size)) 8 G (sg_A La s.heap.size) La s_126e62 0 0 126 [(0, sg_r 0), (3, sg_i x3_126e62), (4, sg_i x4_126e62)] []), ∀ n_62 : Nat, ∀ (s_62 : sg_M) (x3_62 : Int) (x4_62 : Int) (x5_62 : Int), sg_R x3_62 → sg_R x4_62 → sg_R x5_62 → fX11_form_L62 La x1 x2 k126 n_62 s_62 x3_62 x4_62 x5_62 → sg_W p l e (sg_rm 7 0 0) s m args below meth c (MQ below (sg_Q (some .int) G La s.heap.size (sg_HI La Q)) args s 0 0 (sg_A La s.heap.size)) 8 G (sg_A La s.heap.size) La s_62 0 0 62 [(0, sg_r 0), (1, sg_i x1), (2, sg_i x2), (3, sg_i x3_62), (4, sg_i x4_62), (5, sg_i x5_62)] [] := by
              intro k126 hk126 n_62
              induction n_62 with
              | zero => intro s_62 x3_62 x4_62 x5_62 r3_62 r4_62 r5_62 hf; exact hf.elim
              | succ n_62 ih =>
                intro s_62 x3_62 x4_62 x5_62 r3_62 r4_62 r5_62 hf
                unfold fX11_form_L62 at hf
                refine gw_iload F 5 rfl dX11_form_62 ?_
                refine gw_iload_n F 2 rfl rfl dX11_form_64 ?_
                refine gw_icmp_gt F (tgt := 126) dX11_form_65 (by decide) r5_62 r2 (fun c16 => ?_) (fun c16 => ?_)
                · have hf := hf.1 c16
                  refine gw_sub [0, 3, 4] rfl ?_
                  exact hk126 s_62 x3_62 x4_62 r3_62 r4_62 hf
                · have hf := hf.2 c16
                  refine gw_iload_n F 1 rfl rfl dX11_form_68 ?_
                  refine gw_istore F (by decide) rfl dX11_form_69 ?_
                  have L71 : ∀ (k120 : sg_M → Int → Int → Prop) (hk120 : ∀ (s_120e71 : sg_M) (x3_120e71 : Int) (x4_120e71 : Int), sg_R x3_120e71 → sg_R x4_120e71 → k120 s_120e71 x3_120e71 x4_120e71 → sg_W p l e (sg_rm 7 0 0) s m args below meth c (MQ below (sg_Q (some .int) G La s.heap.size (sg_HI La Q)) args s 0 0 (sg_A La s.heap.size)) 8 G (sg_A La s.heap.size) La s_120e71 0 0 120 [(0, sg_r 0), (1, sg_i x1), (2, sg_i x2), (3, sg_i x3_120e71), (4, sg_i x4_120e71), (5, sg_i x5_62)] []), ∀ n_71 : Nat, ∀ (s_71 : sg_M) (x3_71 : Int) (x4_71 : Int) (x6_71 : Int), sg_R x3_71 → sg_R x4_71 → sg_R x6_71 → fX11_form_L71 La x2 x5_62 k120 n_71 s_71 x3_71 x4_71 x6_71 → sg_W p l e (sg_rm 7 0 0) s m args below meth c (MQ below (sg_Q (some .int) G La s.heap.size (sg_HI La Q)) args s 0 0 (sg_A La s.heap.size)) 8 G (sg_A La s.heap.size) La s_71 0 0 71 [(0, sg_r 0), (1, sg_i x1), (2, sg_i x2), (3, sg_i x3_71), (4, sg_i x4_71), (5, sg_i x5_62), (6, sg_i x6_71)] [] := by
                    intro k120 hk120 n_71
                    induction n_71 with
                    | zero => intro s_71 x3_71 x4_71 x6_71 r3_71 r4_71 r6_71 hf; exact hf.elim
                    | succ n_71 ih =>
                      intro s_71 x3_71 x4_71 x6_71 r3_71 r4_71 r6_71 hf
                      unfold fX11_form_L71 at hf
                      refine gw_iload F 6 rfl dX11_form_71 ?_
                      refine gw_iload_n F 2 rfl rfl dX11_form_73 ?_
                      refine gw_icmp_gt F (tgt := 120) dX11_form_74 (by decide) r6_71 r2 (fun c17 => ?_) (fun c17 => ?_)
                      · have hf := hf.1 c17
                        refine gw_sub [0, 1, 2, 3, 4, 5] rfl ?_
                        exact hk120 s_71 x3_71 x4_71 r3_71 r4_71 hf
                      · have hf := hf.2 c17
                        refine gw_aload_n F 0 rfl rfl (by decide) dX11_form_77 ?_
                        refine gw_get7 F (so_0 hst) (by decide) rfl sg_lay_RX11 (j := 4) (by decide) (o1 := 27) (by first | rfl | omega) rfl (host := "") (.inl kw_330) dX11_form_78 (fun h18 => ?_)
                        refine gw_iload F 5 rfl dX11_form_81 ?_
                        refine gw_iload F 6 rfl dX11_form_83 ?_
                        refine gk_HV F (gc_V F (S := []) (As := [sg_i x5_62, sg_i x6_71]) (T := TX1) (N := 7) (CX1_thicken (so_27 hst) r5_62 r6_71 hf) (so_27 hst) (by decide) rfl kw_780 kw_94 kw_777 kw_778 kw_779 hcX1_thicken ⟨by decide, by decide⟩ rfl rfl (Nat.le_of_ble_eq_true rfl) ⟨by decide, by decide⟩ dX11_form_85) (fun s19 hf => ?_)
                        refine gw_aload_n F 0 rfl rfl (by decide) dX11_form_88 ?_
                        refine gk_HI F (gc_V F (S := []) (As := []) (T := TX11) (N := 19) (CX11_rangeOfTrial hst hf) (so_0 hst) (by decide) rfl kw_783 kw_90 kw_781 kw_782 kw_30 hcX11_rangeOfTrial ⟨by decide, by decide⟩ rfl rfl (Nat.le_of_ble_eq_true rfl) ⟨by decide, by decide⟩ dX11_form_89) (fun u20 s22 h21 hf => ?_)
                        refine gw_istore F (by decide) rfl dX11_form_92 ?_
                        refine gw_iload F 0 rfl dX11_form_94 ?_
                        refine gw_iload F 5 rfl dX11_form_96 ?_
                        have J114 : ∀ (x3_114 : Int) (x4_114 : Int), sg_R x3_114 → sg_R x4_114 → (fX11_form_j114 x6_71 s22 (fX11_form_L71 La x2 x5_62 k120 n_71)) x3_114 x4_114 → sg_W p l e (sg_rm 7 0 0) s m args below meth c (MQ below (sg_Q (some .int) G La s.heap.size (sg_HI La Q)) args s 0 0 (sg_A La s.heap.size)) 8 G (sg_A La s.heap.size) La s22 0 0 114 [(0, sg_r 0), (1, sg_i x1), (2, sg_i x2), (3, sg_i x3_114), (4, sg_i x4_114), (5, sg_i x5_62), (6, sg_i x6_71)] [] := by
                          intro x3_114 x4_114 r3_114 r4_114 hf
                          unfold fX11_form_j114 at hf
                          refine gw_iinc F (z := (x6_71 + 1)) 6 rfl (by omega) (by decide) rfl dX11_form_114 ?_
                          refine gw_goto F (tgt := 71) dX11_form_117 (by decide) ?_
                          obtain ⟨g23, hf⟩ := hf
                          refine gw_sub [1, 2, 3, 4, 5, 6, 0] rfl ?_
                          exact ih s22 x3_114 x4_114 (x6_71 + 1) r3_114 r4_114 g23 hf
                        refine gw_icmp_le F (tgt := 114) dX11_form_98 (by decide) h21 r4_71 (fun c24 => ?_) (fun c24 => ?_)
                        · have hf := hf.1 c24
                          refine gw_sub [1, 2, 3, 4, 5, 6, 7] rfl ?_
                          exact J114 x3_71 x4_71 r3_71 r4_71 hf
                        · have hf := hf.2 c24
                          refine gw_iload F 0 rfl dX11_form_101 ?_
                          refine gw_istore F (by decide) rfl dX11_form_103 ?_
                          refine gw_bipush F rfl dX11_form_105 ?_
                          refine gw_iload F 6 rfl dX11_form_107 ?_
                          refine gw_imul F rfl dX11_form_109 ?_
                          refine gw_iload F 7 rfl dX11_form_110 ?_
                          refine gw_iadd F rfl dX11_form_112 ?_
                          refine gw_istore_n F rfl (by decide) rfl dX11_form_113 ?_
                          obtain ⟨g25, hf⟩ := hf
                          refine gw_sub [3, 4, 5, 0, 1, 6, 7] rfl ?_
                          exact J114 ((100 * x5_62) + x6_71) u20 g25 h21 hf
                  obtain ⟨n26, hf⟩ := hf
                  refine gw_sub [1, 2, 3, 4, 5, 6, 0] rfl ?_
                  refine L71 _ (fun s_120e71 x3_120e71 x4_120e71 r3_120e71 r4_120e71 hf => ?_) n26 s_62 x3_62 x4_62 x1 r3_62 r4_62 r1 hf
                  refine gw_iinc F (z := (x5_62 + 1)) 5 rfl (by omega) (by decide) rfl dX11_form_120 ?_
                  refine gw_goto F (tgt := 62) dX11_form_123 (by decide) ?_
                  obtain ⟨g27, hf⟩ := hf
                  refine gw_sub [1, 2, 3, 4, 5, 0] rfl ?_
                  exact ih s_120e71 x3_120e71 x4_120e71 (x5_62 + 1) r3_120e71 r4_120e71 g27 hf
            obtain ⟨n28, hf⟩ := hf
            refine gw_sub [3, 4, 5, 2, 1, 0] rfl ?_
            refine L62 _ (fun s_126e62 x3_126e62 x4_126e62 r3_126e62 r4_126e62 hf => ?_) n28 s15 (-1) (-2) x1 (by decide) (by decide) r1 hf
            refine gw_iload_n F 1 rfl rfl dX11_form_126 ?_
            refine gw_if_le F (tgt := 136) dX11_form_127 (by decide) r3_126e62 (fun c29 => ?_) (fun c29 => ?_)
            · have hf := hf.1 c29
              refine gw_iload_n F 1 rfl rfl dX11_form_136 ?_
              exact gr_HI F r3_126e62 hf (by decide) (by decide) dX11_form_137
            · have hf := hf.2 c29
              refine gw_aload_n F 0 rfl rfl (by decide) dX11_form_130 ?_
              refine gw_iload F 2 rfl dX11_form_131 ?_
              obtain ⟨s30, e31⟩ : ∃ z : sg_M, z = sg_up s_126e62 0 18 x4_126e62 := ⟨_, rfl⟩
              have hf := hf s30 e31
              refine gw_put0 F (so_0 hst) (by decide) rfl sg_lay_RX11 (j := 18) (by decide) r4_126e62 e31 tyX11_ok nmX11 rfl (tyX11_ok 18 (by decide)) rfl (host := "") (.inl kw_344) dX11_form_133 ?_
              refine gw_iload_n F 1 rfl rfl dX11_form_136 ?_
              exact gr_HI F r3_126e62 hf (by decide) (by decide) dX11_form_137
          · have hf := hf.2 c9
            refine gw_bipush F rfl dX11_form_36 ?_
            exact gr_HI F (by decide) hf (by decide) (by decide) dX11_form_38

theorem dX1_told_0 : decode cX1_told 0 = .ok (.aload_n 0, 1) := by decide +kernel
theorem dX1_told_1 : decode cX1_told 1 = .ok (.iload_n 1, 1) := by decide +kernel
theorem dX1_told_2 : decode cX1_told 2 = .ok (.invokevirtual 38, 3) := by decide +kernel
theorem dX1_told_5 : decode cX1_told 5 = .ok (.ifCond .ne 5, 3) := by decide +kernel
theorem dX1_told_8 : decode cX1_told 8 = .ok (.iconst 0, 1) := by decide +kernel
theorem dX1_told_9 : decode cX1_told 9 = .ok (.ireturn, 1) := by decide +kernel
theorem dX1_told_10 : decode cX1_told 10 = .ok (.iload_n 2, 1) := by decide +kernel
theorem dX1_told_11 : decode cX1_told 11 = .ok (.tableswitch 57 0 3 #[29, 36, 43, 50], 29) := by decide +kernel
theorem dX1_told_40 : decode cX1_told 40 = .ok (.aload_n 0, 1) := by decide +kernel
theorem dX1_told_41 : decode cX1_told 41 = .ok (.getfield 9, 3) := by decide +kernel
theorem dX1_told_44 : decode cX1_told 44 = .ok (.iload_n 1, 1) := by decide +kernel
theorem dX1_told_45 : decode cX1_told 45 = .ok (.iaload, 1) := by decide +kernel
theorem dX1_told_46 : decode cX1_told 46 = .ok (.ireturn, 1) := by decide +kernel
theorem dX1_told_47 : decode cX1_told 47 = .ok (.aload_n 0, 1) := by decide +kernel
theorem dX1_told_48 : decode cX1_told 48 = .ok (.getfield 15, 3) := by decide +kernel
theorem dX1_told_51 : decode cX1_told 51 = .ok (.iload_n 1, 1) := by decide +kernel
theorem dX1_told_52 : decode cX1_told 52 = .ok (.iaload, 1) := by decide +kernel
theorem dX1_told_53 : decode cX1_told 53 = .ok (.ireturn, 1) := by decide +kernel
theorem dX1_told_54 : decode cX1_told 54 = .ok (.aload_n 0, 1) := by decide +kernel
theorem dX1_told_55 : decode cX1_told 55 = .ok (.getfield 18, 3) := by decide +kernel
theorem dX1_told_58 : decode cX1_told 58 = .ok (.iload_n 1, 1) := by decide +kernel
theorem dX1_told_59 : decode cX1_told 59 = .ok (.iaload, 1) := by decide +kernel
theorem dX1_told_60 : decode cX1_told 60 = .ok (.ireturn, 1) := by decide +kernel
theorem dX1_told_61 : decode cX1_told 61 = .ok (.aload_n 0, 1) := by decide +kernel
theorem dX1_told_62 : decode cX1_told 62 = .ok (.getfield 21, 3) := by decide +kernel
theorem dX1_told_65 : decode cX1_told 65 = .ok (.iload_n 1, 1) := by decide +kernel
theorem dX1_told_66 : decode cX1_told 66 = .ok (.iaload, 1) := by decide +kernel
theorem dX1_told_67 : decode cX1_told 67 = .ok (.ireturn, 1) := by decide +kernel
theorem dX1_told_68 : decode cX1_told 68 = .ok (.aload_n 0, 1) := by decide +kernel
theorem dX1_told_69 : decode cX1_told 69 = .ok (.iload_n 1, 1) := by decide +kernel
theorem dX1_told_70 : decode cX1_told 70 = .ok (.invokevirtual 42, 3) := by decide +kernel
theorem dX1_told_73 : decode cX1_told 73 = .ok (.ireturn, 1) := by decide +kernel
theorem hcX1_told : yX1_told.cls ≠ "java/lang/invoke/MethodHandle" ∧ yX1_told.cls ≠ "java/lang/invoke/VarHandle" ∧ (parseMethodDescriptor yX1_told.desc).map (fun d => d.parameters.length) = some 2 := ⟨by decide +kernel, by decide +kernel, by decide +kernel⟩
def fX1_told (s0 : sg_M) (o : Int) (x1 : Int) (x2 : Int) (Q : Int → Prop) : Prop := fX1_has s0 o x1 (fun u1 => ((u1 ≠ 0 → ((x2 < 0 ∨ 3 < x2 → fX1_stiffness s0 o x1 (fun u5 => Q u5)) ∧ (x2 = 0 → (0 ≤ x1 ∧ x1 < 60) ∧ Q (s0 (o + 1) x1)) ∧ (x2 = 1 → (0 ≤ x1 ∧ x1 < 60) ∧ Q (s0 (o + 2) x1)) ∧ (x2 = 2 → (0 ≤ x1 ∧ x1 < 60) ∧ Q (s0 (o + 3) x1)) ∧ (x2 = 3 → (0 ≤ x1 ∧ x1 < 60) ∧ Q (s0 (o + 4) x1)))) ∧ (u1 = 0 → Q 0)))
set_option maxHeartbeats 4000000 in
set_option maxRecDepth 100000 in
theorem CX1_told {l : Launch} {G : sg_G} {La : sg_L} {s0 : sg_M} {o : Int} (to : sg_O La o 1) {x1 : Int} (r1 : sg_R x1) {x2 : Int} (r2 : sg_R x2) {Q : Int → Prop} (hf : fX1_told s0 o x1 x2 Q) : sg_C l G yX1_told cX1_told 3 (some .int) 3 0 0 La s0 [sg_r o, sg_i x1, sg_i x2] (sg_PI La s0 Q) := by
  refine sg_body (by decide +kernel) (Nat.le_of_ble_eq_true rfl) ?_
  intro p e s m args below meth c F hnm
  unfold fX1_told at hf
  show sg_W p l e (sg_rm 3 0 0) s m args below meth c (MQ below (sg_Q (some .int) G La s.heap.size (sg_PI La s0 Q)) args s 0 0 (sg_A La s.heap.size)) 3 G (sg_A La s.heap.size) La s0 0 0 0 [(0, sg_r o), (1, sg_i x1), (2, sg_i x2)] []
  refine gw_aload_n F 0 rfl rfl to.1 dX1_told_0 ?_
  refine gw_iload_n F 1 rfl rfl dX1_told_1 ?_
  refine gk_PZ F (gc_V F (S := []) (As := [sg_i x1]) (T := TX1) (N := 7) (CX1_has to r1 hf) to (by decide) rfl kw_518 kw_94 kw_515 kw_516 kw_517 hcX1_has ⟨by decide, by decide⟩ rfl rfl (Nat.le_of_ble_eq_true rfl) ⟨by decide, by decide⟩ dX1_told_2) (fun u1 h2 hf => ?_)
  refine gw_if_ne F (tgt := 10) dX1_told_5 (by decide) (sg_B_R h2) (fun c3 => ?_) (fun c3 => ?_)
  · have hf := hf.1 c3
    refine gw_iload_n F 2 rfl rfl dX1_told_10 ?_
    refine gw_switch F dX1_told_11 r2 (td := 68) (by decide) (fun c4 => ?_) (fun i hi1 hi2 => ?_)
    · have hf := hf.1 c4
      refine gw_aload_n F 0 rfl rfl to.1 dX1_told_68 ?_
      refine gw_iload_n F 1 rfl rfl dX1_told_69 ?_
      refine gk_PI F (gc_V F (S := []) (As := [sg_i x1]) (T := TX1) (N := 7) (CX1_stiffness to r1 hf) to (by decide) rfl kw_514 kw_94 kw_512 kw_513 kw_4 hcX1_stiffness ⟨by decide, by decide⟩ rfl rfl (Nat.le_of_ble_eq_true rfl) ⟨by decide, by decide⟩ dX1_told_70) (fun u5 h6 hf => ?_)
      exact gr_PI F h6 hf (by decide) (by decide) dX1_told_73
    · rcases (show i = 0 ∨ i = 1 ∨ i = 2 ∨ i = 3 by omega) with rfl | rfl | rfl | rfl
      · have hf := hf.2.1 (by omega)
        refine ⟨29, 40, rfl, by decide, ?_⟩
        refine gw_aload_n F 0 rfl rfl to.1 dX1_told_40 ?_
        refine gw_get3 F to (by decide) rfl sg_lay_RX1 (j := 0) (by decide) (o1 := (o + 1)) (by first | rfl | omega) rfl (host := "") (.inl kw_158) dX1_told_41 (fun h7 => ?_)
        refine gw_iload_n F 1 rfl rfl dX1_told_44 ?_
        obtain ⟨⟨b80, b81⟩, hf⟩ := hf
        refine gw_iald F (sg_AN_of (sg_O_of h7 (by decide)) (by decide) (by decide) (by decide)) b80 b81 dX1_told_45 (fun h9 => ?_)
        exact gr_PI F h9 hf (by decide) (by decide) dX1_told_46
      · have hf := hf.2.2.1 (by omega)
        refine ⟨36, 47, rfl, by decide, ?_⟩
        refine gw_aload_n F 0 rfl rfl to.1 dX1_told_47 ?_
        refine gw_get3 F to (by decide) rfl sg_lay_RX1 (j := 1) (by decide) (o1 := (o + 2)) (by first | rfl | omega) rfl (host := "") (.inl kw_159) dX1_told_48 (fun h10 => ?_)
        refine gw_iload_n F 1 rfl rfl dX1_told_51 ?_
        obtain ⟨⟨b110, b111⟩, hf⟩ := hf
        refine gw_iald F (sg_AN_of (sg_O_of h10 (by decide)) (by decide) (by decide) (by decide)) b110 b111 dX1_told_52 (fun h12 => ?_)
        exact gr_PI F h12 hf (by decide) (by decide) dX1_told_53
      · have hf := hf.2.2.2.1 (by omega)
        refine ⟨43, 54, rfl, by decide, ?_⟩
        refine gw_aload_n F 0 rfl rfl to.1 dX1_told_54 ?_
        refine gw_get3 F to (by decide) rfl sg_lay_RX1 (j := 2) (by decide) (o1 := (o + 3)) (by first | rfl | omega) rfl (host := "") (.inl kw_161) dX1_told_55 (fun h13 => ?_)
        refine gw_iload_n F 1 rfl rfl dX1_told_58 ?_
        obtain ⟨⟨b140, b141⟩, hf⟩ := hf
        refine gw_iald F (sg_AN_of (sg_O_of h13 (by decide)) (by decide) (by decide) (by decide)) b140 b141 dX1_told_59 (fun h15 => ?_)
        exact gr_PI F h15 hf (by decide) (by decide) dX1_told_60
      · have hf := hf.2.2.2.2 (by omega)
        refine ⟨50, 61, rfl, by decide, ?_⟩
        refine gw_aload_n F 0 rfl rfl to.1 dX1_told_61 ?_
        refine gw_get3 F to (by decide) rfl sg_lay_RX1 (j := 3) (by decide) (o1 := (o + 4)) (by first | rfl | omega) rfl (host := "") (.inl kw_162) dX1_told_62 (fun h16 => ?_)
        refine gw_iload_n F 1 rfl rfl dX1_told_65 ?_
        obtain ⟨⟨b170, b171⟩, hf⟩ := hf
        refine gw_iald F (sg_AN_of (sg_O_of h16 (by decide)) (by decide) (by decide) (by decide)) b170 b171 dX1_told_66 (fun h18 => ?_)
        exact gr_PI F h18 hf (by decide) (by decide) dX1_told_67
  · have hf := hf.2 c3
    refine gw_iconst F dX1_told_8 ?_
    exact gr_PI F (by decide) hf (by decide) (by decide) dX1_told_9

theorem dX11_end_0 : decode cX11_end 0 = .ok (.iload_n 1, 1) := by decide +kernel
theorem dX11_end_1 : decode cX11_end 1 = .ok (.ifCond .lt 14, 3) := by decide +kernel
theorem dX11_end_4 : decode cX11_end 4 = .ok (.iload_n 1, 1) := by decide +kernel
theorem dX11_end_5 : decode cX11_end 5 = .ok (.aload_n 0, 1) := by decide +kernel
theorem dX11_end_6 : decode cX11_end 6 = .ok (.getfield 10, 3) := by decide +kernel
theorem dX11_end_9 : decode cX11_end 9 = .ok (.getfield 122, 3) := by decide +kernel
theorem dX11_end_12 : decode cX11_end 12 = .ok (.if_icmp .le 5, 3) := by decide +kernel
theorem dX11_end_15 : decode cX11_end 15 = .ok (.iconst 0, 1) := by decide +kernel
theorem dX11_end_16 : decode cX11_end 16 = .ok (.ireturn, 1) := by decide +kernel
theorem dX11_end_17 : decode cX11_end 17 = .ok (.aload_n 0, 1) := by decide +kernel
theorem dX11_end_18 : decode cX11_end 18 = .ok (.getfield 10, 3) := by decide +kernel
theorem dX11_end_21 : decode cX11_end 21 = .ok (.iload_n 1, 1) := by decide +kernel
theorem dX11_end_22 : decode cX11_end 22 = .ok (.putfield 122, 3) := by decide +kernel
theorem dX11_end_25 : decode cX11_end 25 = .ok (.iconst 1, 1) := by decide +kernel
theorem dX11_end_26 : decode cX11_end 26 = .ok (.ireturn, 1) := by decide +kernel
theorem hcX11_end : yX11_end.cls ≠ "java/lang/invoke/MethodHandle" ∧ yX11_end.cls ≠ "java/lang/invoke/VarHandle" ∧ (parseMethodDescriptor yX11_end.desc).map (fun d => d.parameters.length) = some 1 := ⟨by decide +kernel, by decide +kernel, by decide +kernel⟩
def fX11_end (s0 : sg_M) (x1 : Int) (Q : Int → sg_M → Prop) : Prop := ((x1 < 0 → Q 0 s0) ∧ (¬ (x1 < 0) → ((x1 ≤ (s0 1 1) → ∀ s6 : sg_M, s6 = sg_up s0 1 1 x1 → Q 1 s6) ∧ (¬ (x1 ≤ (s0 1 1)) → Q 0 s0))))
set_option maxHeartbeats 4000000 in
set_option maxRecDepth 100000 in
theorem CX11_end {l : Launch} {G : sg_G} {La : sg_L} {s0 : sg_M} (hst : sg_St La) {x1 : Int} (r1 : sg_R x1) {Q : Int → sg_M → Prop} (hf : fX11_end s0 x1 Q) : sg_C l G yX11_end cX11_end 2 (some .boolean) 1 0 0 La s0 [sg_r 0, sg_i x1] (sg_HZ La Q) := by
  refine sg_body (by decide +kernel) (Nat.le_of_ble_eq_true rfl) ?_
  intro p e s m args below meth c F hnm
  unfold fX11_end at hf
  show sg_W p l e (sg_rm 1 0 0) s m args below meth c (MQ below (sg_Q (some .boolean) G La s.heap.size (sg_HZ La Q)) args s 0 0 (sg_A La s.heap.size)) 2 G (sg_A La s.heap.size) La s0 0 0 0 [(0, sg_r 0), (1, sg_i x1)] []
  refine gw_iload_n F 1 rfl rfl dX11_end_0 ?_
  refine gw_if_lt F (tgt := 15) dX11_end_1 (by decide) r1 (fun c1 => ?_) (fun c1 => ?_)
  · have hf := hf.1 c1
    refine gw_iconst F dX11_end_15 ?_
    exact gr_HZ F (by decide) hf (by decide) (by decide) dX11_end_16
  · have hf := hf.2 c1
    refine gw_iload_n F 1 rfl rfl dX11_end_4 ?_
    refine gw_aload_n F 0 rfl rfl (by decide) dX11_end_5 ?_
    refine gw_get7 F (so_0 hst) (by decide) rfl sg_lay_RX11 (j := 0) (by decide) (o1 := 1) (by first | rfl | omega) rfl (host := "") (.inl kw_326) dX11_end_6 (fun h2 => ?_)
    refine gw_get0 F (so_1 hst) (by decide) rfl sg_lay_RX8 (j := 1) (by decide) rfl (.inr kw_128) dX11_end_9 (fun h3 => ?_)
    refine gw_icmp_le F (tgt := 17) dX11_end_12 (by decide) r1 h3 (fun c4 => ?_) (fun c4 => ?_)
    · have hf := hf.1 c4
      refine gw_aload_n F 0 rfl rfl (by decide) dX11_end_17 ?_
      refine gw_get7 F (so_0 hst) (by decide) rfl sg_lay_RX11 (j := 0) (by decide) (o1 := 1) (by first | rfl | omega) rfl (host := "") (.inl kw_326) dX11_end_18 (fun h5 => ?_)
      refine gw_iload_n F 1 rfl rfl dX11_end_21 ?_
      obtain ⟨s6, e7⟩ : ∃ z : sg_M, z = sg_up s0 1 1 x1 := ⟨_, rfl⟩
      have hf := hf s6 e7
      refine gw_put0 F (so_1 hst) (by decide) rfl sg_lay_RX8 (j := 1) (by decide) r1 e7 tyX8_ok nmX8 rfl (tyX8_ok 1 (by decide)) rfl (.inr kw_128) dX11_end_22 ?_
      refine gw_iconst F dX11_end_25 ?_
      exact gr_HZ F (by decide) hf (by decide) (by decide) dX11_end_26
    · have hf := hf.2 c4
      refine gw_iconst F dX11_end_15 ?_
      exact gr_HZ F (by decide) hf (by decide) (by decide) dX11_end_16

theorem dX11_write_0 : decode cX11_write 0 = .ok (.iload_n 1, 1) := by decide +kernel
theorem dX11_write_1 : decode cX11_write 1 = .ok (.iload_n 2, 1) := by decide +kernel
theorem dX11_write_2 : decode cX11_write 2 = .ok (.invokestatic 158, 3) := by decide +kernel
theorem dX11_write_5 : decode cX11_write 5 = .ok (.ifCond .eq 18, 3) := by decide +kernel
theorem dX11_write_8 : decode cX11_write 8 = .ok (.aload_n 0, 1) := by decide +kernel
theorem dX11_write_9 : decode cX11_write 9 = .ok (.getfield 39, 3) := by decide +kernel
theorem dX11_write_12 : decode cX11_write 12 = .ok (.getfield 237, 3) := by decide +kernel
theorem dX11_write_15 : decode cX11_write 15 = .ok (.getfield 241, 3) := by decide +kernel
theorem dX11_write_18 : decode cX11_write 18 = .ok (.bipush 40, 2) := by decide +kernel
theorem dX11_write_20 : decode cX11_write 20 = .ok (.if_icmp .lt 5, 3) := by decide +kernel
theorem dX11_write_23 : decode cX11_write 23 = .ok (.iconst (-1), 1) := by decide +kernel
theorem dX11_write_24 : decode cX11_write 24 = .ok (.ireturn, 1) := by decide +kernel
theorem dX11_write_25 : decode cX11_write 25 = .ok (.aload_n 0, 1) := by decide +kernel
theorem dX11_write_26 : decode cX11_write 26 = .ok (.getfield 39, 3) := by decide +kernel
theorem dX11_write_29 : decode cX11_write 29 = .ok (.getfield 237, 3) := by decide +kernel
theorem dX11_write_32 : decode cX11_write 32 = .ok (.iload_n 1, 1) := by decide +kernel
theorem dX11_write_33 : decode cX11_write 33 = .ok (.iload_n 2, 1) := by decide +kernel
theorem dX11_write_34 : decode cX11_write 34 = .ok (.invokevirtual 244, 3) := by decide +kernel
theorem dX11_write_37 : decode cX11_write 37 = .ok (.aload_n 0, 1) := by decide +kernel
theorem dX11_write_38 : decode cX11_write 38 = .ok (.invokevirtual 248, 3) := by decide +kernel
theorem dX11_write_41 : decode cX11_write 41 = .ok (.aload_n 0, 1) := by decide +kernel
theorem dX11_write_42 : decode cX11_write 42 = .ok (.getfield 39, 3) := by decide +kernel
theorem dX11_write_45 : decode cX11_write 45 = .ok (.getfield 237, 3) := by decide +kernel
theorem dX11_write_48 : decode cX11_write 48 = .ok (.getfield 241, 3) := by decide +kernel
theorem dX11_write_51 : decode cX11_write 51 = .ok (.iconst 1, 1) := by decide +kernel
theorem dX11_write_52 : decode cX11_write 52 = .ok (.isub, 1) := by decide +kernel
theorem dX11_write_53 : decode cX11_write 53 = .ok (.ireturn, 1) := by decide +kernel
theorem hcX11_write : yX11_write.cls ≠ "java/lang/invoke/MethodHandle" ∧ yX11_write.cls ≠ "java/lang/invoke/VarHandle" ∧ (parseMethodDescriptor yX11_write.desc).map (fun d => d.parameters.length) = some 2 := ⟨by decide +kernel, by decide +kernel, by decide +kernel⟩
def fX11_write (La : sg_L) (s0 : sg_M) (x1 : Int) (x2 : Int) (Q : Int → sg_M → Prop) : Prop := fX11_isBend x1 x2 (fun u1 => ((u1 = 0 → Q (-1) s0) ∧ (¬ (u1 = 0) → (((s0 20 2) < 40 → fX2_add La s0 20 x1 x2 (fun s10 => fX11_forgetAnswers s10 (fun s11 => sg_R ((s11 20 2) - 1) ∧ Q ((s11 20 2) - 1) s11))) ∧ (¬ ((s0 20 2) < 40) → Q (-1) s0)))))
set_option maxHeartbeats 4000000 in
set_option maxRecDepth 100000 in
theorem CX11_write {l : Launch} {G : sg_G} {La : sg_L} {s0 : sg_M} (hst : sg_St La) {x1 : Int} (r1 : sg_R x1) {x2 : Int} (r2 : sg_R x2) {Q : Int → sg_M → Prop} (hf : fX11_write La s0 x1 x2 Q) : sg_C l G yX11_write cX11_write 3 (some .int) 3 0 0 La s0 [sg_r 0, sg_i x1, sg_i x2] (sg_HI La Q) := by
  refine sg_body (by decide +kernel) (Nat.le_of_ble_eq_true rfl) ?_
  intro p e s m args below meth c F hnm
  unfold fX11_write at hf
  show sg_W p l e (sg_rm 3 0 0) s m args below meth c (MQ below (sg_Q (some .int) G La s.heap.size (sg_HI La Q)) args s 0 0 (sg_A La s.heap.size)) 3 G (sg_A La s.heap.size) La s0 0 0 0 [(0, sg_r 0), (1, sg_i x1), (2, sg_i x2)] []
  refine gw_iload_n F 1 rfl rfl dX11_write_0 ?_
  refine gw_iload_n F 2 rfl rfl dX11_write_1 ?_
  refine gk_PZ F (gc_S F (S := []) (As := [sg_i x1, sg_i x2]) (CX11_isBend r1 r2 hf) kw_502 kw_90 kw_500 kw_501 hcX11_isBend ⟨by decide, by decide⟩ rfl rfl (Nat.le_of_ble_eq_true rfl) ⟨by decide, by decide⟩ dX11_write_2) (fun u1 h2 hf => ?_)
  refine gw_if_eq F (tgt := 23) dX11_write_5 (by decide) (sg_B_R h2) (fun c3 => ?_) (fun c3 => ?_)
  · have hf := hf.1 c3
    refine gw_iconst F dX11_write_23 ?_
    exact gr_HI F (by decide) hf (by decide) (by decide) dX11_write_24
  · have hf := hf.2 c3
    refine gw_aload_n F 0 rfl rfl (by decide) dX11_write_8 ?_
    refine gw_get7 F (so_0 hst) (by decide) rfl sg_lay_RX11 (j := 2) (by decide) (o1 := 4) (by first | rfl | omega) rfl (host := "") (.inl kw_328) dX11_write_9 (fun h4 => ?_)
    refine gw_get7 F (so_4 hst) (by decide) rfl sg_lay_RX7 (j := 3) (by decide) (o1 := 20) (by first | rfl | omega) rfl (.inr kw_240) dX11_write_12 (fun h5 => ?_)
    refine gw_get0 F (so_20 hst) (by decide) rfl sg_lay_RX2 (j := 2) (by decide) rfl (.inr kw_230) dX11_write_15 (fun h6 => ?_)
    refine gw_bipush F rfl dX11_write_18 ?_
    refine gw_icmp_lt F (tgt := 25) dX11_write_20 (by decide) h6 (by decide) (fun c7 => ?_) (fun c7 => ?_)
    · have hf := hf.1 c7
      refine gw_aload_n F 0 rfl rfl (by decide) dX11_write_25 ?_
      refine gw_get7 F (so_0 hst) (by decide) rfl sg_lay_RX11 (j := 2) (by decide) (o1 := 4) (by first | rfl | omega) rfl (host := "") (.inl kw_328) dX11_write_26 (fun h8 => ?_)
      refine gw_get7 F (so_4 hst) (by decide) rfl sg_lay_RX7 (j := 3) (by decide) (o1 := 20) (by first | rfl | omega) rfl (.inr kw_240) dX11_write_29 (fun h9 => ?_)
      refine gw_iload_n F 1 rfl rfl dX11_write_32 ?_
      refine gw_iload_n F 2 rfl rfl dX11_write_33 ?_
      refine gk_HV F (gc_V F (S := []) (As := [sg_i x1, sg_i x2]) (T := TX2) (N := 3) (CX2_add (so_20 hst) r1 r2 hf) (so_20 hst) (by decide) rfl kw_643 kw_99 kw_640 kw_641 kw_642 hcX2_add ⟨by decide, by decide⟩ rfl rfl (Nat.le_of_ble_eq_true rfl) ⟨by decide, by decide⟩ dX11_write_34) (fun s10 hf => ?_)
      refine gw_aload_n F 0 rfl rfl (by decide) dX11_write_37 ?_
      refine gk_HV F (gc_V F (S := []) (As := []) (T := TX11) (N := 19) (CX11_forgetAnswers hst hf) (so_0 hst) (by decide) rfl kw_490 kw_90 kw_488 kw_489 kw_3 hcX11_forgetAnswers ⟨by decide, by decide⟩ rfl rfl (Nat.le_of_ble_eq_true rfl) ⟨by decide, by decide⟩ dX11_write_38) (fun s11 hf => ?_)
      refine gw_aload_n F 0 rfl rfl (by decide) dX11_write_41 ?_
      refine gw_get7 F (so_0 hst) (by decide) rfl sg_lay_RX11 (j := 2) (by decide) (o1 := 4) (by first | rfl | omega) rfl (host := "") (.inl kw_328) dX11_write_42 (fun h12 => ?_)
      refine gw_get7 F (so_4 hst) (by decide) rfl sg_lay_RX7 (j := 3) (by decide) (o1 := 20) (by first | rfl | omega) rfl (.inr kw_240) dX11_write_45 (fun h13 => ?_)
      refine gw_get0 F (so_20 hst) (by decide) rfl sg_lay_RX2 (j := 2) (by decide) rfl (.inr kw_230) dX11_write_48 (fun h14 => ?_)
      refine gw_iconst F dX11_write_51 ?_
      refine gw_isub F rfl dX11_write_52 ?_
      obtain ⟨g15, hf⟩ := hf
      exact gr_HI F g15 hf (by decide) (by decide) dX11_write_53
    · have hf := hf.2 c7
      refine gw_iconst F dX11_write_23 ?_
      exact gr_HI F (by decide) hf (by decide) (by decide) dX11_write_24

theorem dX11_where_0 : decode cX11_where 0 = .ok (.iload_n 1, 1) := by decide +kernel
theorem dX11_where_1 : decode cX11_where 1 = .ok (.iload_n 2, 1) := by decide +kernel
theorem dX11_where_2 : decode cX11_where 2 = .ok (.invokestatic 158, 3) := by decide +kernel
theorem dX11_where_5 : decode cX11_where 5 = .ok (.ifCond .ne 5, 3) := by decide +kernel
theorem dX11_where_8 : decode cX11_where 8 = .ok (.iconst (-1), 1) := by decide +kernel
theorem dX11_where_9 : decode cX11_where 9 = .ok (.ireturn, 1) := by decide +kernel
theorem dX11_where_10 : decode cX11_where 10 = .ok (.aload_n 0, 1) := by decide +kernel
theorem dX11_where_11 : decode cX11_where 11 = .ok (.getfield 54, 3) := by decide +kernel
theorem dX11_where_14 : decode cX11_where 14 = .ok (.aload_n 0, 1) := by decide +kernel
theorem dX11_where_15 : decode cX11_where 15 = .ok (.getfield 39, 3) := by decide +kernel
theorem dX11_where_18 : decode cX11_where 18 = .ok (.getfield 112, 3) := by decide +kernel
theorem dX11_where_21 : decode cX11_where 21 = .ok (.iload_n 1, 1) := by decide +kernel
theorem dX11_where_22 : decode cX11_where 22 = .ok (.iload_n 2, 1) := by decide +kernel
theorem dX11_where_23 : decode cX11_where 23 = .ok (.invokevirtual 171, 3) := by decide +kernel
theorem dX11_where_26 : decode cX11_where 26 = .ok (.aload_n 0, 1) := by decide +kernel
theorem dX11_where_27 : decode cX11_where 27 = .ok (.getfield 54, 3) := by decide +kernel
theorem dX11_where_30 : decode cX11_where 30 = .ok (.iload_n 3, 1) := by decide +kernel
theorem dX11_where_31 : decode cX11_where 31 = .ok (.iload 4, 2) := by decide +kernel
theorem dX11_where_33 : decode cX11_where 33 = .ok (.aload_n 0, 1) := by decide +kernel
theorem dX11_where_34 : decode cX11_where 34 = .ok (.getfield 65, 3) := by decide +kernel
theorem dX11_where_37 : decode cX11_where 37 = .ok (.invokevirtual 185, 3) := by decide +kernel
theorem dX11_where_40 : decode cX11_where 40 = .ok (.ifCond .eq 20, 3) := by decide +kernel
theorem dX11_where_43 : decode cX11_where 43 = .ok (.aload_n 0, 1) := by decide +kernel
theorem dX11_where_44 : decode cX11_where 44 = .ok (.getfield 54, 3) := by decide +kernel
theorem dX11_where_47 : decode cX11_where 47 = .ok (.iload_n 3, 1) := by decide +kernel
theorem dX11_where_48 : decode cX11_where 48 = .ok (.iload 5, 2) := by decide +kernel
theorem dX11_where_50 : decode cX11_where 50 = .ok (.aload_n 0, 1) := by decide +kernel
theorem dX11_where_51 : decode cX11_where 51 = .ok (.getfield 68, 3) := by decide +kernel
theorem dX11_where_54 : decode cX11_where 54 = .ok (.invokevirtual 185, 3) := by decide +kernel
theorem dX11_where_57 : decode cX11_where 57 = .ok (.ifCond .ne 5, 3) := by decide +kernel
theorem dX11_where_60 : decode cX11_where 60 = .ok (.iconst (-1), 1) := by decide +kernel
theorem dX11_where_61 : decode cX11_where 61 = .ok (.ireturn, 1) := by decide +kernel
theorem dX11_where_62 : decode cX11_where 62 = .ok (.iconst 0, 1) := by decide +kernel
theorem dX11_where_63 : decode cX11_where 63 = .ok (.istore 6, 2) := by decide +kernel
theorem dX11_where_65 : decode cX11_where 65 = .ok (.aload_n 0, 1) := by decide +kernel
theorem dX11_where_66 : decode cX11_where 66 = .ok (.getfield 65, 3) := by decide +kernel
theorem dX11_where_69 : decode cX11_where 69 = .ok (.getfield 208, 3) := by decide +kernel
theorem dX11_where_72 : decode cX11_where 72 = .ok (.iconst 0, 1) := by decide +kernel
theorem dX11_where_73 : decode cX11_where 73 = .ok (.invokevirtual 182, 3) := by decide +kernel
theorem dX11_where_76 : decode cX11_where 76 = .ok (.aload_n 0, 1) := by decide +kernel
theorem dX11_where_77 : decode cX11_where 77 = .ok (.getfield 68, 3) := by decide +kernel
theorem dX11_where_80 : decode cX11_where 80 = .ok (.getfield 208, 3) := by decide +kernel
theorem dX11_where_83 : decode cX11_where 83 = .ok (.iconst 0, 1) := by decide +kernel
theorem dX11_where_84 : decode cX11_where 84 = .ok (.invokevirtual 182, 3) := by decide +kernel
theorem dX11_where_87 : decode cX11_where 87 = .ok (.isub, 1) := by decide +kernel
theorem dX11_where_88 : decode cX11_where 88 = .ok (.istore 7, 2) := by decide +kernel
theorem dX11_where_90 : decode cX11_where 90 = .ok (.iconst 1, 1) := by decide +kernel
theorem dX11_where_91 : decode cX11_where 91 = .ok (.istore 8, 2) := by decide +kernel
theorem dX11_where_93 : decode cX11_where 93 = .ok (.iload 8, 2) := by decide +kernel
theorem dX11_where_95 : decode cX11_where 95 = .ok (.aload_n 0, 1) := by decide +kernel
theorem dX11_where_96 : decode cX11_where 96 = .ok (.getfield 65, 3) := by decide +kernel
theorem dX11_where_99 : decode cX11_where 99 = .ok (.getfield 208, 3) := by decide +kernel
theorem dX11_where_102 : decode cX11_where 102 = .ok (.getfield 181, 3) := by decide +kernel
theorem dX11_where_105 : decode cX11_where 105 = .ok (.if_icmp .ge 51, 3) := by decide +kernel
theorem dX11_where_108 : decode cX11_where 108 = .ok (.aload_n 0, 1) := by decide +kernel
theorem dX11_where_109 : decode cX11_where 109 = .ok (.getfield 65, 3) := by decide +kernel
theorem dX11_where_112 : decode cX11_where 112 = .ok (.getfield 208, 3) := by decide +kernel
theorem dX11_where_115 : decode cX11_where 115 = .ok (.iload 8, 2) := by decide +kernel
theorem dX11_where_117 : decode cX11_where 117 = .ok (.invokevirtual 182, 3) := by decide +kernel
theorem dX11_where_120 : decode cX11_where 120 = .ok (.aload_n 0, 1) := by decide +kernel
theorem dX11_where_121 : decode cX11_where 121 = .ok (.getfield 68, 3) := by decide +kernel
theorem dX11_where_124 : decode cX11_where 124 = .ok (.getfield 208, 3) := by decide +kernel
theorem dX11_where_127 : decode cX11_where 127 = .ok (.iload 8, 2) := by decide +kernel
theorem dX11_where_129 : decode cX11_where 129 = .ok (.invokevirtual 182, 3) := by decide +kernel
theorem dX11_where_132 : decode cX11_where 132 = .ok (.isub, 1) := by decide +kernel
theorem dX11_where_133 : decode cX11_where 133 = .ok (.istore 9, 2) := by decide +kernel
theorem dX11_where_135 : decode cX11_where 135 = .ok (.iload 9, 2) := by decide +kernel
theorem dX11_where_137 : decode cX11_where 137 = .ok (.iload 7, 2) := by decide +kernel
theorem dX11_where_139 : decode cX11_where 139 = .ok (.if_icmp .le 11, 3) := by decide +kernel
theorem dX11_where_142 : decode cX11_where 142 = .ok (.iload 8, 2) := by decide +kernel
theorem dX11_where_144 : decode cX11_where 144 = .ok (.istore 6, 2) := by decide +kernel
theorem dX11_where_146 : decode cX11_where 146 = .ok (.iload 9, 2) := by decide +kernel
theorem dX11_where_148 : decode cX11_where 148 = .ok (.istore 7, 2) := by decide +kernel
theorem dX11_where_150 : decode cX11_where 150 = .ok (.iinc 8 1, 3) := by decide +kernel
theorem dX11_where_153 : decode cX11_where 153 = .ok (.goto (-60), 3) := by decide +kernel
theorem dX11_where_156 : decode cX11_where 156 = .ok (.aload_n 0, 1) := by decide +kernel
theorem dX11_where_157 : decode cX11_where 157 = .ok (.iload 7, 2) := by decide +kernel
theorem dX11_where_159 : decode cX11_where 159 = .ok (.putfield 106, 3) := by decide +kernel
theorem dX11_where_162 : decode cX11_where 162 = .ok (.iload 6, 2) := by decide +kernel
theorem dX11_where_164 : decode cX11_where 164 = .ok (.ireturn, 1) := by decide +kernel
theorem hcX11_where : yX11_where.cls ≠ "java/lang/invoke/MethodHandle" ∧ yX11_where.cls ≠ "java/lang/invoke/VarHandle" ∧ (parseMethodDescriptor yX11_where.desc).map (fun d => d.parameters.length) = some 5 := ⟨by decide +kernel, by decide +kernel, by decide +kernel⟩
def fX11_where_j150 (x8_93 : Int) (k93 : Int → Int → Int → Prop) (x6_150 : Int) (x7_150 : Int) : Prop := sg_R (x8_93 + 1) ∧ k93 x6_150 x7_150 (x8_93 + 1)
def fX11_where_L93 (La : sg_L) (s20 : sg_M) (Q : Int → sg_M → Prop) : Nat → Int → Int → Int → Prop
  | 0, _, _, _ => False
  | n_93 + 1, x6_93, x7_93, x8_93 => (((s20 41 1) ≤ x8_93 → ∀ s34 : sg_M, s34 = sg_up s20 0 17 x7_93 → Q x6_93 s34) ∧ (¬ ((s20 41 1) ≤ x8_93) → fX4_at La s20 41 x8_93 (fun u38 => fX4_at La s20 44 x8_93 (fun u42 => sg_R (u38 - u42) ∧ (((u38 - u42) ≤ x7_93 → (fX11_where_j150 x8_93 (fX11_where_L93 La s20 Q n_93)) x6_93 x7_93) ∧ (¬ ((u38 - u42) ≤ x7_93) → (fX11_where_j150 x8_93 (fX11_where_L93 La s20 Q n_93)) x8_93 (u38 - u42)))))))
def fX11_where (La : sg_L) (s0 : sg_M) (x1 : Int) (x2 : Int) (x3 : Int) (x4 : Int) (x5 : Int) (Q : Int → sg_M → Prop) : Prop := fX11_isBend x1 x2 (fun u1 => ((u1 ≠ 0 → (0 ≤ (s0 4 0)) ∧ fX0_bendTo La s0 (s0 4 0) x1 x2 (fun s9 => fX0_sound La s9 x3 x4 40 (fun u12 s14 => ((u12 = 0 → Q (-1) s14) ∧ (¬ (u12 = 0) → fX0_sound La s14 x3 x5 43 (fun u18 s20 => ((u18 ≠ 0 → fX4_at La s20 41 0 (fun u24 => fX4_at La s20 44 0 (fun u28 => sg_R (u24 - u28) ∧ (∃ n48 : Nat, fX11_where_L93 La s20 Q n48 0 (u24 - u28) 1)))) ∧ (u18 = 0 → Q (-1) s20)))))))) ∧ (u1 = 0 → Q (-1) s0)))
set_option maxHeartbeats 4000000 in
set_option maxRecDepth 100000 in
theorem CX11_where {l : Launch} {G : sg_G} {La : sg_L} {s0 : sg_M} (hst : sg_St La) {x1 : Int} (r1 : sg_R x1) {x2 : Int} (r2 : sg_R x2) {x3 : Int} (r3 : sg_R x3) {x4 : Int} (r4 : sg_R x4) {x5 : Int} (r5 : sg_R x5) {Q : Int → sg_M → Prop} (hf : fX11_where La s0 x1 x2 x3 x4 x5 Q) : sg_C l G yX11_where cX11_where 10 (some .int) 5 0 0 La s0 [sg_r 0, sg_i x1, sg_i x2, sg_i x3, sg_i x4, sg_i x5] (sg_HI La Q) := by
  refine sg_body (by decide +kernel) (Nat.le_of_ble_eq_true rfl) ?_
  intro p e s m args below meth c F hnm
  unfold fX11_where at hf
  show sg_W p l e (sg_rm 5 0 0) s m args below meth c (MQ below (sg_Q (some .int) G La s.heap.size (sg_HI La Q)) args s 0 0 (sg_A La s.heap.size)) 10 G (sg_A La s.heap.size) La s0 0 0 0 [(0, sg_r 0), (1, sg_i x1), (2, sg_i x2), (3, sg_i x3), (4, sg_i x4), (5, sg_i x5)] []
  refine gw_iload_n F 1 rfl rfl dX11_where_0 ?_
  refine gw_iload_n F 2 rfl rfl dX11_where_1 ?_
  refine gk_PZ F (gc_S F (S := []) (As := [sg_i x1, sg_i x2]) (CX11_isBend r1 r2 hf) kw_502 kw_90 kw_500 kw_501 hcX11_isBend ⟨by decide, by decide⟩ rfl rfl (Nat.le_of_ble_eq_true rfl) ⟨by decide, by decide⟩ dX11_where_2) (fun u1 h2 hf => ?_)
  refine gw_if_ne F (tgt := 10) dX11_where_5 (by decide) (sg_B_R h2) (fun c3 => ?_) (fun c3 => ?_)
  · have hf := hf.1 c3
    refine gw_aload_n F 0 rfl rfl (by decide) dX11_where_10 ?_
    refine gw_get7 F (so_0 hst) (by decide) rfl sg_lay_RX11 (j := 5) (by decide) (o1 := 32) (by first | rfl | omega) rfl (host := "") (.inl kw_331) dX11_where_11 (fun h4 => ?_)
    refine gw_aload_n F 0 rfl rfl (by decide) dX11_where_14 ?_
    refine gw_get7 F (so_0 hst) (by decide) rfl sg_lay_RX11 (j := 2) (by decide) (o1 := 4) (by first | rfl | omega) rfl (host := "") (.inl kw_328) dX11_where_15 (fun h5 => ?_)
    refine gw_get4 F (so_4 hst) (by decide) rfl sg_lay_RX7 (j := 0) (by decide) rfl (.inr kw_234) dX11_where_18 (fun h6 => ?_)
    refine gw_iload_n F 1 rfl rfl dX11_where_21 ?_
    refine gw_iload_n F 2 rfl rfl dX11_where_22 ?_
    obtain ⟨g7, hf⟩ := hf
    have t8 := sg_nn h6 g7
    refine gk_HV F (gc_V F (S := []) (As := [sg_r (s0 4 0), sg_i x1, sg_i x2]) (T := TX0) (N := 11) (CX0_bendTo hst t8 r1 r2 hf) (so_32 hst) (by decide) rfl kw_506 kw_100 kw_503 kw_504 kw_505 hcX0_bendTo ⟨by decide, by decide⟩ rfl rfl (Nat.le_of_ble_eq_true rfl) ⟨by decide, by decide⟩ dX11_where_23) (fun s9 hf => ?_)
    refine gw_aload_n F 0 rfl rfl (by decide) dX11_where_26 ?_
    refine gw_get7 F (so_0 hst) (by decide) rfl sg_lay_RX11 (j := 5) (by decide) (o1 := 32) (by first | rfl | omega) rfl (host := "") (.inl kw_331) dX11_where_27 (fun h10 => ?_)
    refine gw_iload_n F 3 rfl rfl dX11_where_30 ?_
    refine gw_iload F 4 rfl dX11_where_31 ?_
    refine gw_aload_n F 0 rfl rfl (by decide) dX11_where_33 ?_
    refine gw_get7 F (so_0 hst) (by decide) rfl sg_lay_RX11 (j := 7) (by decide) (o1 := 40) (by first | rfl | omega) rfl (host := "") (.inl kw_333) dX11_where_34 (fun h11 => ?_)
    refine gk_HZ F (gc_V F (S := []) (As := [sg_i x3, sg_i x4, sg_r 40]) (T := TX0) (N := 11) (CX0_sound hst r3 r4 (so_40 hst) hf) (so_32 hst) (by decide) rfl kw_554 kw_100 kw_551 kw_552 kw_553 hcX0_sound ⟨by decide, by decide⟩ rfl rfl (Nat.le_of_ble_eq_true rfl) ⟨by decide, by decide⟩ dX11_where_37) (fun u12 s14 h13 hf => ?_)
    refine gw_if_eq F (tgt := 60) dX11_where_40 (by decide) (sg_B_R h13) (fun c15 => ?_) (fun c15 => ?_)
    · have hf := hf.1 c15
      refine gw_iconst F dX11_where_60 ?_
      exact gr_HI F (by decide) hf (by decide) (by decide) dX11_where_61
    · have hf := hf.2 c15
      refine gw_aload_n F 0 rfl rfl (by decide) dX11_where_43 ?_
      refine gw_get7 F (so_0 hst) (by decide) rfl sg_lay_RX11 (j := 5) (by decide) (o1 := 32) (by first | rfl | omega) rfl (host := "") (.inl kw_331) dX11_where_44 (fun h16 => ?_)
      refine gw_iload_n F 3 rfl rfl dX11_where_47 ?_
      refine gw_iload F 5 rfl dX11_where_48 ?_
      refine gw_aload_n F 0 rfl rfl (by decide) dX11_where_50 ?_
      refine gw_get7 F (so_0 hst) (by decide) rfl sg_lay_RX11 (j := 8) (by decide) (o1 := 43) (by first | rfl | omega) rfl (host := "") (.inl kw_334) dX11_where_51 (fun h17 => ?_)
      refine gk_HZ F (gc_V F (S := []) (As := [sg_i x3, sg_i x5, sg_r 43]) (T := TX0) (N := 11) (CX0_sound hst r3 r5 (so_43 hst) hf) (so_32 hst) (by decide) rfl kw_554 kw_100 kw_551 kw_552 kw_553 hcX0_sound ⟨by decide, by decide⟩ rfl rfl (Nat.le_of_ble_eq_true rfl) ⟨by decide, by decide⟩ dX11_where_54) (fun u18 s20 h19 hf => ?_)
      refine gw_if_ne F (tgt := 62) dX11_where_57 (by decide) (sg_B_R h19) (fun c21 => ?_) (fun c21 => ?_)
      · have hf := hf.1 c21
        refine gw_iconst F dX11_where_62 ?_
        refine gw_istore F (by decide) rfl dX11_where_63 ?_
        refine gw_aload_n F 1 rfl rfl (by decide) dX11_where_65 ?_
        refine gw_get7 F (so_0 hst) (by decide) rfl sg_lay_RX11 (j := 7) (by decide) (o1 := 40) (by first | rfl | omega) rfl (host := "") (.inl kw_333) dX11_where_66 (fun h22 => ?_)
        refine gw_get3 F (so_40 hst) (by decide) rfl sg_lay_RX10 (j := 0) (by decide) (o1 := 41) (by first | rfl | omega) rfl (.inr kw_284) dX11_where_69 (fun h23 => ?_)
        refine gw_iconst F dX11_where_72 ?_
        refine gk_PI F (gc_V F (S := []) (As := [sg_i 0]) (T := TX4) (N := 3) (CX4_at (so_41 hst) (by decide) hf) (so_41 hst) (by decide) rfl kw_546 kw_97 kw_543 kw_544 kw_545 hcX4_at ⟨by decide, by decide⟩ rfl rfl (Nat.le_of_ble_eq_true rfl) ⟨by decide, by decide⟩ dX11_where_73) (fun u24 h25 hf => ?_)
        refine gw_aload_n F 1 rfl rfl (by decide) dX11_where_76 ?_
        refine gw_get7 F (so_0 hst) (by decide) rfl sg_lay_RX11 (j := 8) (by decide) (o1 := 43) (by first | rfl | omega) rfl (host := "") (.inl kw_334) dX11_where_77 (fun h26 => ?_)
        refine gw_get3 F (so_43 hst) (by decide) rfl sg_lay_RX10 (j := 0) (by decide) (o1 := 44) (by first | rfl | omega) rfl (.inr kw_284) dX11_where_80 (fun h27 => ?_)
        refine gw_iconst F dX11_where_83 ?_
        refine gk_PI F (gc_V F (S := [sg_i u24]) (As := [sg_i 0]) (T := TX4) (N := 3) (CX4_at (so_44 hst) (by decide) hf) (so_44 hst) (by decide) rfl kw_546 kw_97 kw_543 kw_544 kw_545 hcX4_at ⟨by decide, by decide⟩ rfl rfl (Nat.le_of_ble_eq_true rfl) ⟨by decide, by decide⟩ dX11_where_84) (fun u28 h29 hf => ?_)
        refine gw_isub F rfl dX11_where_87 ?_
        refine gw_istore F (by decide) rfl dX11_where_88 ?_
        refine gw_iconst F dX11_where_90 ?_
        refine gw_istore F (by decide) rfl dX11_where_91 ?_
        have L93 : ∀ n_93 : Nat, ∀ (x6_93 : Int) (x7_93 : Int) (x8_93 : Int), sg_R x6_93 → sg_R x7_93 → sg_R x8_93 → fX11_where_L93 La s20 Q n_93 x6_93 x7_93 x8_93 → sg_W p l e (sg_rm 5 0 0) s m args below meth c (MQ below (sg_Q (some .int) G La s.heap.size (sg_HI La Q)) args s 0 0 (sg_A La s.heap.size)) 10 G (sg_A La s.heap.size) La s20 0 0 93 [(0, sg_r 0), (6, sg_i x6_93), (7, sg_i x7_93), (8, sg_i x8_93)] [] := by
          intro n_93
          induction n_93 with
          | zero => intro x6_93 x7_93 x8_93 r6_93 r7_93 r8_93 hf; exact hf.elim
          | succ n_93 ih =>
            intro x6_93 x7_93 x8_93 r6_93 r7_93 r8_93 hf
            unfold fX11_where_L93 at hf
            refine gw_iload F 3 rfl dX11_where_93 ?_
            refine gw_aload_n F 0 rfl rfl (by decide) dX11_where_95 ?_
            refine gw_get7 F (so_0 hst) (by decide) rfl sg_lay_RX11 (j := 7) (by decide) (o1 := 40) (by first | rfl | omega) rfl (host := "") (.inl kw_333) dX11_where_96 (fun h30 => ?_)
            refine gw_get3 F (so_40 hst) (by decide) rfl sg_lay_RX10 (j := 0) (by decide) (o1 := 41) (by first | rfl | omega) rfl (.inr kw_284) dX11_where_99 (fun h31 => ?_)
            refine gw_get0 F (so_41 hst) (by decide) rfl sg_lay_RX4 (j := 1) (by decide) rfl (.inr kw_204) dX11_where_102 (fun h32 => ?_)
            refine gw_icmp_ge F (tgt := 156) dX11_where_105 (by decide) r8_93 h32 (fun c33 => ?_) (fun c33 => ?_)
            · have hf := hf.1 c33
              refine gw_aload_n F 0 rfl rfl (by decide) dX11_where_156 ?_
              refine gw_iload F 2 rfl dX11_where_157 ?_
              obtain ⟨s34, e35⟩ : ∃ z : sg_M, z = sg_up s20 0 17 x7_93 := ⟨_, rfl⟩
              have hf := hf s34 e35
              refine gw_put0 F (so_0 hst) (by decide) rfl sg_lay_RX11 (j := 17) (by decide) r7_93 e35 tyX11_ok nmX11 rfl (tyX11_ok 17 (by decide)) rfl (host := "") (.inl kw_343) dX11_where_159 ?_
              refine gw_iload F 1 rfl dX11_where_162 ?_
              exact gr_HI F r6_93 hf (by decide) (by decide) dX11_where_164
            · have hf := hf.2 c33
              refine gw_aload_n F 0 rfl rfl (by decide) dX11_where_108 ?_
              refine gw_get7 F (so_0 hst) (by decide) rfl sg_lay_RX11 (j := 7) (by decide) (o1 := 40) (by first | rfl | omega) rfl (host := "") (.inl kw_333) dX11_where_109 (fun h36 => ?_)
              refine gw_get3 F (so_40 hst) (by decide) rfl sg_lay_RX10 (j := 0) (by decide) (o1 := 41) (by first | rfl | omega) rfl (.inr kw_284) dX11_where_112 (fun h37 => ?_)
              refine gw_iload F 3 rfl dX11_where_115 ?_
              refine gk_PI F (gc_V F (S := []) (As := [sg_i x8_93]) (T := TX4) (N := 3) (CX4_at (so_41 hst) r8_93 hf) (so_41 hst) (by decide) rfl kw_546 kw_97 kw_543 kw_544 kw_545 hcX4_at ⟨by decide, by decide⟩ rfl rfl (Nat.le_of_ble_eq_true rfl) ⟨by decide, by decide⟩ dX11_where_117) (fun u38 h39 hf => ?_)
              refine gw_aload_n F 0 rfl rfl (by decide) dX11_where_120 ?_
              refine gw_get7 F (so_0 hst) (by decide) rfl sg_lay_RX11 (j := 8) (by decide) (o1 := 43) (by first | rfl | omega) rfl (host := "") (.inl kw_334) dX11_where_121 (fun h40 => ?_)
              refine gw_get3 F (so_43 hst) (by decide) rfl sg_lay_RX10 (j := 0) (by decide) (o1 := 44) (by first | rfl | omega) rfl (.inr kw_284) dX11_where_124 (fun h41 => ?_)
              refine gw_iload F 3 rfl dX11_where_127 ?_
              refine gk_PI F (gc_V F (S := [sg_i u38]) (As := [sg_i x8_93]) (T := TX4) (N := 3) (CX4_at (so_44 hst) r8_93 hf) (so_44 hst) (by decide) rfl kw_546 kw_97 kw_543 kw_544 kw_545 hcX4_at ⟨by decide, by decide⟩ rfl rfl (Nat.le_of_ble_eq_true rfl) ⟨by decide, by decide⟩ dX11_where_129) (fun u42 h43 hf => ?_)
              refine gw_isub F rfl dX11_where_132 ?_
              refine gw_istore F (by decide) rfl dX11_where_133 ?_
              refine gw_iload F 0 rfl dX11_where_135 ?_
              refine gw_iload F 3 rfl dX11_where_137 ?_
              have J150 : ∀ (x6_150 : Int) (x7_150 : Int), sg_R x6_150 → sg_R x7_150 → (fX11_where_j150 x8_93 (fX11_where_L93 La s20 Q n_93)) x6_150 x7_150 → sg_W p l e (sg_rm 5 0 0) s m args below meth c (MQ below (sg_Q (some .int) G La s.heap.size (sg_HI La Q)) args s 0 0 (sg_A La s.heap.size)) 10 G (sg_A La s.heap.size) La s20 0 0 150 [(0, sg_r 0), (6, sg_i x6_150), (7, sg_i x7_150), (8, sg_i x8_93)] [] := by
                intro x6_150 x7_150 r6_150 r7_150 hf
                unfold fX11_where_j150 at hf
                refine gw_iinc F (z := (x8_93 + 1)) 3 rfl (by omega) (by decide) rfl dX11_where_150 ?_
                refine gw_goto F (tgt := 93) dX11_where_153 (by decide) ?_
                obtain ⟨g44, hf⟩ := hf
                refine gw_sub [1, 2, 3, 0] rfl ?_
                exact ih x6_150 x7_150 (x8_93 + 1) r6_150 r7_150 g44 hf
              obtain ⟨g45, hf⟩ := hf
              refine gw_icmp_le F (tgt := 150) dX11_where_139 (by decide) g45 r7_93 (fun c46 => ?_) (fun c46 => ?_)
              · have hf := hf.1 c46
                refine gw_sub [1, 2, 3, 4] rfl ?_
                exact J150 x6_93 x7_93 r6_93 r7_93 hf
              · have hf := hf.2 c46
                refine gw_iload F 4 rfl dX11_where_142 ?_
                refine gw_istore F (by decide) rfl dX11_where_144 ?_
                refine gw_iload F 1 rfl dX11_where_146 ?_
                refine gw_istore F (by decide) rfl dX11_where_148 ?_
                refine gw_sub [3, 1, 0, 4] rfl ?_
                exact J150 x8_93 (u38 - u42) r8_93 g45 hf
        obtain ⟨g47, hf⟩ := hf
        obtain ⟨n48, hf⟩ := hf
        refine gw_sub [3, 2, 1, 0] rfl ?_
        refine L93   n48 0 (u24 - u28) 1 (by decide) g47 (by decide) hf
      · have hf := hf.2 c21
        refine gw_iconst F dX11_where_60 ?_
        exact gr_HI F (by decide) hf (by decide) (by decide) dX11_where_61
  · have hf := hf.2 c3
    refine gw_iconst F dX11_where_8 ?_
    exact gr_HI F (by decide) hf (by decide) (by decide) dX11_where_9

theorem dX11_fault_0 : decode cX11_fault 0 = .ok (.aload_n 0, 1) := by decide +kernel
theorem dX11_fault_1 : decode cX11_fault 1 = .ok (.getfield 102, 3) := by decide +kernel
theorem dX11_fault_4 : decode cX11_fault 4 = .ok (.ireturn, 1) := by decide +kernel
theorem hcX11_fault : yX11_fault.cls ≠ "java/lang/invoke/MethodHandle" ∧ yX11_fault.cls ≠ "java/lang/invoke/VarHandle" ∧ (parseMethodDescriptor yX11_fault.desc).map (fun d => d.parameters.length) = some 0 := ⟨by decide +kernel, by decide +kernel, by decide +kernel⟩
def fX11_fault (s0 : sg_M) (Q : Int → Prop) : Prop := Q (s0 0 16)
set_option maxHeartbeats 4000000 in
set_option maxRecDepth 100000 in
theorem CX11_fault {l : Launch} {G : sg_G} {La : sg_L} {s0 : sg_M} (hst : sg_St La) {Q : Int → Prop} (hf : fX11_fault s0 Q) : sg_C l G yX11_fault cX11_fault 1 (some .int) 1 0 0 La s0 [sg_r 0] (sg_PI La s0 Q) := by
  refine sg_body (by decide +kernel) (Nat.le_of_ble_eq_true rfl) ?_
  intro p e s m args below meth c F hnm
  unfold fX11_fault at hf
  show sg_W p l e (sg_rm 1 0 0) s m args below meth c (MQ below (sg_Q (some .int) G La s.heap.size (sg_PI La s0 Q)) args s 0 0 (sg_A La s.heap.size)) 1 G (sg_A La s.heap.size) La s0 0 0 0 [(0, sg_r 0)] []
  refine gw_aload_n F 0 rfl rfl (by decide) dX11_fault_0 ?_
  refine gw_get0 F (so_0 hst) (by decide) rfl sg_lay_RX11 (j := 16) (by decide) rfl (host := "") (.inl kw_342) dX11_fault_1 (fun h1 => ?_)
  exact gr_PI F h1 hf (by decide) (by decide) dX11_fault_4
