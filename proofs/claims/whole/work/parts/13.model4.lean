theorem dX12_come_0 : decode cX12_come 0 = .ok (.bipush 24, 2) := by decide +kernel
theorem dX12_come_2 : decode cX12_come 2 = .ok (.istore_n 2, 1) := by decide +kernel
theorem dX12_come_3 : decode cX12_come 3 = .ok (.iload_n 2, 1) := by decide +kernel
theorem dX12_come_4 : decode cX12_come 4 = .ok (.ifCond .lt 35, 3) := by decide +kernel
theorem dX12_come_7 : decode cX12_come 7 = .ok (.aload_n 0, 1) := by decide +kernel
theorem dX12_come_8 : decode cX12_come 8 = .ok (.getfield 7, 3) := by decide +kernel
theorem dX12_come_11 : decode cX12_come 11 = .ok (.aload_n 0, 1) := by decide +kernel
theorem dX12_come_12 : decode cX12_come 12 = .ok (.getfield 87, 3) := by decide +kernel
theorem dX12_come_15 : decode cX12_come 15 = .ok (.iload_n 1, 1) := by decide +kernel
theorem dX12_come_16 : decode cX12_come 16 = .ok (.iload_n 2, 1) := by decide +kernel
theorem dX12_come_17 : decode cX12_come 17 = .ok (.iushr, 1) := by decide +kernel
theorem dX12_come_18 : decode cX12_come 18 = .ok (.sipush 255, 3) := by decide +kernel
theorem dX12_come_21 : decode cX12_come 21 = .ok (.iand, 1) := by decide +kernel
theorem dX12_come_22 : decode cX12_come 22 = .ok (.iastore, 1) := by decide +kernel
theorem dX12_come_23 : decode cX12_come 23 = .ok (.aload_n 0, 1) := by decide +kernel
theorem dX12_come_24 : decode cX12_come 24 = .ok (.dup, 1) := by decide +kernel
theorem dX12_come_25 : decode cX12_come 25 = .ok (.getfield 87, 3) := by decide +kernel
theorem dX12_come_28 : decode cX12_come 28 = .ok (.iconst 1, 1) := by decide +kernel
theorem dX12_come_29 : decode cX12_come 29 = .ok (.iadd, 1) := by decide +kernel
theorem dX12_come_30 : decode cX12_come 30 = .ok (.putfield 87, 3) := by decide +kernel
theorem dX12_come_33 : decode cX12_come 33 = .ok (.iinc 2 (-8), 3) := by decide +kernel
theorem dX12_come_36 : decode cX12_come 36 = .ok (.goto (-33), 3) := by decide +kernel
theorem dX12_come_39 : decode cX12_come 39 = .ok (.return_, 1) := by decide +kernel
theorem hcX12_come : yX12_come.cls ≠ "java/lang/invoke/MethodHandle" ∧ yX12_come.cls ≠ "java/lang/invoke/VarHandle" ∧ (parseMethodDescriptor yX12_come.desc).map (fun d => d.parameters.length) = some 1 := ⟨by decide +kernel, by decide +kernel, by decide +kernel⟩
def fX12_come_L3 (x1 : Int) (Q : sg_M → Prop) : Nat → sg_M → Int → Prop
  | 0, _, _ => False
  | n_3 + 1, s_3, x2_3 => ((x2_3 < 0 → Q s_3) ∧ (¬ (x2_3 < 0) → (0 ≤ (s_3 64 2) ∧ (s_3 64 2) < 540) ∧ ∀ s5 : sg_M, s5 = sg_up s_3 65 (s_3 64 2) (sg_and (sg_ushr x1 x2_3) 255) → sg_R ((s5 64 2) + 1) ∧ ∀ s9 : sg_M, s9 = sg_up s5 64 2 ((s5 64 2) + 1) → sg_R (x2_3 - 8) ∧ (fX12_come_L3 x1 Q n_3) s9 (x2_3 - 8)))
def fX12_come (s0 : sg_M) (x1 : Int) (Q : sg_M → Prop) : Prop := (∃ n12 : Nat, fX12_come_L3 x1 Q n12 s0 24)
set_option maxHeartbeats 4000000 in
set_option maxRecDepth 100000 in
theorem CX12_come {l : Launch} {G : sg_G} {La : sg_L} {s0 : sg_M} (hst : sg_St La) {x1 : Int} (r1 : sg_R x1) {Q : sg_M → Prop} (hf : fX12_come s0 x1 Q) : sg_C l G yX12_come cX12_come 3 (none) 1 0 0 La s0 [sg_r 64, sg_i x1] (sg_HV La Q) := by
  refine sg_body (by decide +kernel) (Nat.le_of_ble_eq_true rfl) ?_
  intro p e s m args below meth c F hnm
  unfold fX12_come at hf
  show sg_W p l e (sg_rm 1 0 0) s m args below meth c (MQ below (sg_Q (none) G La s.heap.size (sg_HV La Q)) args s 0 0 (sg_A La s.heap.size)) 3 G (sg_A La s.heap.size) La s0 0 0 0 [(0, sg_r 64), (1, sg_i x1)] []
  refine gw_bipush F rfl dX12_come_0 ?_
  refine gw_istore_n F rfl (by decide) rfl dX12_come_2 ?_
  have L3 : ∀ n_3 : Nat, ∀ (s_3 : sg_M) (x2_3 : Int), sg_R x2_3 → fX12_come_L3 x1 Q n_3 s_3 x2_3 → sg_W p l e (sg_rm 1 0 0) s m args below meth c (MQ below (sg_Q (none) G La s.heap.size (sg_HV La Q)) args s 0 0 (sg_A La s.heap.size)) 3 G (sg_A La s.heap.size) La s_3 0 0 3 [(0, sg_r 64), (1, sg_i x1), (2, sg_i x2_3)] [] := by
    intro n_3
    induction n_3 with
    | zero => intro s_3 x2_3 r2_3 hf; exact hf.elim
    | succ n_3 ih =>
      intro s_3 x2_3 r2_3 hf
      unfold fX12_come_L3 at hf
      refine gw_iload_n F 2 rfl rfl dX12_come_3 ?_
      refine gw_if_lt F (tgt := 39) dX12_come_4 (by decide) r2_3 (fun c1 => ?_) (fun c1 => ?_)
      · have hf := hf.1 c1
        exact gr_HV F hf (by decide) (by decide) dX12_come_39
      · have hf := hf.2 c1
        refine gw_aload_n F 0 rfl rfl (by decide) dX12_come_7 ?_
        refine gw_get7 F (so_64 hst) (by decide) rfl sg_lay_RX12 (j := 1) (by decide) (o1 := 65) (by first | rfl | omega) rfl (host := "") (.inl kw_948) dX12_come_8 (fun h2 => ?_)
        refine gw_aload_n F 0 rfl rfl (by decide) dX12_come_11 ?_
        refine gw_get0 F (so_64 hst) (by decide) rfl sg_lay_RX12 (j := 2) (by decide) rfl (host := "") (.inl kw_949) dX12_come_12 (fun h3 => ?_)
        refine gw_iload_n F 1 rfl rfl dX12_come_15 ?_
        refine gw_iload_n F 2 rfl rfl dX12_come_16 ?_
        refine gw_iushr F rfl dX12_come_17 ?_
        refine gw_sipush F rfl dX12_come_18 ?_
        refine gw_iand F rfl dX12_come_21 ?_
        obtain ⟨⟨b40, b41⟩, hf⟩ := hf
        obtain ⟨s5, e6⟩ : ∃ z : sg_M, z = sg_up s_3 65 (s_3 64 2) (sg_and (sg_ushr x1 x2_3) 255) := ⟨_, rfl⟩
        have hf := hf s5 e6
        refine gw_iast F (sa_65 hst) b40 b41 (sg_and_R _ _) e6 dX12_come_22 ?_
        refine gw_aload_n F 0 rfl rfl (by decide) dX12_come_23 ?_
        refine gw_dup F rfl dX12_come_24 ?_
        refine gw_get0 F (so_64 hst) (by decide) rfl sg_lay_RX12 (j := 2) (by decide) rfl (host := "") (.inl kw_949) dX12_come_25 (fun h7 => ?_)
        refine gw_iconst F dX12_come_28 ?_
        refine gw_iadd F rfl dX12_come_29 ?_
        obtain ⟨g8, hf⟩ := hf
        obtain ⟨s9, e10⟩ : ∃ z : sg_M, z = sg_up s5 64 2 ((s5 64 2) + 1) := ⟨_, rfl⟩
        have hf := hf s9 e10
        refine gw_put0 F (so_64 hst) (by decide) rfl sg_lay_RX12 (j := 2) (by decide) g8 e10 tyX12_ok nmX12 rfl (tyX12_ok 2 (by decide)) rfl (host := "") (.inl kw_949) dX12_come_30 ?_
        refine gw_iinc F (z := (x2_3 - 8)) 2 rfl (by omega) (by decide) rfl dX12_come_33 ?_
        refine gw_goto F (tgt := 3) dX12_come_36 (by decide) ?_
        obtain ⟨g11, hf⟩ := hf
        refine gw_sub [1, 2, 0] rfl ?_
        exact ih s9 (x2_3 - 8) g11 hf
  obtain ⟨n12, hf⟩ := hf
  refine gw_sub [1, 2, 0] rfl ?_
  refine L3   n12 s0 24 (by decide) hf

theorem dX12_feed_0 : decode cX12_feed 0 = .ok (.aload_n 0, 1) := by decide +kernel
theorem dX12_feed_1 : decode cX12_feed 1 = .ok (.iconst 0, 1) := by decide +kernel
theorem dX12_feed_2 : decode cX12_feed 2 = .ok (.putfield 84, 3) := by decide +kernel
theorem dX12_feed_5 : decode cX12_feed 5 = .ok (.aload_n 0, 1) := by decide +kernel
theorem dX12_feed_6 : decode cX12_feed 6 = .ok (.getfield 87, 3) := by decide +kernel
theorem dX12_feed_9 : decode cX12_feed 9 = .ok (.bipush 20, 2) := by decide +kernel
theorem dX12_feed_11 : decode cX12_feed 11 = .ok (.iadd, 1) := by decide +kernel
theorem dX12_feed_12 : decode cX12_feed 12 = .ok (.sipush 540, 3) := by decide +kernel
theorem dX12_feed_15 : decode cX12_feed 15 = .ok (.if_icmp .le 5, 3) := by decide +kernel
theorem dX12_feed_18 : decode cX12_feed 18 = .ok (.iconst (-1), 1) := by decide +kernel
theorem dX12_feed_19 : decode cX12_feed 19 = .ok (.ireturn, 1) := by decide +kernel
theorem dX12_feed_20 : decode cX12_feed 20 = .ok (.aload_n 0, 1) := by decide +kernel
theorem dX12_feed_21 : decode cX12_feed 21 = .ok (.iload_n 1, 1) := by decide +kernel
theorem dX12_feed_22 : decode cX12_feed 22 = .ok (.invokevirtual 90, 3) := by decide +kernel
theorem dX12_feed_25 : decode cX12_feed 25 = .ok (.aload_n 0, 1) := by decide +kernel
theorem dX12_feed_26 : decode cX12_feed 26 = .ok (.iload_n 2, 1) := by decide +kernel
theorem dX12_feed_27 : decode cX12_feed 27 = .ok (.invokevirtual 90, 3) := by decide +kernel
theorem dX12_feed_30 : decode cX12_feed 30 = .ok (.aload_n 0, 1) := by decide +kernel
theorem dX12_feed_31 : decode cX12_feed 31 = .ok (.iload_n 3, 1) := by decide +kernel
theorem dX12_feed_32 : decode cX12_feed 32 = .ok (.invokevirtual 90, 3) := by decide +kernel
theorem dX12_feed_35 : decode cX12_feed 35 = .ok (.aload_n 0, 1) := by decide +kernel
theorem dX12_feed_36 : decode cX12_feed 36 = .ok (.iload 4, 2) := by decide +kernel
theorem dX12_feed_38 : decode cX12_feed 38 = .ok (.invokevirtual 90, 3) := by decide +kernel
theorem dX12_feed_41 : decode cX12_feed 41 = .ok (.aload_n 0, 1) := by decide +kernel
theorem dX12_feed_42 : decode cX12_feed 42 = .ok (.iload 5, 2) := by decide +kernel
theorem dX12_feed_44 : decode cX12_feed 44 = .ok (.invokevirtual 90, 3) := by decide +kernel
theorem dX12_feed_47 : decode cX12_feed 47 = .ok (.aload_n 0, 1) := by decide +kernel
theorem dX12_feed_48 : decode cX12_feed 48 = .ok (.getfield 87, 3) := by decide +kernel
theorem dX12_feed_51 : decode cX12_feed 51 = .ok (.ireturn, 1) := by decide +kernel
theorem hcX12_feed : yX12_feed.cls ≠ "java/lang/invoke/MethodHandle" ∧ yX12_feed.cls ≠ "java/lang/invoke/VarHandle" ∧ (parseMethodDescriptor yX12_feed.desc).map (fun d => d.parameters.length) = some 5 := ⟨by decide +kernel, by decide +kernel, by decide +kernel⟩
def fX12_feed (s0 : sg_M) (x1 : Int) (x2 : Int) (x3 : Int) (x4 : Int) (x5 : Int) (Q : Int → sg_M → Prop) : Prop := ∀ s1 : sg_M, s1 = sg_up s0 64 0 0 → sg_R ((s1 64 2) + 20) ∧ ((((s1 64 2) + 20) ≤ 540 → fX12_come s1 x1 (fun s6 => fX12_come s6 x2 (fun s7 => fX12_come s7 x3 (fun s8 => fX12_come s8 x4 (fun s9 => fX12_come s9 x5 (fun s10 => Q (s10 64 2) s10)))))) ∧ (¬ (((s1 64 2) + 20) ≤ 540) → Q (-1) s1))
set_option maxHeartbeats 4000000 in
set_option maxRecDepth 100000 in
theorem CX12_feed {l : Launch} {G : sg_G} {La : sg_L} {s0 : sg_M} (hst : sg_St La) {x1 : Int} (r1 : sg_R x1) {x2 : Int} (r2 : sg_R x2) {x3 : Int} (r3 : sg_R x3) {x4 : Int} (r4 : sg_R x4) {x5 : Int} (r5 : sg_R x5) {Q : Int → sg_M → Prop} (hf : fX12_feed s0 x1 x2 x3 x4 x5 Q) : sg_C l G yX12_feed cX12_feed 6 (some .int) 2 0 0 La s0 [sg_r 64, sg_i x1, sg_i x2, sg_i x3, sg_i x4, sg_i x5] (sg_HI La Q) := by
  refine sg_body (by decide +kernel) (Nat.le_of_ble_eq_true rfl) ?_
  intro p e s m args below meth c F hnm
  unfold fX12_feed at hf
  show sg_W p l e (sg_rm 2 0 0) s m args below meth c (MQ below (sg_Q (some .int) G La s.heap.size (sg_HI La Q)) args s 0 0 (sg_A La s.heap.size)) 6 G (sg_A La s.heap.size) La s0 0 0 0 [(0, sg_r 64), (1, sg_i x1), (2, sg_i x2), (3, sg_i x3), (4, sg_i x4), (5, sg_i x5)] []
  refine gw_aload_n F 0 rfl rfl (by decide) dX12_feed_0 ?_
  refine gw_iconst F dX12_feed_1 ?_
  obtain ⟨s1, e2⟩ : ∃ z : sg_M, z = sg_up s0 64 0 0 := ⟨_, rfl⟩
  have hf := hf s1 e2
  refine gw_put0 F (so_64 hst) (by decide) rfl sg_lay_RX12 (j := 0) (by decide) (by decide) e2 tyX12_ok nmX12 rfl (tyX12_ok 0 (by decide)) rfl (host := "") (.inl kw_947) dX12_feed_2 ?_
  refine gw_aload_n F 0 rfl rfl (by decide) dX12_feed_5 ?_
  refine gw_get0 F (so_64 hst) (by decide) rfl sg_lay_RX12 (j := 2) (by decide) rfl (host := "") (.inl kw_949) dX12_feed_6 (fun h3 => ?_)
  refine gw_bipush F rfl dX12_feed_9 ?_
  refine gw_iadd F rfl dX12_feed_11 ?_
  refine gw_sipush F rfl dX12_feed_12 ?_
  obtain ⟨g4, hf⟩ := hf
  refine gw_icmp_le F (tgt := 20) dX12_feed_15 (by decide) g4 (by decide) (fun c5 => ?_) (fun c5 => ?_)
  · have hf := hf.1 c5
    refine gw_aload_n F 0 rfl rfl (by decide) dX12_feed_20 ?_
    refine gw_iload_n F 1 rfl rfl dX12_feed_21 ?_
    refine gk_HV F (gc_V F (S := []) (As := [sg_i x1]) (T := TX12) (N := 62) (CX12_come hst r1 hf) (so_64 hst) (by decide) rfl kw_1020 kw_103 kw_1018 kw_1019 kw_39 hcX12_come ⟨by decide, by decide⟩ rfl rfl (Nat.le_of_ble_eq_true rfl) ⟨by decide, by decide⟩ dX12_feed_22) (fun s6 hf => ?_)
    refine gw_aload_n F 0 rfl rfl (by decide) dX12_feed_25 ?_
    refine gw_iload_n F 2 rfl rfl dX12_feed_26 ?_
    refine gk_HV F (gc_V F (S := []) (As := [sg_i x2]) (T := TX12) (N := 62) (CX12_come hst r2 hf) (so_64 hst) (by decide) rfl kw_1020 kw_103 kw_1018 kw_1019 kw_39 hcX12_come ⟨by decide, by decide⟩ rfl rfl (Nat.le_of_ble_eq_true rfl) ⟨by decide, by decide⟩ dX12_feed_27) (fun s7 hf => ?_)
    refine gw_aload_n F 0 rfl rfl (by decide) dX12_feed_30 ?_
    refine gw_iload_n F 3 rfl rfl dX12_feed_31 ?_
    refine gk_HV F (gc_V F (S := []) (As := [sg_i x3]) (T := TX12) (N := 62) (CX12_come hst r3 hf) (so_64 hst) (by decide) rfl kw_1020 kw_103 kw_1018 kw_1019 kw_39 hcX12_come ⟨by decide, by decide⟩ rfl rfl (Nat.le_of_ble_eq_true rfl) ⟨by decide, by decide⟩ dX12_feed_32) (fun s8 hf => ?_)
    refine gw_aload_n F 0 rfl rfl (by decide) dX12_feed_35 ?_
    refine gw_iload F 4 rfl dX12_feed_36 ?_
    refine gk_HV F (gc_V F (S := []) (As := [sg_i x4]) (T := TX12) (N := 62) (CX12_come hst r4 hf) (so_64 hst) (by decide) rfl kw_1020 kw_103 kw_1018 kw_1019 kw_39 hcX12_come ⟨by decide, by decide⟩ rfl rfl (Nat.le_of_ble_eq_true rfl) ⟨by decide, by decide⟩ dX12_feed_38) (fun s9 hf => ?_)
    refine gw_aload_n F 0 rfl rfl (by decide) dX12_feed_41 ?_
    refine gw_iload F 5 rfl dX12_feed_42 ?_
    refine gk_HV F (gc_V F (S := []) (As := [sg_i x5]) (T := TX12) (N := 62) (CX12_come hst r5 hf) (so_64 hst) (by decide) rfl kw_1020 kw_103 kw_1018 kw_1019 kw_39 hcX12_come ⟨by decide, by decide⟩ rfl rfl (Nat.le_of_ble_eq_true rfl) ⟨by decide, by decide⟩ dX12_feed_44) (fun s10 hf => ?_)
    refine gw_aload_n F 0 rfl rfl (by decide) dX12_feed_47 ?_
    refine gw_get0 F (so_64 hst) (by decide) rfl sg_lay_RX12 (j := 2) (by decide) rfl (host := "") (.inl kw_949) dX12_feed_48 (fun h11 => ?_)
    exact gr_HI F h11 hf (by decide) (by decide) dX12_feed_51
  · have hf := hf.2 c5
    refine gw_iconst F dX12_feed_18 ?_
    exact gr_HI F (by decide) hf (by decide) (by decide) dX12_feed_19

theorem dX12_lays_0 : decode cX12_lays 0 = .ok (.iconst 4, 1) := by decide +kernel
theorem dX12_lays_1 : decode cX12_lays 1 = .ok (.aload_n 0, 1) := by decide +kernel
theorem dX12_lays_2 : decode cX12_lays 2 = .ok (.getfield 362, 3) := by decide +kernel
theorem dX12_lays_5 : decode cX12_lays 5 = .ok (.imul, 1) := by decide +kernel
theorem dX12_lays_6 : decode cX12_lays 6 = .ok (.istore 5, 2) := by decide +kernel
theorem dX12_lays_8 : decode cX12_lays 8 = .ok (.aload_n 0, 1) := by decide +kernel
theorem dX12_lays_9 : decode cX12_lays 9 = .ok (.getfield 81, 3) := by decide +kernel
theorem dX12_lays_12 : decode cX12_lays 12 = .ok (.iload 5, 2) := by decide +kernel
theorem dX12_lays_14 : decode cX12_lays 14 = .ok (.iload_n 1, 1) := by decide +kernel
theorem dX12_lays_15 : decode cX12_lays 15 = .ok (.iastore, 1) := by decide +kernel
theorem dX12_lays_16 : decode cX12_lays 16 = .ok (.aload_n 0, 1) := by decide +kernel
theorem dX12_lays_17 : decode cX12_lays 17 = .ok (.getfield 81, 3) := by decide +kernel
theorem dX12_lays_20 : decode cX12_lays 20 = .ok (.iload 5, 2) := by decide +kernel
theorem dX12_lays_22 : decode cX12_lays 22 = .ok (.iconst 1, 1) := by decide +kernel
theorem dX12_lays_23 : decode cX12_lays 23 = .ok (.iadd, 1) := by decide +kernel
theorem dX12_lays_24 : decode cX12_lays 24 = .ok (.iload_n 2, 1) := by decide +kernel
theorem dX12_lays_25 : decode cX12_lays 25 = .ok (.iastore, 1) := by decide +kernel
theorem dX12_lays_26 : decode cX12_lays 26 = .ok (.aload_n 0, 1) := by decide +kernel
theorem dX12_lays_27 : decode cX12_lays 27 = .ok (.getfield 81, 3) := by decide +kernel
theorem dX12_lays_30 : decode cX12_lays 30 = .ok (.iload 5, 2) := by decide +kernel
theorem dX12_lays_32 : decode cX12_lays 32 = .ok (.iconst 2, 1) := by decide +kernel
theorem dX12_lays_33 : decode cX12_lays 33 = .ok (.iadd, 1) := by decide +kernel
theorem dX12_lays_34 : decode cX12_lays 34 = .ok (.iload_n 3, 1) := by decide +kernel
theorem dX12_lays_35 : decode cX12_lays 35 = .ok (.iastore, 1) := by decide +kernel
theorem dX12_lays_36 : decode cX12_lays 36 = .ok (.aload_n 0, 1) := by decide +kernel
theorem dX12_lays_37 : decode cX12_lays 37 = .ok (.getfield 81, 3) := by decide +kernel
theorem dX12_lays_40 : decode cX12_lays 40 = .ok (.iload 5, 2) := by decide +kernel
theorem dX12_lays_42 : decode cX12_lays 42 = .ok (.iconst 3, 1) := by decide +kernel
theorem dX12_lays_43 : decode cX12_lays 43 = .ok (.iadd, 1) := by decide +kernel
theorem dX12_lays_44 : decode cX12_lays 44 = .ok (.iload 4, 2) := by decide +kernel
theorem dX12_lays_46 : decode cX12_lays 46 = .ok (.iastore, 1) := by decide +kernel
theorem dX12_lays_47 : decode cX12_lays 47 = .ok (.aload_n 0, 1) := by decide +kernel
theorem dX12_lays_48 : decode cX12_lays 48 = .ok (.dup, 1) := by decide +kernel
theorem dX12_lays_49 : decode cX12_lays 49 = .ok (.getfield 362, 3) := by decide +kernel
theorem dX12_lays_52 : decode cX12_lays 52 = .ok (.iconst 1, 1) := by decide +kernel
theorem dX12_lays_53 : decode cX12_lays 53 = .ok (.iadd, 1) := by decide +kernel
theorem dX12_lays_54 : decode cX12_lays 54 = .ok (.putfield 362, 3) := by decide +kernel
theorem dX12_lays_57 : decode cX12_lays 57 = .ok (.aload_n 0, 1) := by decide +kernel
theorem dX12_lays_58 : decode cX12_lays 58 = .ok (.getfield 362, 3) := by decide +kernel
theorem dX12_lays_61 : decode cX12_lays 61 = .ok (.iconst 1, 1) := by decide +kernel
theorem dX12_lays_62 : decode cX12_lays 62 = .ok (.isub, 1) := by decide +kernel
theorem dX12_lays_63 : decode cX12_lays 63 = .ok (.ireturn, 1) := by decide +kernel
theorem hcX12_lays : yX12_lays.cls ≠ "java/lang/invoke/MethodHandle" ∧ yX12_lays.cls ≠ "java/lang/invoke/VarHandle" ∧ (parseMethodDescriptor yX12_lays.desc).map (fun d => d.parameters.length) = some 4 := ⟨by decide +kernel, by decide +kernel, by decide +kernel⟩
def fX12_lays (s0 : sg_M) (x1 : Int) (x2 : Int) (x3 : Int) (x4 : Int) (Q : Int → sg_M → Prop) : Prop := (0 ≤ (4 * (s0 64 58)) ∧ (4 * (s0 64 58)) < 240) ∧ ∀ s4 : sg_M, s4 = sg_up s0 87 (4 * (s0 64 58)) x1 → (0 ≤ ((4 * (s0 64 58)) + 1) ∧ ((4 * (s0 64 58)) + 1) < 240) ∧ ∀ s8 : sg_M, s8 = sg_up s4 87 ((4 * (s0 64 58)) + 1) x2 → (0 ≤ ((4 * (s0 64 58)) + 2) ∧ ((4 * (s0 64 58)) + 2) < 240) ∧ ∀ s12 : sg_M, s12 = sg_up s8 87 ((4 * (s0 64 58)) + 2) x3 → (0 ≤ ((4 * (s0 64 58)) + 3) ∧ ((4 * (s0 64 58)) + 3) < 240) ∧ ∀ s16 : sg_M, s16 = sg_up s12 87 ((4 * (s0 64 58)) + 3) x4 → sg_R ((s16 64 58) + 1) ∧ ∀ s20 : sg_M, s20 = sg_up s16 64 58 ((s16 64 58) + 1) → sg_R ((s20 64 58) - 1) ∧ Q ((s20 64 58) - 1) s20
set_option maxHeartbeats 4000000 in
set_option maxRecDepth 100000 in
theorem CX12_lays {l : Launch} {G : sg_G} {La : sg_L} {s0 : sg_M} (hst : sg_St La) {x1 : Int} (r1 : sg_R x1) {x2 : Int} (r2 : sg_R x2) {x3 : Int} (r3 : sg_R x3) {x4 : Int} (r4 : sg_R x4) {Q : Int → sg_M → Prop} (hf : fX12_lays s0 x1 x2 x3 x4 Q) : sg_C l G yX12_lays cX12_lays 6 (some .int) 1 0 0 La s0 [sg_r 64, sg_i x1, sg_i x2, sg_i x3, sg_i x4] (sg_HI La Q) := by
  refine sg_body (by decide +kernel) (Nat.le_of_ble_eq_true rfl) ?_
  intro p e s m args below meth c F hnm
  unfold fX12_lays at hf
  show sg_W p l e (sg_rm 1 0 0) s m args below meth c (MQ below (sg_Q (some .int) G La s.heap.size (sg_HI La Q)) args s 0 0 (sg_A La s.heap.size)) 6 G (sg_A La s.heap.size) La s0 0 0 0 [(0, sg_r 64), (1, sg_i x1), (2, sg_i x2), (3, sg_i x3), (4, sg_i x4)] []
  refine gw_iconst F dX12_lays_0 ?_
  refine gw_aload_n F 0 rfl rfl (by decide) dX12_lays_1 ?_
  refine gw_get0 F (so_64 hst) (by decide) rfl sg_lay_RX12 (j := 58) (by decide) rfl (host := "") (.inl kw_1005) dX12_lays_2 (fun h1 => ?_)
  refine gw_imul F rfl dX12_lays_5 ?_
  refine gw_istore F (by decide) rfl dX12_lays_6 ?_
  refine gw_aload_n F 1 rfl rfl (by decide) dX12_lays_8 ?_
  refine gw_get7 F (so_64 hst) (by decide) rfl sg_lay_RX12 (j := 57) (by decide) (o1 := 87) (by first | rfl | omega) rfl (host := "") (.inl kw_1004) dX12_lays_9 (fun h2 => ?_)
  refine gw_iload F 0 rfl dX12_lays_12 ?_
  refine gw_iload_n F 2 rfl rfl dX12_lays_14 ?_
  obtain ⟨⟨b30, b31⟩, hf⟩ := hf
  obtain ⟨s4, e5⟩ : ∃ z : sg_M, z = sg_up s0 87 (4 * (s0 64 58)) x1 := ⟨_, rfl⟩
  have hf := hf s4 e5
  refine gw_iast F (sa_87 hst) b30 b31 r1 e5 dX12_lays_15 ?_
  refine gw_aload_n F 1 rfl rfl (by decide) dX12_lays_16 ?_
  refine gw_get7 F (so_64 hst) (by decide) rfl sg_lay_RX12 (j := 57) (by decide) (o1 := 87) (by first | rfl | omega) rfl (host := "") (.inl kw_1004) dX12_lays_17 (fun h6 => ?_)
  refine gw_iload F 0 rfl dX12_lays_20 ?_
  refine gw_iconst F dX12_lays_22 ?_
  refine gw_iadd F rfl dX12_lays_23 ?_
  refine gw_iload_n F 3 rfl rfl dX12_lays_24 ?_
  obtain ⟨⟨b70, b71⟩, hf⟩ := hf
  obtain ⟨s8, e9⟩ : ∃ z : sg_M, z = sg_up s4 87 ((4 * (s0 64 58)) + 1) x2 := ⟨_, rfl⟩
  have hf := hf s8 e9
  refine gw_iast F (sa_87 hst) b70 b71 r2 e9 dX12_lays_25 ?_
  refine gw_aload_n F 1 rfl rfl (by decide) dX12_lays_26 ?_
  refine gw_get7 F (so_64 hst) (by decide) rfl sg_lay_RX12 (j := 57) (by decide) (o1 := 87) (by first | rfl | omega) rfl (host := "") (.inl kw_1004) dX12_lays_27 (fun h10 => ?_)
  refine gw_iload F 0 rfl dX12_lays_30 ?_
  refine gw_iconst F dX12_lays_32 ?_
  refine gw_iadd F rfl dX12_lays_33 ?_
  refine gw_iload_n F 4 rfl rfl dX12_lays_34 ?_
  obtain ⟨⟨b110, b111⟩, hf⟩ := hf
  obtain ⟨s12, e13⟩ : ∃ z : sg_M, z = sg_up s8 87 ((4 * (s0 64 58)) + 2) x3 := ⟨_, rfl⟩
  have hf := hf s12 e13
  refine gw_iast F (sa_87 hst) b110 b111 r3 e13 dX12_lays_35 ?_
  refine gw_aload_n F 1 rfl rfl (by decide) dX12_lays_36 ?_
  refine gw_get7 F (so_64 hst) (by decide) rfl sg_lay_RX12 (j := 57) (by decide) (o1 := 87) (by first | rfl | omega) rfl (host := "") (.inl kw_1004) dX12_lays_37 (fun h14 => ?_)
  refine gw_iload F 0 rfl dX12_lays_40 ?_
  refine gw_iconst F dX12_lays_42 ?_
  refine gw_iadd F rfl dX12_lays_43 ?_
  refine gw_iload F 5 rfl dX12_lays_44 ?_
  obtain ⟨⟨b150, b151⟩, hf⟩ := hf
  obtain ⟨s16, e17⟩ : ∃ z : sg_M, z = sg_up s12 87 ((4 * (s0 64 58)) + 3) x4 := ⟨_, rfl⟩
  have hf := hf s16 e17
  refine gw_iast F (sa_87 hst) b150 b151 r4 e17 dX12_lays_46 ?_
  refine gw_aload_n F 1 rfl rfl (by decide) dX12_lays_47 ?_
  refine gw_dup F rfl dX12_lays_48 ?_
  refine gw_get0 F (so_64 hst) (by decide) rfl sg_lay_RX12 (j := 58) (by decide) rfl (host := "") (.inl kw_1005) dX12_lays_49 (fun h18 => ?_)
  refine gw_iconst F dX12_lays_52 ?_
  refine gw_iadd F rfl dX12_lays_53 ?_
  obtain ⟨g19, hf⟩ := hf
  obtain ⟨s20, e21⟩ : ∃ z : sg_M, z = sg_up s16 64 58 ((s16 64 58) + 1) := ⟨_, rfl⟩
  have hf := hf s20 e21
  refine gw_put0 F (so_64 hst) (by decide) rfl sg_lay_RX12 (j := 58) (by decide) g19 e21 tyX12_ok nmX12 rfl (tyX12_ok 58 (by decide)) rfl (host := "") (.inl kw_1005) dX12_lays_54 ?_
  refine gw_aload_n F 1 rfl rfl (by decide) dX12_lays_57 ?_
  refine gw_get0 F (so_64 hst) (by decide) rfl sg_lay_RX12 (j := 58) (by decide) rfl (host := "") (.inl kw_1005) dX12_lays_58 (fun h22 => ?_)
  refine gw_iconst F dX12_lays_61 ?_
  refine gw_isub F rfl dX12_lays_62 ?_
  obtain ⟨g23, hf⟩ := hf
  exact gr_HI F g23 hf (by decide) (by decide) dX12_lays_63

theorem dX12_formBy_0 : decode cX12_formBy 0 = .ok (.aload_n 0, 1) := by decide +kernel
theorem dX12_formBy_1 : decode cX12_formBy 1 = .ok (.iconst 0, 1) := by decide +kernel
theorem dX12_formBy_2 : decode cX12_formBy 2 = .ok (.putfield 84, 3) := by decide +kernel
theorem dX12_formBy_5 : decode cX12_formBy 5 = .ok (.aload_n 0, 1) := by decide +kernel
theorem dX12_formBy_6 : decode cX12_formBy 6 = .ok (.getfield 77, 3) := by decide +kernel
theorem dX12_formBy_9 : decode cX12_formBy 9 = .ok (.ireturn, 1) := by decide +kernel
theorem hcX12_formBy : yX12_formBy.cls ≠ "java/lang/invoke/MethodHandle" ∧ yX12_formBy.cls ≠ "java/lang/invoke/VarHandle" ∧ (parseMethodDescriptor yX12_formBy.desc).map (fun d => d.parameters.length) = some 0 := ⟨by decide +kernel, by decide +kernel, by decide +kernel⟩
def fX12_formBy (s0 : sg_M) (Q : Int → sg_M → Prop) : Prop := ∀ s1 : sg_M, s1 = sg_up s0 64 0 0 → Q (s1 64 56) s1
set_option maxHeartbeats 4000000 in
set_option maxRecDepth 100000 in
theorem CX12_formBy {l : Launch} {G : sg_G} {La : sg_L} {s0 : sg_M} (hst : sg_St La) {Q : Int → sg_M → Prop} (hf : fX12_formBy s0 Q) : sg_C l G yX12_formBy cX12_formBy 1 (some .int) 1 0 0 La s0 [sg_r 64] (sg_HI La Q) := by
  refine sg_body (by decide +kernel) (Nat.le_of_ble_eq_true rfl) ?_
  intro p e s m args below meth c F hnm
  unfold fX12_formBy at hf
  show sg_W p l e (sg_rm 1 0 0) s m args below meth c (MQ below (sg_Q (some .int) G La s.heap.size (sg_HI La Q)) args s 0 0 (sg_A La s.heap.size)) 1 G (sg_A La s.heap.size) La s0 0 0 0 [(0, sg_r 64)] []
  refine gw_aload_n F 0 rfl rfl (by decide) dX12_formBy_0 ?_
  refine gw_iconst F dX12_formBy_1 ?_
  obtain ⟨s1, e2⟩ : ∃ z : sg_M, z = sg_up s0 64 0 0 := ⟨_, rfl⟩
  have hf := hf s1 e2
  refine gw_put0 F (so_64 hst) (by decide) rfl sg_lay_RX12 (j := 0) (by decide) (by decide) e2 tyX12_ok nmX12 rfl (tyX12_ok 0 (by decide)) rfl (host := "") (.inl kw_947) dX12_formBy_2 ?_
  refine gw_aload_n F 0 rfl rfl (by decide) dX12_formBy_5 ?_
  refine gw_get0 F (so_64 hst) (by decide) rfl sg_lay_RX12 (j := 56) (by decide) rfl (host := "") (.inl kw_1003) dX12_formBy_6 (fun h3 => ?_)
  exact gr_HI F h3 hf (by decide) (by decide) dX12_formBy_9

theorem dX12_valueOf_0 : decode cX12_valueOf 0 = .ok (.iload_n 1, 1) := by decide +kernel
theorem dX12_valueOf_1 : decode cX12_valueOf 1 = .ok (.tableswitch 60 16 20 #[35, 40, 45, 50, 55], 35) := by decide +kernel
theorem dX12_valueOf_36 : decode cX12_valueOf 36 = .ok (.aload_n 0, 1) := by decide +kernel
theorem dX12_valueOf_37 : decode cX12_valueOf 37 = .ok (.getfield 273, 3) := by decide +kernel
theorem dX12_valueOf_40 : decode cX12_valueOf 40 = .ok (.ireturn, 1) := by decide +kernel
theorem dX12_valueOf_41 : decode cX12_valueOf 41 = .ok (.aload_n 0, 1) := by decide +kernel
theorem dX12_valueOf_42 : decode cX12_valueOf 42 = .ok (.getfield 276, 3) := by decide +kernel
theorem dX12_valueOf_45 : decode cX12_valueOf 45 = .ok (.ireturn, 1) := by decide +kernel
theorem dX12_valueOf_46 : decode cX12_valueOf 46 = .ok (.aload_n 0, 1) := by decide +kernel
theorem dX12_valueOf_47 : decode cX12_valueOf 47 = .ok (.getfield 279, 3) := by decide +kernel
theorem dX12_valueOf_50 : decode cX12_valueOf 50 = .ok (.ireturn, 1) := by decide +kernel
theorem dX12_valueOf_51 : decode cX12_valueOf 51 = .ok (.aload_n 0, 1) := by decide +kernel
theorem dX12_valueOf_52 : decode cX12_valueOf 52 = .ok (.getfield 221, 3) := by decide +kernel
theorem dX12_valueOf_55 : decode cX12_valueOf 55 = .ok (.ireturn, 1) := by decide +kernel
theorem dX12_valueOf_56 : decode cX12_valueOf 56 = .ok (.aload_n 0, 1) := by decide +kernel
theorem dX12_valueOf_57 : decode cX12_valueOf 57 = .ok (.getfield 226, 3) := by decide +kernel
theorem dX12_valueOf_60 : decode cX12_valueOf 60 = .ok (.ireturn, 1) := by decide +kernel
theorem dX12_valueOf_61 : decode cX12_valueOf 61 = .ok (.iload_n 2, 1) := by decide +kernel
theorem dX12_valueOf_62 : decode cX12_valueOf 62 = .ok (.ireturn, 1) := by decide +kernel
theorem hcX12_valueOf : yX12_valueOf.cls ≠ "java/lang/invoke/MethodHandle" ∧ yX12_valueOf.cls ≠ "java/lang/invoke/VarHandle" ∧ (parseMethodDescriptor yX12_valueOf.desc).map (fun d => d.parameters.length) = some 2 := ⟨by decide +kernel, by decide +kernel, by decide +kernel⟩
def fX12_valueOf (s0 : sg_M) (x1 : Int) (x2 : Int) (Q : Int → Prop) : Prop := ((x1 < 16 ∨ 20 < x1 → Q x2) ∧ (x1 = 16 → Q (s0 64 39)) ∧ (x1 = 17 → Q (s0 64 40)) ∧ (x1 = 18 → Q (s0 64 41)) ∧ (x1 = 19 → Q (s0 64 31)) ∧ (x1 = 20 → Q (s0 64 29)))
set_option maxHeartbeats 4000000 in
set_option maxRecDepth 100000 in
theorem CX12_valueOf {l : Launch} {G : sg_G} {La : sg_L} {s0 : sg_M} (hst : sg_St La) {x1 : Int} (r1 : sg_R x1) {x2 : Int} (r2 : sg_R x2) {Q : Int → Prop} (hf : fX12_valueOf s0 x1 x2 Q) : sg_C l G yX12_valueOf cX12_valueOf 3 (some .int) 1 0 0 La s0 [sg_r 64, sg_i x1, sg_i x2] (sg_PI La s0 Q) := by
  refine sg_body (by decide +kernel) (Nat.le_of_ble_eq_true rfl) ?_
  intro p e s m args below meth c F hnm
  unfold fX12_valueOf at hf
  show sg_W p l e (sg_rm 1 0 0) s m args below meth c (MQ below (sg_Q (some .int) G La s.heap.size (sg_PI La s0 Q)) args s 0 0 (sg_A La s.heap.size)) 3 G (sg_A La s.heap.size) La s0 0 0 0 [(0, sg_r 64), (1, sg_i x1), (2, sg_i x2)] []
  refine gw_iload_n F 1 rfl rfl dX12_valueOf_0 ?_
  refine gw_switch F dX12_valueOf_1 r1 (td := 61) (by decide) (fun c1 => ?_) (fun i hi1 hi2 => ?_)
  · have hf := hf.1 c1
    refine gw_iload_n F 2 rfl rfl dX12_valueOf_61 ?_
    exact gr_PI F r2 hf (by decide) (by decide) dX12_valueOf_62
  · rcases (show i = 0 ∨ i = 1 ∨ i = 2 ∨ i = 3 ∨ i = 4 by omega) with rfl | rfl | rfl | rfl | rfl
    · have hf := hf.2.1 (by omega)
      refine ⟨35, 36, rfl, by decide, ?_⟩
      refine gw_aload_n F 0 rfl rfl (by decide) dX12_valueOf_36 ?_
      refine gw_get0 F (so_64 hst) (by decide) rfl sg_lay_RX12 (j := 39) (by decide) rfl (host := "") (.inl kw_986) dX12_valueOf_37 (fun h2 => ?_)
      exact gr_PI F h2 hf (by decide) (by decide) dX12_valueOf_40
    · have hf := hf.2.2.1 (by omega)
      refine ⟨40, 41, rfl, by decide, ?_⟩
      refine gw_aload_n F 0 rfl rfl (by decide) dX12_valueOf_41 ?_
      refine gw_get0 F (so_64 hst) (by decide) rfl sg_lay_RX12 (j := 40) (by decide) rfl (host := "") (.inl kw_987) dX12_valueOf_42 (fun h3 => ?_)
      exact gr_PI F h3 hf (by decide) (by decide) dX12_valueOf_45
    · have hf := hf.2.2.2.1 (by omega)
      refine ⟨45, 46, rfl, by decide, ?_⟩
      refine gw_aload_n F 0 rfl rfl (by decide) dX12_valueOf_46 ?_
      refine gw_get0 F (so_64 hst) (by decide) rfl sg_lay_RX12 (j := 41) (by decide) rfl (host := "") (.inl kw_988) dX12_valueOf_47 (fun h4 => ?_)
      exact gr_PI F h4 hf (by decide) (by decide) dX12_valueOf_50
    · have hf := hf.2.2.2.2.1 (by omega)
      refine ⟨50, 51, rfl, by decide, ?_⟩
      refine gw_aload_n F 0 rfl rfl (by decide) dX12_valueOf_51 ?_
      refine gw_get0 F (so_64 hst) (by decide) rfl sg_lay_RX12 (j := 31) (by decide) rfl (host := "") (.inl kw_978) dX12_valueOf_52 (fun h5 => ?_)
      exact gr_PI F h5 hf (by decide) (by decide) dX12_valueOf_55
    · have hf := hf.2.2.2.2.2 (by omega)
      refine ⟨55, 56, rfl, by decide, ?_⟩
      refine gw_aload_n F 0 rfl rfl (by decide) dX12_valueOf_56 ?_
      refine gw_get0 F (so_64 hst) (by decide) rfl sg_lay_RX12 (j := 29) (by decide) rfl (host := "") (.inl kw_976) dX12_valueOf_57 (fun h6 => ?_)
      exact gr_PI F h6 hf (by decide) (by decide) dX12_valueOf_60

theorem dX12_even_0 : decode cX12_even 0 = .ok (.aload_n 0, 1) := by decide +kernel
theorem dX12_even_1 : decode cX12_even 1 = .ok (.iconst 0, 1) := by decide +kernel
theorem dX12_even_2 : decode cX12_even 2 = .ok (.putfield 84, 3) := by decide +kernel
theorem dX12_even_5 : decode cX12_even 5 = .ok (.aload_n 0, 1) := by decide +kernel
theorem dX12_even_6 : decode cX12_even 6 = .ok (.invokevirtual 175, 3) := by decide +kernel
theorem dX12_even_9 : decode cX12_even 9 = .ok (.aload_n 0, 1) := by decide +kernel
theorem dX12_even_10 : decode cX12_even 10 = .ok (.iload_n 1, 1) := by decide +kernel
theorem dX12_even_11 : decode cX12_even 11 = .ok (.invokevirtual 323, 3) := by decide +kernel
theorem dX12_even_14 : decode cX12_even 14 = .ok (.ifCond .eq 21, 3) := by decide +kernel
theorem dX12_even_17 : decode cX12_even 17 = .ok (.aload_n 0, 1) := by decide +kernel
theorem dX12_even_18 : decode cX12_even 18 = .ok (.iload_n 2, 1) := by decide +kernel
theorem dX12_even_19 : decode cX12_even 19 = .ok (.invokevirtual 323, 3) := by decide +kernel
theorem dX12_even_22 : decode cX12_even 22 = .ok (.ifCond .eq 13, 3) := by decide +kernel
theorem dX12_even_25 : decode cX12_even 25 = .ok (.iload_n 3, 1) := by decide +kernel
theorem dX12_even_26 : decode cX12_even 26 = .ok (.iconst 1, 1) := by decide +kernel
theorem dX12_even_27 : decode cX12_even 27 = .ok (.bipush 20, 2) := by decide +kernel
theorem dX12_even_29 : decode cX12_even 29 = .ok (.invokestatic 155, 3) := by decide +kernel
theorem dX12_even_32 : decode cX12_even 32 = .ok (.ifCond .ne 5, 3) := by decide +kernel
theorem dX12_even_35 : decode cX12_even 35 = .ok (.iconst (-1), 1) := by decide +kernel
theorem dX12_even_36 : decode cX12_even 36 = .ok (.ireturn, 1) := by decide +kernel
theorem dX12_even_37 : decode cX12_even 37 = .ok (.iconst 0, 1) := by decide +kernel
theorem dX12_even_38 : decode cX12_even 38 = .ok (.istore 4, 2) := by decide +kernel
theorem dX12_even_40 : decode cX12_even 40 = .ok (.iload 4, 2) := by decide +kernel
theorem dX12_even_42 : decode cX12_even 42 = .ok (.bipush 100, 2) := by decide +kernel
theorem dX12_even_44 : decode cX12_even 44 = .ok (.if_icmp .gt 66, 3) := by decide +kernel
theorem dX12_even_47 : decode cX12_even 47 = .ok (.aload_n 0, 1) := by decide +kernel
theorem dX12_even_48 : decode cX12_even 48 = .ok (.getfield 71, 3) := by decide +kernel
theorem dX12_even_51 : decode cX12_even 51 = .ok (.iload 4, 2) := by decide +kernel
theorem dX12_even_53 : decode cX12_even 53 = .ok (.aload_n 0, 1) := by decide +kernel
theorem dX12_even_54 : decode cX12_even 54 = .ok (.aload_n 0, 1) := by decide +kernel
theorem dX12_even_55 : decode cX12_even 55 = .ok (.iload_n 1, 1) := by decide +kernel
theorem dX12_even_56 : decode cX12_even 56 = .ok (.invokevirtual 326, 3) := by decide +kernel
theorem dX12_even_59 : decode cX12_even 59 = .ok (.aload_n 0, 1) := by decide +kernel
theorem dX12_even_60 : decode cX12_even 60 = .ok (.iload_n 2, 1) := by decide +kernel
theorem dX12_even_61 : decode cX12_even 61 = .ok (.invokevirtual 326, 3) := by decide +kernel
theorem dX12_even_64 : decode cX12_even 64 = .ok (.aload_n 0, 1) := by decide +kernel
theorem dX12_even_65 : decode cX12_even 65 = .ok (.iload_n 1, 1) := by decide +kernel
theorem dX12_even_66 : decode cX12_even 66 = .ok (.invokevirtual 326, 3) := by decide +kernel
theorem dX12_even_69 : decode cX12_even 69 = .ok (.isub, 1) := by decide +kernel
theorem dX12_even_70 : decode cX12_even 70 = .ok (.iload 4, 2) := by decide +kernel
theorem dX12_even_72 : decode cX12_even 72 = .ok (.imul, 1) := by decide +kernel
theorem dX12_even_73 : decode cX12_even 73 = .ok (.bipush 100, 2) := by decide +kernel
theorem dX12_even_75 : decode cX12_even 75 = .ok (.idiv, 1) := by decide +kernel
theorem dX12_even_76 : decode cX12_even 76 = .ok (.iadd, 1) := by decide +kernel
theorem dX12_even_77 : decode cX12_even 77 = .ok (.aload_n 0, 1) := by decide +kernel
theorem dX12_even_78 : decode cX12_even 78 = .ok (.iload_n 1, 1) := by decide +kernel
theorem dX12_even_79 : decode cX12_even 79 = .ok (.invokevirtual 329, 3) := by decide +kernel
theorem dX12_even_82 : decode cX12_even 82 = .ok (.aload_n 0, 1) := by decide +kernel
theorem dX12_even_83 : decode cX12_even 83 = .ok (.iload_n 2, 1) := by decide +kernel
theorem dX12_even_84 : decode cX12_even 84 = .ok (.invokevirtual 329, 3) := by decide +kernel
theorem dX12_even_87 : decode cX12_even 87 = .ok (.aload_n 0, 1) := by decide +kernel
theorem dX12_even_88 : decode cX12_even 88 = .ok (.iload_n 1, 1) := by decide +kernel
theorem dX12_even_89 : decode cX12_even 89 = .ok (.invokevirtual 329, 3) := by decide +kernel
theorem dX12_even_92 : decode cX12_even 92 = .ok (.isub, 1) := by decide +kernel
theorem dX12_even_93 : decode cX12_even 93 = .ok (.iload 4, 2) := by decide +kernel
theorem dX12_even_95 : decode cX12_even 95 = .ok (.imul, 1) := by decide +kernel
theorem dX12_even_96 : decode cX12_even 96 = .ok (.bipush 100, 2) := by decide +kernel
theorem dX12_even_98 : decode cX12_even 98 = .ok (.idiv, 1) := by decide +kernel
theorem dX12_even_99 : decode cX12_even 99 = .ok (.iadd, 1) := by decide +kernel
theorem dX12_even_100 : decode cX12_even 100 = .ok (.invokevirtual 317, 3) := by decide +kernel
theorem dX12_even_103 : decode cX12_even 103 = .ok (.iastore, 1) := by decide +kernel
theorem dX12_even_104 : decode cX12_even 104 = .ok (.iinc 4 1, 3) := by decide +kernel
theorem dX12_even_107 : decode cX12_even 107 = .ok (.goto (-67), 3) := by decide +kernel
theorem dX12_even_110 : decode cX12_even 110 = .ok (.aload_n 0, 1) := by decide +kernel
theorem dX12_even_111 : decode cX12_even 111 = .ok (.getfield 71, 3) := by decide +kernel
theorem dX12_even_114 : decode cX12_even 114 = .ok (.iconst 0, 1) := by decide +kernel
theorem dX12_even_115 : decode cX12_even 115 = .ok (.iaload, 1) := by decide +kernel
theorem dX12_even_116 : decode cX12_even 116 = .ok (.ifCond .eq 13, 3) := by decide +kernel
theorem dX12_even_119 : decode cX12_even 119 = .ok (.aload_n 0, 1) := by decide +kernel
theorem dX12_even_120 : decode cX12_even 120 = .ok (.getfield 71, 3) := by decide +kernel
theorem dX12_even_123 : decode cX12_even 123 = .ok (.bipush 100, 2) := by decide +kernel
theorem dX12_even_125 : decode cX12_even 125 = .ok (.iaload, 1) := by decide +kernel
theorem dX12_even_126 : decode cX12_even 126 = .ok (.ifCond .ne 5, 3) := by decide +kernel
theorem dX12_even_129 : decode cX12_even 129 = .ok (.iconst (-1), 1) := by decide +kernel
theorem dX12_even_130 : decode cX12_even 130 = .ok (.ireturn, 1) := by decide +kernel
theorem dX12_even_131 : decode cX12_even 131 = .ok (.aload_n 0, 1) := by decide +kernel
theorem dX12_even_132 : decode cX12_even 132 = .ok (.iload_n 3, 1) := by decide +kernel
theorem dX12_even_133 : decode cX12_even 133 = .ok (.iconst 1, 1) := by decide +kernel
theorem dX12_even_134 : decode cX12_even 134 = .ok (.iadd, 1) := by decide +kernel
theorem dX12_even_135 : decode cX12_even 135 = .ok (.putfield 350, 3) := by decide +kernel
theorem dX12_even_138 : decode cX12_even 138 = .ok (.iconst 0, 1) := by decide +kernel
theorem dX12_even_139 : decode cX12_even 139 = .ok (.istore 4, 2) := by decide +kernel
theorem dX12_even_141 : decode cX12_even 141 = .ok (.iconst 0, 1) := by decide +kernel
theorem dX12_even_142 : decode cX12_even 142 = .ok (.istore 5, 2) := by decide +kernel
theorem dX12_even_144 : decode cX12_even 144 = .ok (.iload 5, 2) := by decide +kernel
theorem dX12_even_146 : decode cX12_even 146 = .ok (.iload_n 3, 1) := by decide +kernel
theorem dX12_even_147 : decode cX12_even 147 = .ok (.if_icmp .gt 150, 3) := by decide +kernel
theorem dX12_even_150 : decode cX12_even 150 = .ok (.aload_n 0, 1) := by decide +kernel
theorem dX12_even_151 : decode cX12_even 151 = .ok (.getfield 71, 3) := by decide +kernel
theorem dX12_even_154 : decode cX12_even 154 = .ok (.iconst 0, 1) := by decide +kernel
theorem dX12_even_155 : decode cX12_even 155 = .ok (.iaload, 1) := by decide +kernel
theorem dX12_even_156 : decode cX12_even 156 = .ok (.aload_n 0, 1) := by decide +kernel
theorem dX12_even_157 : decode cX12_even 157 = .ok (.getfield 71, 3) := by decide +kernel
theorem dX12_even_160 : decode cX12_even 160 = .ok (.bipush 100, 2) := by decide +kernel
theorem dX12_even_162 : decode cX12_even 162 = .ok (.iaload, 1) := by decide +kernel
theorem dX12_even_163 : decode cX12_even 163 = .ok (.aload_n 0, 1) := by decide +kernel
theorem dX12_even_164 : decode cX12_even 164 = .ok (.getfield 71, 3) := by decide +kernel
theorem dX12_even_167 : decode cX12_even 167 = .ok (.iconst 0, 1) := by decide +kernel
theorem dX12_even_168 : decode cX12_even 168 = .ok (.iaload, 1) := by decide +kernel
theorem dX12_even_169 : decode cX12_even 169 = .ok (.isub, 1) := by decide +kernel
theorem dX12_even_170 : decode cX12_even 170 = .ok (.iload 5, 2) := by decide +kernel
theorem dX12_even_172 : decode cX12_even 172 = .ok (.imul, 1) := by decide +kernel
theorem dX12_even_173 : decode cX12_even 173 = .ok (.iload_n 3, 1) := by decide +kernel
theorem dX12_even_174 : decode cX12_even 174 = .ok (.idiv, 1) := by decide +kernel
theorem dX12_even_175 : decode cX12_even 175 = .ok (.iadd, 1) := by decide +kernel
theorem dX12_even_176 : decode cX12_even 176 = .ok (.istore 6, 2) := by decide +kernel
theorem dX12_even_178 : decode cX12_even 178 = .ok (.iconst 0, 1) := by decide +kernel
theorem dX12_even_179 : decode cX12_even 179 = .ok (.istore 7, 2) := by decide +kernel
theorem dX12_even_181 : decode cX12_even 181 = .ok (.iconst 1, 1) := by decide +kernel
theorem dX12_even_182 : decode cX12_even 182 = .ok (.istore 8, 2) := by decide +kernel
theorem dX12_even_184 : decode cX12_even 184 = .ok (.iload 8, 2) := by decide +kernel
theorem dX12_even_186 : decode cX12_even 186 = .ok (.bipush 100, 2) := by decide +kernel
theorem dX12_even_188 : decode cX12_even 188 = .ok (.if_icmp .gt 52, 3) := by decide +kernel
theorem dX12_even_191 : decode cX12_even 191 = .ok (.aload_n 0, 1) := by decide +kernel
theorem dX12_even_192 : decode cX12_even 192 = .ok (.getfield 71, 3) := by decide +kernel
theorem dX12_even_195 : decode cX12_even 195 = .ok (.iload 8, 2) := by decide +kernel
theorem dX12_even_197 : decode cX12_even 197 = .ok (.iaload, 1) := by decide +kernel
theorem dX12_even_198 : decode cX12_even 198 = .ok (.ifCond .le 36, 3) := by decide +kernel
theorem dX12_even_201 : decode cX12_even 201 = .ok (.aload_n 0, 1) := by decide +kernel
theorem dX12_even_202 : decode cX12_even 202 = .ok (.getfield 71, 3) := by decide +kernel
theorem dX12_even_205 : decode cX12_even 205 = .ok (.iload 8, 2) := by decide +kernel
theorem dX12_even_207 : decode cX12_even 207 = .ok (.iaload, 1) := by decide +kernel
theorem dX12_even_208 : decode cX12_even 208 = .ok (.iload 6, 2) := by decide +kernel
theorem dX12_even_210 : decode cX12_even 210 = .ok (.isub, 1) := by decide +kernel
theorem dX12_even_211 : decode cX12_even 211 = .ok (.invokestatic 335, 3) := by decide +kernel
theorem dX12_even_214 : decode cX12_even 214 = .ok (.aload_n 0, 1) := by decide +kernel
theorem dX12_even_215 : decode cX12_even 215 = .ok (.getfield 71, 3) := by decide +kernel
theorem dX12_even_218 : decode cX12_even 218 = .ok (.iload 7, 2) := by decide +kernel
theorem dX12_even_220 : decode cX12_even 220 = .ok (.iaload, 1) := by decide +kernel
theorem dX12_even_221 : decode cX12_even 221 = .ok (.iload 6, 2) := by decide +kernel
theorem dX12_even_223 : decode cX12_even 223 = .ok (.isub, 1) := by decide +kernel
theorem dX12_even_224 : decode cX12_even 224 = .ok (.invokestatic 335, 3) := by decide +kernel
theorem dX12_even_227 : decode cX12_even 227 = .ok (.if_icmp .ge 7, 3) := by decide +kernel
theorem dX12_even_230 : decode cX12_even 230 = .ok (.iload 8, 2) := by decide +kernel
theorem dX12_even_232 : decode cX12_even 232 = .ok (.istore 7, 2) := by decide +kernel
theorem dX12_even_234 : decode cX12_even 234 = .ok (.iinc 8 1, 3) := by decide +kernel
theorem dX12_even_237 : decode cX12_even 237 = .ok (.goto (-53), 3) := by decide +kernel
theorem dX12_even_240 : decode cX12_even 240 = .ok (.aload_n 0, 1) := by decide +kernel
theorem dX12_even_241 : decode cX12_even 241 = .ok (.getfield 74, 3) := by decide +kernel
theorem dX12_even_244 : decode cX12_even 244 = .ok (.iload 5, 2) := by decide +kernel
theorem dX12_even_246 : decode cX12_even 246 = .ok (.iload 7, 2) := by decide +kernel
theorem dX12_even_248 : decode cX12_even 248 = .ok (.iastore, 1) := by decide +kernel
theorem dX12_even_249 : decode cX12_even 249 = .ok (.iload 5, 2) := by decide +kernel
theorem dX12_even_251 : decode cX12_even 251 = .ok (.ifCond .le 40, 3) := by decide +kernel
theorem dX12_even_254 : decode cX12_even 254 = .ok (.iload 7, 2) := by decide +kernel
theorem dX12_even_256 : decode cX12_even 256 = .ok (.aload_n 0, 1) := by decide +kernel
theorem dX12_even_257 : decode cX12_even 257 = .ok (.getfield 74, 3) := by decide +kernel
theorem dX12_even_260 : decode cX12_even 260 = .ok (.iload 5, 2) := by decide +kernel
theorem dX12_even_262 : decode cX12_even 262 = .ok (.iconst 1, 1) := by decide +kernel
theorem dX12_even_263 : decode cX12_even 263 = .ok (.isub, 1) := by decide +kernel
theorem dX12_even_264 : decode cX12_even 264 = .ok (.iaload, 1) := by decide +kernel
theorem dX12_even_265 : decode cX12_even 265 = .ok (.isub, 1) := by decide +kernel
theorem dX12_even_266 : decode cX12_even 266 = .ok (.invokestatic 335, 3) := by decide +kernel
theorem dX12_even_269 : decode cX12_even 269 = .ok (.iload 4, 2) := by decide +kernel
theorem dX12_even_271 : decode cX12_even 271 = .ok (.if_icmp .le 20, 3) := by decide +kernel
theorem dX12_even_274 : decode cX12_even 274 = .ok (.iload 7, 2) := by decide +kernel
theorem dX12_even_276 : decode cX12_even 276 = .ok (.aload_n 0, 1) := by decide +kernel
theorem dX12_even_277 : decode cX12_even 277 = .ok (.getfield 74, 3) := by decide +kernel
theorem dX12_even_280 : decode cX12_even 280 = .ok (.iload 5, 2) := by decide +kernel
theorem dX12_even_282 : decode cX12_even 282 = .ok (.iconst 1, 1) := by decide +kernel
theorem dX12_even_283 : decode cX12_even 283 = .ok (.isub, 1) := by decide +kernel
theorem dX12_even_284 : decode cX12_even 284 = .ok (.iaload, 1) := by decide +kernel
theorem dX12_even_285 : decode cX12_even 285 = .ok (.isub, 1) := by decide +kernel
theorem dX12_even_286 : decode cX12_even 286 = .ok (.invokestatic 335, 3) := by decide +kernel
theorem dX12_even_289 : decode cX12_even 289 = .ok (.istore 4, 2) := by decide +kernel
theorem dX12_even_291 : decode cX12_even 291 = .ok (.iinc 5 1, 3) := by decide +kernel
theorem dX12_even_294 : decode cX12_even 294 = .ok (.goto (-150), 3) := by decide +kernel
theorem dX12_even_297 : decode cX12_even 297 = .ok (.iload 4, 2) := by decide +kernel
theorem dX12_even_299 : decode cX12_even 299 = .ok (.ireturn, 1) := by decide +kernel
theorem hcX12_even : yX12_even.cls ≠ "java/lang/invoke/MethodHandle" ∧ yX12_even.cls ≠ "java/lang/invoke/VarHandle" ∧ (parseMethodDescriptor yX12_even.desc).map (fun d => d.parameters.length) = some 3 := ⟨by decide +kernel, by decide +kernel, by decide +kernel⟩
def fX12_even_L40 (x1 : Int) (x2 : Int) (k110 : sg_M → Prop) : Nat → sg_M → Int → Prop
  | 0, _, _ => False
  | n_40 + 1, s_40, x4_40 => ((100 < x4_40 → k110 s_40) ∧ (¬ (100 < x4_40) → fX12_aOf s_40 x1 (fun u15 => fX12_aOf s_40 x2 (fun u17 => fX12_aOf s_40 x1 (fun u19 => sg_R ((u17 - u19) * x4_40) ∧ fX12_bOf s_40 x1 (fun u22 => fX12_bOf s_40 x2 (fun u24 => fX12_bOf s_40 x1 (fun u26 => sg_R ((u24 - u26) * x4_40) ∧ sg_R (u15 + (Int.tdiv ((u17 - u19) * x4_40) 100)) ∧ sg_R (u22 + (Int.tdiv ((u24 - u26) * x4_40) 100)) ∧ fX12_voiceOf s_40 (u15 + (Int.tdiv ((u17 - u19) * x4_40) 100)) (u22 + (Int.tdiv ((u24 - u26) * x4_40) 100)) (fun u31 s33 => (0 ≤ x4_40 ∧ x4_40 < 101) ∧ ∀ s35 : sg_M, s35 = sg_up s33 85 x4_40 u31 → sg_R (x4_40 + 1) ∧ (fX12_even_L40 x1 x2 k110 n_40) s35 (x4_40 + 1))))))))))
def fX12_even_j234 (x8_184 : Int) (k184 : Int → Int → Prop) (x7_234 : Int) : Prop := sg_R (x8_184 + 1) ∧ k184 x7_234 (x8_184 + 1)
def fX12_even_L184 (s_144 : sg_M) (v57 : Int) (k240 : Int → Prop) : Nat → Int → Int → Prop
  | 0, _, _ => False
  | n_184 + 1, x7_184, x8_184 => ((100 < x8_184 → k240 x7_184) ∧ (¬ (100 < x8_184) → (0 ≤ x8_184 ∧ x8_184 < 101) ∧ (((s_144 85 x8_184) ≤ 0 → (fX12_even_j234 x8_184 (fX12_even_L184 s_144 v57 k240 n_184)) x7_184) ∧ (¬ ((s_144 85 x8_184) ≤ 0) → (0 ≤ x8_184 ∧ x8_184 < 101) ∧ sg_R ((s_144 85 x8_184) - v57) ∧ fX12_size ((s_144 85 x8_184) - v57) (fun u70 => (0 ≤ x7_184 ∧ x7_184 < 101) ∧ sg_R ((s_144 85 x7_184) - v57) ∧ fX12_size ((s_144 85 x7_184) - v57) (fun u76 => ((u76 ≤ u70 → (fX12_even_j234 x8_184 (fX12_even_L184 s_144 v57 k240 n_184)) x7_184) ∧ (¬ (u76 ≤ u70) → (fX12_even_j234 x8_184 (fX12_even_L184 s_144 v57 k240 n_184)) x8_184))))))))
def fX12_even_j291 (x5_144 : Int) (s82 : sg_M) (k144 : sg_M → Int → Int → Prop) (x4_291 : Int) : Prop := sg_R (x5_144 + 1) ∧ k144 s82 x4_291 (x5_144 + 1)
def fX12_even_L144 (x3 : Int) (Q : Int → sg_M → Prop) : Nat → sg_M → Int → Int → Prop
  | 0, _, _, _ => False
  | n_144 + 1, s_144, x4_144, x5_144 => ((x3 < x5_144 → Q x4_144 s_144) ∧ (¬ (x3 < x5_144) → sg_R (((s_144 85 100) - (s_144 85 0)) * x5_144) ∧ (x3 ≠ 0) ∧ ∀ v57 : Int, v57 = ((s_144 85 0) + (Int.tdiv (((s_144 85 100) - (s_144 85 0)) * x5_144) x3)) → sg_R v57 ∧ (∃ n79 : Nat, fX12_even_L184 s_144 v57 (fun x7_240e184 => (0 ≤ x5_144 ∧ x5_144 < 21) ∧ ∀ s82 : sg_M, s82 = sg_up s_144 86 x5_144 x7_240e184 → ((x5_144 ≤ 0 → (fX12_even_j291 x5_144 s82 (fX12_even_L144 x3 Q n_144)) x4_144) ∧ (¬ (x5_144 ≤ 0) → (0 ≤ (x5_144 - 1) ∧ (x5_144 - 1) < 21) ∧ sg_R (x7_240e184 - (s82 86 (x5_144 - 1))) ∧ fX12_size (x7_240e184 - (s82 86 (x5_144 - 1))) (fun u90 => ((u90 ≤ x4_144 → (fX12_even_j291 x5_144 s82 (fX12_even_L144 x3 Q n_144)) x4_144) ∧ (¬ (u90 ≤ x4_144) → (0 ≤ (x5_144 - 1) ∧ (x5_144 - 1) < 21) ∧ sg_R (x7_240e184 - (s82 86 (x5_144 - 1))) ∧ fX12_size (x7_240e184 - (s82 86 (x5_144 - 1))) (fun u97 => (fX12_even_j291 x5_144 s82 (fX12_even_L144 x3 Q n_144)) u97))))))) n79 0 1)))
def fX12_even (s0 : sg_M) (x1 : Int) (x2 : Int) (x3 : Int) (Q : Int → sg_M → Prop) : Prop := ∀ s1 : sg_M, s1 = sg_up s0 64 0 0 → fX12_lay s1 (fun s3 => fX12_isWritten s3 x1 (fun u4 => ((u4 = 0 → Q (-1) s3) ∧ (¬ (u4 = 0) → fX12_isWritten s3 x2 (fun u7 => ((u7 = 0 → Q (-1) s3) ∧ (¬ (u7 = 0) → fX12_isIn x3 1 20 (fun u10 => ((u10 ≠ 0 → (∃ n38 : Nat, fX12_even_L40 x1 x2 (fun s_110e40 => (((s_110e40 85 0) = 0 → Q (-1) s_110e40) ∧ (¬ ((s_110e40 85 0) = 0) → (((s_110e40 85 100) ≠ 0 → sg_R (x3 + 1) ∧ ∀ s46 : sg_M, s46 = sg_up s_110e40 64 55 (x3 + 1) → (∃ n99 : Nat, fX12_even_L144 x3 Q n99 s46 0 0)) ∧ ((s_110e40 85 100) = 0 → Q (-1) s_110e40))))) n38 s3 0)) ∧ (u10 = 0 → Q (-1) s3))))))))))
set_option maxHeartbeats 4000000 in
set_option maxRecDepth 100000 in
theorem CX12_even {l : Launch} {G : sg_G} {La : sg_L} {s0 : sg_M} (hst : sg_St La) {x1 : Int} (r1 : sg_R x1) {x2 : Int} (r2 : sg_R x2) {x3 : Int} (r3 : sg_R x3) {Q : Int → sg_M → Prop} (hf : fX12_even s0 x1 x2 x3 Q) : sg_C l G yX12_even cX12_even 9 (some .int) 6 0 0 La s0 [sg_r 64, sg_i x1, sg_i x2, sg_i x3] (sg_HI La Q) := by
  refine sg_body (by decide +kernel) (Nat.le_of_ble_eq_true rfl) ?_
  intro p e s m args below meth c F hnm
  unfold fX12_even at hf
  show sg_W p l e (sg_rm 6 0 0) s m args below meth c (MQ below (sg_Q (some .int) G La s.heap.size (sg_HI La Q)) args s 0 0 (sg_A La s.heap.size)) 9 G (sg_A La s.heap.size) La s0 0 0 0 [(0, sg_r 64), (1, sg_i x1), (2, sg_i x2), (3, sg_i x3)] []
  refine gw_aload_n F 0 rfl rfl (by decide) dX12_even_0 ?_
  refine gw_iconst F dX12_even_1 ?_
  obtain ⟨s1, e2⟩ : ∃ z : sg_M, z = sg_up s0 64 0 0 := ⟨_, rfl⟩
  have hf := hf s1 e2
  refine gw_put0 F (so_64 hst) (by decide) rfl sg_lay_RX12 (j := 0) (by decide) (by decide) e2 tyX12_ok nmX12 rfl (tyX12_ok 0 (by decide)) rfl (host := "") (.inl kw_947) dX12_even_2 ?_
  refine gw_aload_n F 0 rfl rfl (by decide) dX12_even_5 ?_
  refine gk_HV F (gc_V F (S := []) (As := []) (T := TX12) (N := 62) (CX12_lay hst hf) (so_64 hst) (by decide) rfl kw_1034 kw_103 kw_1032 kw_1033 kw_41 hcX12_lay ⟨by decide, by decide⟩ rfl rfl (Nat.le_of_ble_eq_true rfl) ⟨by decide, by decide⟩ dX12_even_6) (fun s3 hf => ?_)
  refine gw_aload_n F 0 rfl rfl (by decide) dX12_even_9 ?_
  refine gw_iload_n F 1 rfl rfl dX12_even_10 ?_
  refine gk_PZ F (gc_V F (S := []) (As := [sg_i x1]) (T := TX12) (N := 62) (CX12_isWritten hst r1 hf) (so_64 hst) (by decide) rfl kw_1210 kw_103 kw_1208 kw_1209 kw_71 hcX12_isWritten ⟨by decide, by decide⟩ rfl rfl (Nat.le_of_ble_eq_true rfl) ⟨by decide, by decide⟩ dX12_even_11) (fun u4 h5 hf => ?_)
  refine gw_if_eq F (tgt := 35) dX12_even_14 (by decide) (sg_B_R h5) (fun c6 => ?_) (fun c6 => ?_)
  · have hf := hf.1 c6
    refine gw_iconst F dX12_even_35 ?_
    exact gr_HI F (by decide) hf (by decide) (by decide) dX12_even_36
  · have hf := hf.2 c6
    refine gw_aload_n F 0 rfl rfl (by decide) dX12_even_17 ?_
    refine gw_iload_n F 2 rfl rfl dX12_even_18 ?_
    refine gk_PZ F (gc_V F (S := []) (As := [sg_i x2]) (T := TX12) (N := 62) (CX12_isWritten hst r2 hf) (so_64 hst) (by decide) rfl kw_1210 kw_103 kw_1208 kw_1209 kw_71 hcX12_isWritten ⟨by decide, by decide⟩ rfl rfl (Nat.le_of_ble_eq_true rfl) ⟨by decide, by decide⟩ dX12_even_19) (fun u7 h8 hf => ?_)
    refine gw_if_eq F (tgt := 35) dX12_even_22 (by decide) (sg_B_R h8) (fun c9 => ?_) (fun c9 => ?_)
    · have hf := hf.1 c9
      refine gw_iconst F dX12_even_35 ?_
      exact gr_HI F (by decide) hf (by decide) (by decide) dX12_even_36
    · have hf := hf.2 c9
      refine gw_iload_n F 3 rfl rfl dX12_even_25 ?_
      refine gw_iconst F dX12_even_26 ?_
      refine gw_bipush F rfl dX12_even_27 ?_
      refine gk_PZ F (gc_S F (S := []) (As := [sg_i x3, sg_i 1, sg_i 20]) (CX12_isIn r3 (by decide) (by decide) hf) kw_1075 kw_103 kw_1073 kw_1074 hcX12_isIn ⟨by decide, by decide⟩ rfl rfl (Nat.le_of_ble_eq_true rfl) ⟨by decide, by decide⟩ dX12_even_29) (fun u10 h11 hf => ?_)
      refine gw_if_ne F (tgt := 37) dX12_even_32 (by decide) (sg_B_R h11) (fun c12 => ?_) (fun c12 => ?_)
      · have hf := hf.1 c12
        refine gw_iconst F dX12_even_37 ?_
        refine gw_istore F (by decide) rfl dX12_even_38 ?_
        have L40 : ∀ (k110 : sg_M → Prop) (hk110 : ∀ (s_110e40 : sg_M), k110 s_110e40 → sg_W p l e (sg_rm 6 0 0) s m args below meth c (MQ below (sg_Q (some .int) G La s.heap.size (sg_HI La Q)) args s 0 0 (sg_A La s.heap.size)) 9 G (sg_A La s.heap.size) La s_110e40 0 0 110 [(0, sg_r 64), (3, sg_i x3)] []), ∀ n_40 : Nat, ∀ (s_40 : sg_M) (x4_40 : Int), sg_R x4_40 → fX12_even_L40 x1 x2 k110 n_40 s_40 x4_40 → sg_W p l e (sg_rm 6 0 0) s m args below meth c (MQ below (sg_Q (some .int) G La s.heap.size (sg_HI La Q)) args s 0 0 (sg_A La s.heap.size)) 9 G (sg_A La s.heap.size) La s_40 0 0 40 [(0, sg_r 64), (1, sg_i x1), (2, sg_i x2), (3, sg_i x3), (4, sg_i x4_40)] [] := by
          intro k110 hk110 n_40
          induction n_40 with
          | zero => intro s_40 x4_40 r4_40 hf; exact hf.elim
          | succ n_40 ih =>
            intro s_40 x4_40 r4_40 hf
            unfold fX12_even_L40 at hf
            refine gw_iload F 4 rfl dX12_even_40 ?_
            refine gw_bipush F rfl dX12_even_42 ?_
            refine gw_icmp_gt F (tgt := 110) dX12_even_44 (by decide) r4_40 (by decide) (fun c13 => ?_) (fun c13 => ?_)
            · have hf := hf.1 c13
              refine gw_sub [0, 3] rfl ?_
              exact hk110 s_40 hf
            · have hf := hf.2 c13
              refine gw_aload_n F 0 rfl rfl (by decide) dX12_even_47 ?_
              refine gw_get7 F (so_64 hst) (by decide) rfl sg_lay_RX12 (j := 53) (by decide) (o1 := 85) (by first | rfl | omega) rfl (host := "") (.inl kw_1000) dX12_even_48 (fun h14 => ?_)
              refine gw_iload F 4 rfl dX12_even_51 ?_
              refine gw_aload_n F 0 rfl rfl (by decide) dX12_even_53 ?_
              refine gw_aload_n F 0 rfl rfl (by decide) dX12_even_54 ?_
              refine gw_iload_n F 1 rfl rfl dX12_even_55 ?_
              refine gk_PI F (gc_V F (S := [sg_r 64, sg_i x4_40, sg_r 85]) (As := [sg_i x1]) (T := TX12) (N := 62) (CX12_aOf hst r1 hf) (so_64 hst) (by decide) rfl kw_1213 kw_103 kw_1211 kw_1212 kw_72 hcX12_aOf ⟨by decide, by decide⟩ rfl rfl (Nat.le_of_ble_eq_true rfl) ⟨by decide, by decide⟩ dX12_even_56) (fun u15 h16 hf => ?_)
              refine gw_aload_n F 0 rfl rfl (by decide) dX12_even_59 ?_
              refine gw_iload_n F 2 rfl rfl dX12_even_60 ?_
              refine gk_PI F (gc_V F (S := [sg_i u15, sg_r 64, sg_i x4_40, sg_r 85]) (As := [sg_i x2]) (T := TX12) (N := 62) (CX12_aOf hst r2 hf) (so_64 hst) (by decide) rfl kw_1213 kw_103 kw_1211 kw_1212 kw_72 hcX12_aOf ⟨by decide, by decide⟩ rfl rfl (Nat.le_of_ble_eq_true rfl) ⟨by decide, by decide⟩ dX12_even_61) (fun u17 h18 hf => ?_)
              refine gw_aload_n F 0 rfl rfl (by decide) dX12_even_64 ?_
              refine gw_iload_n F 1 rfl rfl dX12_even_65 ?_
              refine gk_PI F (gc_V F (S := [sg_i u17, sg_i u15, sg_r 64, sg_i x4_40, sg_r 85]) (As := [sg_i x1]) (T := TX12) (N := 62) (CX12_aOf hst r1 hf) (so_64 hst) (by decide) rfl kw_1213 kw_103 kw_1211 kw_1212 kw_72 hcX12_aOf ⟨by decide, by decide⟩ rfl rfl (Nat.le_of_ble_eq_true rfl) ⟨by decide, by decide⟩ dX12_even_66) (fun u19 h20 hf => ?_)
              refine gw_isub F rfl dX12_even_69 ?_
              refine gw_iload F 4 rfl dX12_even_70 ?_
              refine gw_imul F rfl dX12_even_72 ?_
              refine gw_bipush F rfl dX12_even_73 ?_
              obtain ⟨g21, hf⟩ := hf
              refine gw_idiv F g21 (by decide) (by decide) rfl dX12_even_75 ?_
              refine gw_iadd F rfl dX12_even_76 ?_
              refine gw_aload_n F 0 rfl rfl (by decide) dX12_even_77 ?_
              refine gw_iload_n F 1 rfl rfl dX12_even_78 ?_
              refine gk_PI F (gc_V F (S := [sg_i (u15 + (Int.tdiv ((u17 - u19) * x4_40) 100)), sg_r 64, sg_i x4_40, sg_r 85]) (As := [sg_i x1]) (T := TX12) (N := 62) (CX12_bOf hst r1 hf) (so_64 hst) (by decide) rfl kw_1216 kw_103 kw_1214 kw_1215 kw_73 hcX12_bOf ⟨by decide, by decide⟩ rfl rfl (Nat.le_of_ble_eq_true rfl) ⟨by decide, by decide⟩ dX12_even_79) (fun u22 h23 hf => ?_)
              refine gw_aload_n F 0 rfl rfl (by decide) dX12_even_82 ?_
              refine gw_iload_n F 2 rfl rfl dX12_even_83 ?_
              refine gk_PI F (gc_V F (S := [sg_i u22, sg_i (u15 + (Int.tdiv ((u17 - u19) * x4_40) 100)), sg_r 64, sg_i x4_40, sg_r 85]) (As := [sg_i x2]) (T := TX12) (N := 62) (CX12_bOf hst r2 hf) (so_64 hst) (by decide) rfl kw_1216 kw_103 kw_1214 kw_1215 kw_73 hcX12_bOf ⟨by decide, by decide⟩ rfl rfl (Nat.le_of_ble_eq_true rfl) ⟨by decide, by decide⟩ dX12_even_84) (fun u24 h25 hf => ?_)
              refine gw_aload_n F 0 rfl rfl (by decide) dX12_even_87 ?_
              refine gw_iload_n F 1 rfl rfl dX12_even_88 ?_
              refine gk_PI F (gc_V F (S := [sg_i u24, sg_i u22, sg_i (u15 + (Int.tdiv ((u17 - u19) * x4_40) 100)), sg_r 64, sg_i x4_40, sg_r 85]) (As := [sg_i x1]) (T := TX12) (N := 62) (CX12_bOf hst r1 hf) (so_64 hst) (by decide) rfl kw_1216 kw_103 kw_1214 kw_1215 kw_73 hcX12_bOf ⟨by decide, by decide⟩ rfl rfl (Nat.le_of_ble_eq_true rfl) ⟨by decide, by decide⟩ dX12_even_89) (fun u26 h27 hf => ?_)
              refine gw_isub F rfl dX12_even_92 ?_
              refine gw_iload F 4 rfl dX12_even_93 ?_
              refine gw_imul F rfl dX12_even_95 ?_
              refine gw_bipush F rfl dX12_even_96 ?_
              obtain ⟨g28, hf⟩ := hf
              refine gw_idiv F g28 (by decide) (by decide) rfl dX12_even_98 ?_
              refine gw_iadd F rfl dX12_even_99 ?_
              obtain ⟨g29, hf⟩ := hf
              obtain ⟨g30, hf⟩ := hf
              refine gk_HI F (gc_V F (S := [sg_i x4_40, sg_r 85]) (As := [sg_i (u15 + (Int.tdiv ((u17 - u19) * x4_40) 100)), sg_i (u22 + (Int.tdiv ((u24 - u26) * x4_40) 100))]) (T := TX12) (N := 62) (CX12_voiceOf hst g29 g30 hf) (so_64 hst) (by decide) rfl kw_1193 kw_103 kw_1191 kw_1192 kw_68 hcX12_voiceOf ⟨by decide, by decide⟩ rfl rfl (Nat.le_of_ble_eq_true rfl) ⟨by decide, by decide⟩ dX12_even_100) (fun u31 s33 h32 hf => ?_)
              obtain ⟨⟨b340, b341⟩, hf⟩ := hf
              obtain ⟨s35, e36⟩ : ∃ z : sg_M, z = sg_up s33 85 x4_40 u31 := ⟨_, rfl⟩
              have hf := hf s35 e36
              refine gw_iast F (sa_85 hst) b340 b341 h32 e36 dX12_even_103 ?_
              refine gw_iinc F (z := (x4_40 + 1)) 4 rfl (by omega) (by decide) rfl dX12_even_104 ?_
              refine gw_goto F (tgt := 40) dX12_even_107 (by decide) ?_
              obtain ⟨g37, hf⟩ := hf
              refine gw_sub [1, 2, 3, 4, 0] rfl ?_
              exact ih s35 (x4_40 + 1) g37 hf
        obtain ⟨n38, hf⟩ := hf
        refine gw_sub [1, 2, 3, 4, 0] rfl ?_
        refine L40 _ (fun s_110e40 hf => ?_) n38 s3 0 (by decide) hf
        refine gw_aload_n F 0 rfl rfl (by decide) dX12_even_110 ?_
        refine gw_get7 F (so_64 hst) (by decide) rfl sg_lay_RX12 (j := 53) (by decide) (o1 := 85) (by first | rfl | omega) rfl (host := "") (.inl kw_1000) dX12_even_111 (fun h39 => ?_)
        refine gw_iconst F dX12_even_114 ?_
        refine gw_iald F (sa_85 hst) (by decide) (by decide) dX12_even_115 (fun h40 => ?_)
        refine gw_if_eq F (tgt := 129) dX12_even_116 (by decide) h40 (fun c41 => ?_) (fun c41 => ?_)
        · have hf := hf.1 c41
          refine gw_iconst F dX12_even_129 ?_
          exact gr_HI F (by decide) hf (by decide) (by decide) dX12_even_130
        · have hf := hf.2 c41
          refine gw_aload_n F 0 rfl rfl (by decide) dX12_even_119 ?_
          refine gw_get7 F (so_64 hst) (by decide) rfl sg_lay_RX12 (j := 53) (by decide) (o1 := 85) (by first | rfl | omega) rfl (host := "") (.inl kw_1000) dX12_even_120 (fun h42 => ?_)
          refine gw_bipush F rfl dX12_even_123 ?_
          refine gw_iald F (sa_85 hst) (by decide) (by decide) dX12_even_125 (fun h43 => ?_)
          refine gw_if_ne F (tgt := 131) dX12_even_126 (by decide) h43 (fun c44 => ?_) (fun c44 => ?_)
          · have hf := hf.1 c44
            refine gw_aload_n F 0 rfl rfl (by decide) dX12_even_131 ?_
            refine gw_iload_n F 1 rfl rfl dX12_even_132 ?_
            refine gw_iconst F dX12_even_133 ?_
            refine gw_iadd F rfl dX12_even_134 ?_
            obtain ⟨g45, hf⟩ := hf
            obtain ⟨s46, e47⟩ : ∃ z : sg_M, z = sg_up s_110e40 64 55 (x3 + 1) := ⟨_, rfl⟩
            have hf := hf s46 e47
            refine gw_put0 F (so_64 hst) (by decide) rfl sg_lay_RX12 (j := 55) (by decide) g45 e47 tyX12_ok nmX12 rfl (tyX12_ok 55 (by decide)) rfl (host := "") (.inl kw_1002) dX12_even_135 ?_
            refine gw_iconst F dX12_even_138 ?_
            refine gw_istore F (by decide) rfl dX12_even_139 ?_
            refine gw_iconst F dX12_even_141 ?_
            refine gw_istore F (by decide) rfl dX12_even_142 ?_
            have L144 : ∀ n_144 : Nat, ∀ (s_144 : sg_M) (x4_144 : Int) (x5_144 : Int), sg_R x4_144 → sg_R x5_144 → fX12_even_L144 x3 Q n_144 s_144 x4_144 x5_144 → sg_W p l e (sg_rm 6 0 0) s m args below meth c (MQ below (sg_Q (some .int) G La s.heap.size (sg_HI La Q)) args s 0 0 (sg_A La s.heap.size)) 9 G (sg_A La s.heap.size) La s_144 0 0 144 [(0, sg_r 64), (3, sg_i x3), (4, sg_i x4_144), (5, sg_i x5_144)] [] := by
              intro n_144
              induction n_144 with
              | zero => intro s_144 x4_144 x5_144 r4_144 r5_144 hf; exact hf.elim
              | succ n_144 ih =>
                intro s_144 x4_144 x5_144 r4_144 r5_144 hf
                unfold fX12_even_L144 at hf
                refine gw_iload F 3 rfl dX12_even_144 ?_
                refine gw_iload_n F 1 rfl rfl dX12_even_146 ?_
                refine gw_icmp_gt F (tgt := 297) dX12_even_147 (by decide) r5_144 r3 (fun c48 => ?_) (fun c48 => ?_)
                · have hf := hf.1 c48
                  refine gw_iload F 2 rfl dX12_even_297 ?_
                  exact gr_HI F r4_144 hf (by decide) (by decide) dX12_even_299
                · have hf := hf.2 c48
                  refine gw_aload_n F 0 rfl rfl (by decide) dX12_even_150 ?_
                  refine gw_get7 F (so_64 hst) (by decide) rfl sg_lay_RX12 (j := 53) (by decide) (o1 := 85) (by first | rfl | omega) rfl (host := "") (.inl kw_1000) dX12_even_151 (fun h49 => ?_)
                  refine gw_iconst F dX12_even_154 ?_
                  refine gw_iald F (sa_85 hst) (by decide) (by decide) dX12_even_155 (fun h50 => ?_)
                  refine gw_aload_n F 0 rfl rfl (by decide) dX12_even_156 ?_
                  refine gw_get7 F (so_64 hst) (by decide) rfl sg_lay_RX12 (j := 53) (by decide) (o1 := 85) (by first | rfl | omega) rfl (host := "") (.inl kw_1000) dX12_even_157 (fun h51 => ?_)
                  refine gw_bipush F rfl dX12_even_160 ?_
                  refine gw_iald F (sa_85 hst) (by decide) (by decide) dX12_even_162 (fun h52 => ?_)
                  refine gw_aload_n F 0 rfl rfl (by decide) dX12_even_163 ?_
                  refine gw_get7 F (so_64 hst) (by decide) rfl sg_lay_RX12 (j := 53) (by decide) (o1 := 85) (by first | rfl | omega) rfl (host := "") (.inl kw_1000) dX12_even_164 (fun h53 => ?_)
                  refine gw_iconst F dX12_even_167 ?_
                  refine gw_iald F (sa_85 hst) (by decide) (by decide) dX12_even_168 (fun h54 => ?_)
                  refine gw_isub F rfl dX12_even_169 ?_
                  refine gw_iload F 3 rfl dX12_even_170 ?_
                  refine gw_imul F rfl dX12_even_172 ?_
                  refine gw_iload_n F 1 rfl rfl dX12_even_173 ?_
                  obtain ⟨g55, hf⟩ := hf
                  obtain ⟨g56, hf⟩ := hf
                  refine gw_idiv F g55 r3 g56 rfl dX12_even_174 ?_
                  refine gw_iadd F rfl dX12_even_175 ?_
                  obtain ⟨v57, e58⟩ : ∃ z : Int, z = ((s_144 85 0) + (Int.tdiv (((s_144 85 100) - (s_144 85 0)) * x5_144) x3)) := ⟨_, rfl⟩
                  obtain ⟨g59, hf⟩ := hf v57 e58
                  refine gw_nmI e58 ?_
                  refine gw_istore F (by decide) rfl dX12_even_176 ?_
                  refine gw_iconst F dX12_even_178 ?_
                  refine gw_istore F (by decide) rfl dX12_even_179 ?_
                  refine gw_iconst F dX12_even_181 ?_
                  refine gw_istore F (by decide) rfl dX12_even_182 ?_
                  have L184 : ∀ (k240 : Int → Prop) (hk240 : ∀ (x7_240e184 : Int), sg_R x7_240e184 → k240 x7_240e184 → sg_W p l e (sg_rm 6 0 0) s m args below meth c (MQ below (sg_Q (some .int) G La s.heap.size (sg_HI La Q)) args s 0 0 (sg_A La s.heap.size)) 9 G (sg_A La s.heap.size) La s_144 0 0 240 [(0, sg_r 64), (3, sg_i x3), (4, sg_i x4_144), (5, sg_i x5_144), (7, sg_i x7_240e184)] []), ∀ n_184 : Nat, ∀ (x7_184 : Int) (x8_184 : Int), sg_R x7_184 → sg_R x8_184 → fX12_even_L184 s_144 v57 k240 n_184 x7_184 x8_184 → sg_W p l e (sg_rm 6 0 0) s m args below meth c (MQ below (sg_Q (some .int) G La s.heap.size (sg_HI La Q)) args s 0 0 (sg_A La s.heap.size)) 9 G (sg_A La s.heap.size) La s_144 0 0 184 [(0, sg_r 64), (3, sg_i x3), (4, sg_i x4_144), (5, sg_i x5_144), (6, sg_i v57), (7, sg_i x7_184), (8, sg_i x8_184)] [] := by
                    intro k240 hk240 n_184
                    induction n_184 with
                    | zero => intro x7_184 x8_184 r7_184 r8_184 hf; exact hf.elim
                    | succ n_184 ih =>
                      intro x7_184 x8_184 r7_184 r8_184 hf
                      unfold fX12_even_L184 at hf
                      refine gw_iload F 6 rfl dX12_even_184 ?_
                      refine gw_bipush F rfl dX12_even_186 ?_
                      refine gw_icmp_gt F (tgt := 240) dX12_even_188 (by decide) r8_184 (by decide) (fun c60 => ?_) (fun c60 => ?_)
                      · have hf := hf.1 c60
                        refine gw_sub [0, 1, 2, 3, 5] rfl ?_
                        exact hk240 x7_184 r7_184 hf
                      · have hf := hf.2 c60
                        refine gw_aload_n F 0 rfl rfl (by decide) dX12_even_191 ?_
                        refine gw_get7 F (so_64 hst) (by decide) rfl sg_lay_RX12 (j := 53) (by decide) (o1 := 85) (by first | rfl | omega) rfl (host := "") (.inl kw_1000) dX12_even_192 (fun h61 => ?_)
                        refine gw_iload F 6 rfl dX12_even_195 ?_
                        obtain ⟨⟨b620, b621⟩, hf⟩ := hf
                        refine gw_iald F (sa_85 hst) b620 b621 dX12_even_197 (fun h63 => ?_)
                        have J234 : ∀ (x7_234 : Int), sg_R x7_234 → (fX12_even_j234 x8_184 (fX12_even_L184 s_144 v57 k240 n_184)) x7_234 → sg_W p l e (sg_rm 6 0 0) s m args below meth c (MQ below (sg_Q (some .int) G La s.heap.size (sg_HI La Q)) args s 0 0 (sg_A La s.heap.size)) 9 G (sg_A La s.heap.size) La s_144 0 0 234 [(0, sg_r 64), (3, sg_i x3), (4, sg_i x4_144), (5, sg_i x5_144), (6, sg_i v57), (7, sg_i x7_234), (8, sg_i x8_184)] [] := by
                          intro x7_234 r7_234 hf
                          unfold fX12_even_j234 at hf
                          refine gw_iinc F (z := (x8_184 + 1)) 6 rfl (by omega) (by decide) rfl dX12_even_234 ?_
                          refine gw_goto F (tgt := 184) dX12_even_237 (by decide) ?_
                          obtain ⟨g64, hf⟩ := hf
                          refine gw_sub [1, 2, 3, 4, 5, 6, 0] rfl ?_
                          exact ih x7_234 (x8_184 + 1) r7_234 g64 hf
                        refine gw_if_le F (tgt := 234) dX12_even_198 (by decide) h63 (fun c65 => ?_) (fun c65 => ?_)
                        · have hf := hf.1 c65
                          refine gw_sub [0, 1, 2, 3, 4, 5, 6] rfl ?_
                          exact J234 x7_184 r7_184 hf
                        · have hf := hf.2 c65
                          refine gw_aload_n F 0 rfl rfl (by decide) dX12_even_201 ?_
                          refine gw_get7 F (so_64 hst) (by decide) rfl sg_lay_RX12 (j := 53) (by decide) (o1 := 85) (by first | rfl | omega) rfl (host := "") (.inl kw_1000) dX12_even_202 (fun h66 => ?_)
                          refine gw_iload F 6 rfl dX12_even_205 ?_
                          obtain ⟨⟨b670, b671⟩, hf⟩ := hf
                          refine gw_iald F (sa_85 hst) b670 b671 dX12_even_207 (fun h68 => ?_)
                          refine gw_iload F 4 rfl dX12_even_208 ?_
                          refine gw_isub F rfl dX12_even_210 ?_
                          obtain ⟨g69, hf⟩ := hf
                          refine gk_PI F (gc_S F (S := []) (As := [sg_i ((s_144 85 x8_184) - v57)]) (CX12_size g69 hf) kw_1234 kw_103 kw_1232 kw_1233 hcX12_size ⟨by decide, by decide⟩ rfl rfl (Nat.le_of_ble_eq_true rfl) ⟨by decide, by decide⟩ dX12_even_211) (fun u70 h71 hf => ?_)
                          refine gw_aload_n F 0 rfl rfl (by decide) dX12_even_214 ?_
                          refine gw_get7 F (so_64 hst) (by decide) rfl sg_lay_RX12 (j := 53) (by decide) (o1 := 85) (by first | rfl | omega) rfl (host := "") (.inl kw_1000) dX12_even_215 (fun h72 => ?_)
                          refine gw_iload F 5 rfl dX12_even_218 ?_
                          obtain ⟨⟨b730, b731⟩, hf⟩ := hf
                          refine gw_iald F (sa_85 hst) b730 b731 dX12_even_220 (fun h74 => ?_)
                          refine gw_iload F 4 rfl dX12_even_221 ?_
                          refine gw_isub F rfl dX12_even_223 ?_
                          obtain ⟨g75, hf⟩ := hf
                          refine gk_PI F (gc_S F (S := [sg_i u70]) (As := [sg_i ((s_144 85 x7_184) - v57)]) (CX12_size g75 hf) kw_1234 kw_103 kw_1232 kw_1233 hcX12_size ⟨by decide, by decide⟩ rfl rfl (Nat.le_of_ble_eq_true rfl) ⟨by decide, by decide⟩ dX12_even_224) (fun u76 h77 hf => ?_)
                          refine gw_icmp_ge F (tgt := 234) dX12_even_227 (by decide) h71 h77 (fun c78 => ?_) (fun c78 => ?_)
                          · have hf := hf.1 c78
                            refine gw_sub [0, 1, 2, 3, 4, 5, 6] rfl ?_
                            exact J234 x7_184 r7_184 hf
                          · have hf := hf.2 c78
                            refine gw_iload F 6 rfl dX12_even_230 ?_
                            refine gw_istore F (by decide) rfl dX12_even_232 ?_
                            refine gw_sub [1, 2, 3, 4, 5, 0, 6] rfl ?_
                            exact J234 x8_184 r8_184 hf
                  obtain ⟨n79, hf⟩ := hf
                  refine gw_sub [3, 4, 5, 6, 2, 1, 0] rfl ?_
                  refine L184 _ (fun x7_240e184 r7_240e184 hf => ?_) n79 0 1 (by decide) (by decide) hf
                  refine gw_aload_n F 0 rfl rfl (by decide) dX12_even_240 ?_
                  refine gw_get7 F (so_64 hst) (by decide) rfl sg_lay_RX12 (j := 54) (by decide) (o1 := 86) (by first | rfl | omega) rfl (host := "") (.inl kw_1001) dX12_even_241 (fun h80 => ?_)
                  refine gw_iload F 3 rfl dX12_even_244 ?_
                  refine gw_iload F 4 rfl dX12_even_246 ?_
                  obtain ⟨⟨b810, b811⟩, hf⟩ := hf
                  obtain ⟨s82, e83⟩ : ∃ z : sg_M, z = sg_up s_144 86 x5_144 x7_240e184 := ⟨_, rfl⟩
                  have hf := hf s82 e83
                  refine gw_iast F (sa_86 hst) b810 b811 r7_240e184 e83 dX12_even_248 ?_
                  refine gw_iload F 3 rfl dX12_even_249 ?_
                  have J291 : ∀ (x4_291 : Int), sg_R x4_291 → (fX12_even_j291 x5_144 s82 (fX12_even_L144 x3 Q n_144)) x4_291 → sg_W p l e (sg_rm 6 0 0) s m args below meth c (MQ below (sg_Q (some .int) G La s.heap.size (sg_HI La Q)) args s 0 0 (sg_A La s.heap.size)) 9 G (sg_A La s.heap.size) La s82 0 0 291 [(0, sg_r 64), (3, sg_i x3), (4, sg_i x4_291), (5, sg_i x5_144)] [] := by
                    intro x4_291 r4_291 hf
                    unfold fX12_even_j291 at hf
                    refine gw_iinc F (z := (x5_144 + 1)) 3 rfl (by omega) (by decide) rfl dX12_even_291 ?_
                    refine gw_goto F (tgt := 144) dX12_even_294 (by decide) ?_
                    obtain ⟨g84, hf⟩ := hf
                    refine gw_sub [1, 2, 3, 0] rfl ?_
                    exact ih s82 x4_291 (x5_144 + 1) r4_291 g84 hf
                  refine gw_if_le F (tgt := 291) dX12_even_251 (by decide) r5_144 (fun c85 => ?_) (fun c85 => ?_)
                  · have hf := hf.1 c85
                    refine gw_sub [0, 1, 2, 3] rfl ?_
                    exact J291 x4_144 r4_144 hf
                  · have hf := hf.2 c85
                    refine gw_iload F 4 rfl dX12_even_254 ?_
                    refine gw_aload_n F 0 rfl rfl (by decide) dX12_even_256 ?_
                    refine gw_get7 F (so_64 hst) (by decide) rfl sg_lay_RX12 (j := 54) (by decide) (o1 := 86) (by first | rfl | omega) rfl (host := "") (.inl kw_1001) dX12_even_257 (fun h86 => ?_)
                    refine gw_iload F 3 rfl dX12_even_260 ?_
                    refine gw_iconst F dX12_even_262 ?_
                    refine gw_isub F rfl dX12_even_263 ?_
                    obtain ⟨⟨b870, b871⟩, hf⟩ := hf
                    refine gw_iald F (sa_86 hst) b870 b871 dX12_even_264 (fun h88 => ?_)
                    refine gw_isub F rfl dX12_even_265 ?_
                    obtain ⟨g89, hf⟩ := hf
                    refine gk_PI F (gc_S F (S := []) (As := [sg_i (x7_240e184 - (s82 86 (x5_144 - 1)))]) (CX12_size g89 hf) kw_1234 kw_103 kw_1232 kw_1233 hcX12_size ⟨by decide, by decide⟩ rfl rfl (Nat.le_of_ble_eq_true rfl) ⟨by decide, by decide⟩ dX12_even_266) (fun u90 h91 hf => ?_)
                    refine gw_iload F 2 rfl dX12_even_269 ?_
                    refine gw_icmp_le F (tgt := 291) dX12_even_271 (by decide) h91 r4_144 (fun c92 => ?_) (fun c92 => ?_)
                    · have hf := hf.1 c92
                      refine gw_sub [0, 1, 2, 3] rfl ?_
                      exact J291 x4_144 r4_144 hf
                    · have hf := hf.2 c92
                      refine gw_iload F 4 rfl dX12_even_274 ?_
                      refine gw_aload_n F 0 rfl rfl (by decide) dX12_even_276 ?_
                      refine gw_get7 F (so_64 hst) (by decide) rfl sg_lay_RX12 (j := 54) (by decide) (o1 := 86) (by first | rfl | omega) rfl (host := "") (.inl kw_1001) dX12_even_277 (fun h93 => ?_)
                      refine gw_iload F 3 rfl dX12_even_280 ?_
                      refine gw_iconst F dX12_even_282 ?_
                      refine gw_isub F rfl dX12_even_283 ?_
                      obtain ⟨⟨b940, b941⟩, hf⟩ := hf
                      refine gw_iald F (sa_86 hst) b940 b941 dX12_even_284 (fun h95 => ?_)
                      refine gw_isub F rfl dX12_even_285 ?_
                      obtain ⟨g96, hf⟩ := hf
                      refine gk_PI F (gc_S F (S := []) (As := [sg_i (x7_240e184 - (s82 86 (x5_144 - 1)))]) (CX12_size g96 hf) kw_1234 kw_103 kw_1232 kw_1233 hcX12_size ⟨by decide, by decide⟩ rfl rfl (Nat.le_of_ble_eq_true rfl) ⟨by decide, by decide⟩ dX12_even_286) (fun u97 h98 hf => ?_)
                      refine gw_istore F (by decide) rfl dX12_even_289 ?_
                      refine gw_sub [1, 2, 0, 3] rfl ?_
                      exact J291 u97 h98 hf
            obtain ⟨n99, hf⟩ := hf
            refine gw_sub [2, 3, 1, 0] rfl ?_
            refine L144   n99 s46 0 0 (by decide) (by decide) hf
          · have hf := hf.2 c44
            refine gw_iconst F dX12_even_129 ?_
            exact gr_HI F (by decide) hf (by decide) (by decide) dX12_even_130
      · have hf := hf.2 c12
        refine gw_iconst F dX12_even_35 ?_
        exact gr_HI F (by decide) hf (by decide) (by decide) dX12_even_36

theorem dX12_evenAt_0 : decode cX12_evenAt 0 = .ok (.aload_n 0, 1) := by decide +kernel
theorem dX12_evenAt_1 : decode cX12_evenAt 1 = .ok (.iconst 0, 1) := by decide +kernel
theorem dX12_evenAt_2 : decode cX12_evenAt 2 = .ok (.putfield 84, 3) := by decide +kernel
theorem dX12_evenAt_5 : decode cX12_evenAt 5 = .ok (.iload_n 1, 1) := by decide +kernel
theorem dX12_evenAt_6 : decode cX12_evenAt 6 = .ok (.ifCond .lt 20, 3) := by decide +kernel
theorem dX12_evenAt_9 : decode cX12_evenAt 9 = .ok (.iload_n 1, 1) := by decide +kernel
theorem dX12_evenAt_10 : decode cX12_evenAt 10 = .ok (.aload_n 0, 1) := by decide +kernel
theorem dX12_evenAt_11 : decode cX12_evenAt 11 = .ok (.getfield 350, 3) := by decide +kernel
theorem dX12_evenAt_14 : decode cX12_evenAt 14 = .ok (.if_icmp .ge 12, 3) := by decide +kernel
theorem dX12_evenAt_17 : decode cX12_evenAt 17 = .ok (.aload_n 0, 1) := by decide +kernel
theorem dX12_evenAt_18 : decode cX12_evenAt 18 = .ok (.getfield 74, 3) := by decide +kernel
theorem dX12_evenAt_21 : decode cX12_evenAt 21 = .ok (.iload_n 1, 1) := by decide +kernel
theorem dX12_evenAt_22 : decode cX12_evenAt 22 = .ok (.iaload, 1) := by decide +kernel
theorem dX12_evenAt_23 : decode cX12_evenAt 23 = .ok (.goto 4, 3) := by decide +kernel
theorem dX12_evenAt_26 : decode cX12_evenAt 26 = .ok (.iconst (-1), 1) := by decide +kernel
theorem dX12_evenAt_27 : decode cX12_evenAt 27 = .ok (.ireturn, 1) := by decide +kernel
theorem hcX12_evenAt : yX12_evenAt.cls ≠ "java/lang/invoke/MethodHandle" ∧ yX12_evenAt.cls ≠ "java/lang/invoke/VarHandle" ∧ (parseMethodDescriptor yX12_evenAt.desc).map (fun d => d.parameters.length) = some 1 := ⟨by decide +kernel, by decide +kernel, by decide +kernel⟩
def fX12_evenAt (s0 : sg_M) (x1 : Int) (Q : Int → sg_M → Prop) : Prop := ∀ s1 : sg_M, s1 = sg_up s0 64 0 0 → ((x1 < 0 → Q (-1) s1) ∧ (¬ (x1 < 0) → (((s1 64 55) ≤ x1 → Q (-1) s1) ∧ (¬ ((s1 64 55) ≤ x1) → (0 ≤ x1 ∧ x1 < 21) ∧ Q (s1 86 x1) s1))))
set_option maxHeartbeats 4000000 in
set_option maxRecDepth 100000 in
theorem CX12_evenAt {l : Launch} {G : sg_G} {La : sg_L} {s0 : sg_M} (hst : sg_St La) {x1 : Int} (r1 : sg_R x1) {Q : Int → sg_M → Prop} (hf : fX12_evenAt s0 x1 Q) : sg_C l G yX12_evenAt cX12_evenAt 2 (some .int) 1 0 0 La s0 [sg_r 64, sg_i x1] (sg_HI La Q) := by
  refine sg_body (by decide +kernel) (Nat.le_of_ble_eq_true rfl) ?_
  intro p e s m args below meth c F hnm
  unfold fX12_evenAt at hf
  show sg_W p l e (sg_rm 1 0 0) s m args below meth c (MQ below (sg_Q (some .int) G La s.heap.size (sg_HI La Q)) args s 0 0 (sg_A La s.heap.size)) 2 G (sg_A La s.heap.size) La s0 0 0 0 [(0, sg_r 64), (1, sg_i x1)] []
  refine gw_aload_n F 0 rfl rfl (by decide) dX12_evenAt_0 ?_
  refine gw_iconst F dX12_evenAt_1 ?_
  obtain ⟨s1, e2⟩ : ∃ z : sg_M, z = sg_up s0 64 0 0 := ⟨_, rfl⟩
  have hf := hf s1 e2
  refine gw_put0 F (so_64 hst) (by decide) rfl sg_lay_RX12 (j := 0) (by decide) (by decide) e2 tyX12_ok nmX12 rfl (tyX12_ok 0 (by decide)) rfl (host := "") (.inl kw_947) dX12_evenAt_2 ?_
  refine gw_iload_n F 1 rfl rfl dX12_evenAt_5 ?_
  refine gw_if_lt F (tgt := 26) dX12_evenAt_6 (by decide) r1 (fun c3 => ?_) (fun c3 => ?_)
  · have hf := hf.1 c3
    refine gw_iconst F dX12_evenAt_26 ?_
    exact gr_HI F (by decide) hf (by decide) (by decide) dX12_evenAt_27
  · have hf := hf.2 c3
    refine gw_iload_n F 1 rfl rfl dX12_evenAt_9 ?_
    refine gw_aload_n F 0 rfl rfl (by decide) dX12_evenAt_10 ?_
    refine gw_get0 F (so_64 hst) (by decide) rfl sg_lay_RX12 (j := 55) (by decide) rfl (host := "") (.inl kw_1002) dX12_evenAt_11 (fun h4 => ?_)
    refine gw_icmp_ge F (tgt := 26) dX12_evenAt_14 (by decide) r1 h4 (fun c5 => ?_) (fun c5 => ?_)
    · have hf := hf.1 c5
      refine gw_iconst F dX12_evenAt_26 ?_
      exact gr_HI F (by decide) hf (by decide) (by decide) dX12_evenAt_27
    · have hf := hf.2 c5
      refine gw_aload_n F 0 rfl rfl (by decide) dX12_evenAt_17 ?_
      refine gw_get7 F (so_64 hst) (by decide) rfl sg_lay_RX12 (j := 54) (by decide) (o1 := 86) (by first | rfl | omega) rfl (host := "") (.inl kw_1001) dX12_evenAt_18 (fun h6 => ?_)
      refine gw_iload_n F 1 rfl rfl dX12_evenAt_21 ?_
      obtain ⟨⟨b70, b71⟩, hf⟩ := hf
      refine gw_iald F (sa_86 hst) b70 b71 dX12_evenAt_22 (fun h8 => ?_)
      refine gw_goto F (tgt := 27) dX12_evenAt_23 (by decide) ?_
      exact gr_HI F h8 hf (by decide) (by decide) dX12_evenAt_27

theorem dX12_fault_0 : decode cX12_fault 0 = .ok (.aload_n 0, 1) := by decide +kernel
theorem dX12_fault_1 : decode cX12_fault 1 = .ok (.iconst 0, 1) := by decide +kernel
theorem dX12_fault_2 : decode cX12_fault 2 = .ok (.putfield 84, 3) := by decide +kernel
theorem dX12_fault_5 : decode cX12_fault 5 = .ok (.aload_n 0, 1) := by decide +kernel
theorem dX12_fault_6 : decode cX12_fault 6 = .ok (.getfield 146, 3) := by decide +kernel
theorem dX12_fault_9 : decode cX12_fault 9 = .ok (.ireturn, 1) := by decide +kernel
theorem hcX12_fault : yX12_fault.cls ≠ "java/lang/invoke/MethodHandle" ∧ yX12_fault.cls ≠ "java/lang/invoke/VarHandle" ∧ (parseMethodDescriptor yX12_fault.desc).map (fun d => d.parameters.length) = some 0 := ⟨by decide +kernel, by decide +kernel, by decide +kernel⟩
def fX12_fault (s0 : sg_M) (Q : Int → sg_M → Prop) : Prop := ∀ s1 : sg_M, s1 = sg_up s0 64 0 0 → Q (s1 64 10) s1
set_option maxHeartbeats 4000000 in
set_option maxRecDepth 100000 in
theorem CX12_fault {l : Launch} {G : sg_G} {La : sg_L} {s0 : sg_M} (hst : sg_St La) {Q : Int → sg_M → Prop} (hf : fX12_fault s0 Q) : sg_C l G yX12_fault cX12_fault 1 (some .int) 1 0 0 La s0 [sg_r 64] (sg_HI La Q) := by
  refine sg_body (by decide +kernel) (Nat.le_of_ble_eq_true rfl) ?_
  intro p e s m args below meth c F hnm
  unfold fX12_fault at hf
  show sg_W p l e (sg_rm 1 0 0) s m args below meth c (MQ below (sg_Q (some .int) G La s.heap.size (sg_HI La Q)) args s 0 0 (sg_A La s.heap.size)) 1 G (sg_A La s.heap.size) La s0 0 0 0 [(0, sg_r 64)] []
  refine gw_aload_n F 0 rfl rfl (by decide) dX12_fault_0 ?_
  refine gw_iconst F dX12_fault_1 ?_
  obtain ⟨s1, e2⟩ : ∃ z : sg_M, z = sg_up s0 64 0 0 := ⟨_, rfl⟩
  have hf := hf s1 e2
  refine gw_put0 F (so_64 hst) (by decide) rfl sg_lay_RX12 (j := 0) (by decide) (by decide) e2 tyX12_ok nmX12 rfl (tyX12_ok 0 (by decide)) rfl (host := "") (.inl kw_947) dX12_fault_2 ?_
  refine gw_aload_n F 0 rfl rfl (by decide) dX12_fault_5 ?_
  refine gw_get0 F (so_64 hst) (by decide) rfl sg_lay_RX12 (j := 10) (by decide) rfl (host := "") (.inl kw_957) dX12_fault_6 (fun h3 => ?_)
  exact gr_HI F h3 hf (by decide) (by decide) dX12_fault_9

theorem dX12_read_0 : decode cX12_read 0 = .ok (.aload_n 0, 1) := by decide +kernel
theorem dX12_read_1 : decode cX12_read 1 = .ok (.iconst 0, 1) := by decide +kernel
theorem dX12_read_2 : decode cX12_read 2 = .ok (.putfield 84, 3) := by decide +kernel
theorem dX12_read_5 : decode cX12_read 5 = .ok (.aload_n 0, 1) := by decide +kernel
theorem dX12_read_6 : decode cX12_read 6 = .ok (.invokevirtual 175, 3) := by decide +kernel
theorem dX12_read_9 : decode cX12_read 9 = .ok (.iload_n 1, 1) := by decide +kernel
theorem dX12_read_10 : decode cX12_read 10 = .ok (.iconst 1, 1) := by decide +kernel
theorem dX12_read_11 : decode cX12_read 11 = .ok (.sipush 2000, 3) := by decide +kernel
theorem dX12_read_14 : decode cX12_read 14 = .ok (.invokestatic 155, 3) := by decide +kernel
theorem dX12_read_17 : decode cX12_read 17 = .ok (.ifCond .eq 14, 3) := by decide +kernel
theorem dX12_read_20 : decode cX12_read 20 = .ok (.iload_n 2, 1) := by decide +kernel
theorem dX12_read_21 : decode cX12_read 21 = .ok (.iconst 0, 1) := by decide +kernel
theorem dX12_read_22 : decode cX12_read 22 = .ok (.sipush 200, 3) := by decide +kernel
theorem dX12_read_25 : decode cX12_read 25 = .ok (.invokestatic 155, 3) := by decide +kernel
theorem dX12_read_28 : decode cX12_read 28 = .ok (.ifCond .ne 5, 3) := by decide +kernel
theorem dX12_read_31 : decode cX12_read 31 = .ok (.iconst (-1), 1) := by decide +kernel
theorem dX12_read_32 : decode cX12_read 32 = .ok (.ireturn, 1) := by decide +kernel
theorem dX12_read_33 : decode cX12_read 33 = .ok (.aload_n 0, 1) := by decide +kernel
theorem dX12_read_34 : decode cX12_read 34 = .ok (.invokevirtual 332, 3) := by decide +kernel
theorem dX12_read_37 : decode cX12_read 37 = .ok (.aload_n 0, 1) := by decide +kernel
theorem dX12_read_38 : decode cX12_read 38 = .ok (.iconst 0, 1) := by decide +kernel
theorem dX12_read_39 : decode cX12_read 39 = .ok (.putfield 347, 3) := by decide +kernel
theorem dX12_read_42 : decode cX12_read 42 = .ok (.iconst 0, 1) := by decide +kernel
theorem dX12_read_43 : decode cX12_read 43 = .ok (.istore_n 3, 1) := by decide +kernel
theorem dX12_read_44 : decode cX12_read 44 = .ok (.iload_n 3, 1) := by decide +kernel
theorem dX12_read_45 : decode cX12_read 45 = .ok (.aload_n 0, 1) := by decide +kernel
theorem dX12_read_46 : decode cX12_read 46 = .ok (.invokevirtual 320, 3) := by decide +kernel
theorem dX12_read_49 : decode cX12_read 49 = .ok (.if_icmp .ge 47, 3) := by decide +kernel
theorem dX12_read_52 : decode cX12_read 52 = .ok (.aload_n 0, 1) := by decide +kernel
theorem dX12_read_53 : decode cX12_read 53 = .ok (.aload_n 0, 1) := by decide +kernel
theorem dX12_read_54 : decode cX12_read 54 = .ok (.getfield 56, 3) := by decide +kernel
theorem dX12_read_57 : decode cX12_read 57 = .ok (.iload_n 3, 1) := by decide +kernel
theorem dX12_read_58 : decode cX12_read 58 = .ok (.iaload, 1) := by decide +kernel
theorem dX12_read_59 : decode cX12_read 59 = .ok (.iload_n 1, 1) := by decide +kernel
theorem dX12_read_60 : decode cX12_read 60 = .ok (.iload_n 2, 1) := by decide +kernel
theorem dX12_read_61 : decode cX12_read 61 = .ok (.invokevirtual 341, 3) := by decide +kernel
theorem dX12_read_64 : decode cX12_read 64 = .ok (.ifCond .ne 6, 3) := by decide +kernel
theorem dX12_read_67 : decode cX12_read 67 = .ok (.goto 23, 3) := by decide +kernel
theorem dX12_read_70 : decode cX12_read 70 = .ok (.aload_n 0, 1) := by decide +kernel
theorem dX12_read_71 : decode cX12_read 71 = .ok (.getfield 68, 3) := by decide +kernel
theorem dX12_read_74 : decode cX12_read 74 = .ok (.aload_n 0, 1) := by decide +kernel
theorem dX12_read_75 : decode cX12_read 75 = .ok (.getfield 347, 3) := by decide +kernel
theorem dX12_read_78 : decode cX12_read 78 = .ok (.iload_n 3, 1) := by decide +kernel
theorem dX12_read_79 : decode cX12_read 79 = .ok (.iastore, 1) := by decide +kernel
theorem dX12_read_80 : decode cX12_read 80 = .ok (.aload_n 0, 1) := by decide +kernel
theorem dX12_read_81 : decode cX12_read 81 = .ok (.dup, 1) := by decide +kernel
theorem dX12_read_82 : decode cX12_read 82 = .ok (.getfield 347, 3) := by decide +kernel
theorem dX12_read_85 : decode cX12_read 85 = .ok (.iconst 1, 1) := by decide +kernel
theorem dX12_read_86 : decode cX12_read 86 = .ok (.iadd, 1) := by decide +kernel
theorem dX12_read_87 : decode cX12_read 87 = .ok (.putfield 347, 3) := by decide +kernel
theorem dX12_read_90 : decode cX12_read 90 = .ok (.iinc 3 1, 3) := by decide +kernel
theorem dX12_read_93 : decode cX12_read 93 = .ok (.goto (-49), 3) := by decide +kernel
theorem dX12_read_96 : decode cX12_read 96 = .ok (.aload_n 0, 1) := by decide +kernel
theorem dX12_read_97 : decode cX12_read 97 = .ok (.getfield 347, 3) := by decide +kernel
theorem dX12_read_100 : decode cX12_read 100 = .ok (.ireturn, 1) := by decide +kernel
theorem hcX12_read : yX12_read.cls ≠ "java/lang/invoke/MethodHandle" ∧ yX12_read.cls ≠ "java/lang/invoke/VarHandle" ∧ (parseMethodDescriptor yX12_read.desc).map (fun d => d.parameters.length) = some 2 := ⟨by decide +kernel, by decide +kernel, by decide +kernel⟩
def fX12_read_j90 (x3_44 : Int) (k44 : sg_M → Int → Prop) (s_90 : sg_M) : Prop := sg_R (x3_44 + 1) ∧ k44 s_90 (x3_44 + 1)
def fX12_read_L44 (x1 : Int) (x2 : Int) (Q : Int → sg_M → Prop) : Nat → sg_M → Int → Prop
  | 0, _, _ => False
  | n_44 + 1, s_44, x3_44 => fX12_bends s_44 (fun u13 => ((u13 ≤ x3_44 → Q (s_44 64 52) s_44) ∧ (¬ (u13 ≤ x3_44) → (0 ≤ x3_44 ∧ x3_44 < 40) ∧ fX12_isNear (s_44 80 x3_44) x1 x2 (fun u20 => ((u20 ≠ 0 → (0 ≤ (s_44 64 52) ∧ (s_44 64 52) < 40) ∧ ∀ s27 : sg_M, s27 = sg_up s_44 84 (s_44 64 52) x3_44 → sg_R ((s27 64 52) + 1) ∧ ∀ s31 : sg_M, s31 = sg_up s27 64 52 ((s27 64 52) + 1) → (fX12_read_j90 x3_44 (fX12_read_L44 x1 x2 Q n_44)) s31) ∧ (u20 = 0 → (fX12_read_j90 x3_44 (fX12_read_L44 x1 x2 Q n_44)) s_44))))))
def fX12_read (s0 : sg_M) (x1 : Int) (x2 : Int) (Q : Int → sg_M → Prop) : Prop := ∀ s1 : sg_M, s1 = sg_up s0 64 0 0 → fX12_lay s1 (fun s3 => fX12_isIn x1 1 2000 (fun u4 => ((u4 = 0 → Q (-1) s3) ∧ (¬ (u4 = 0) → fX12_isIn x2 0 200 (fun u7 => ((u7 ≠ 0 → fX12_sing s3 (fun s10 => ∀ s11 : sg_M, s11 = sg_up s10 64 52 0 → (∃ n33 : Nat, fX12_read_L44 x1 x2 Q n33 s11 0))) ∧ (u7 = 0 → Q (-1) s3)))))))
set_option maxHeartbeats 4000000 in
set_option maxRecDepth 100000 in
theorem CX12_read {l : Launch} {G : sg_G} {La : sg_L} {s0 : sg_M} (hst : sg_St La) {x1 : Int} (r1 : sg_R x1) {x2 : Int} (r2 : sg_R x2) {Q : Int → sg_M → Prop} (hf : fX12_read s0 x1 x2 Q) : sg_C l G yX12_read cX12_read 4 (some .int) 7 0 0 La s0 [sg_r 64, sg_i x1, sg_i x2] (sg_HI La Q) := by
  refine sg_body (by decide +kernel) (Nat.le_of_ble_eq_true rfl) ?_
  intro p e s m args below meth c F hnm
  unfold fX12_read at hf
  show sg_W p l e (sg_rm 7 0 0) s m args below meth c (MQ below (sg_Q (some .int) G La s.heap.size (sg_HI La Q)) args s 0 0 (sg_A La s.heap.size)) 4 G (sg_A La s.heap.size) La s0 0 0 0 [(0, sg_r 64), (1, sg_i x1), (2, sg_i x2)] []
  refine gw_aload_n F 0 rfl rfl (by decide) dX12_read_0 ?_
  refine gw_iconst F dX12_read_1 ?_
  obtain ⟨s1, e2⟩ : ∃ z : sg_M, z = sg_up s0 64 0 0 := ⟨_, rfl⟩
  have hf := hf s1 e2
  refine gw_put0 F (so_64 hst) (by decide) rfl sg_lay_RX12 (j := 0) (by decide) (by decide) e2 tyX12_ok nmX12 rfl (tyX12_ok 0 (by decide)) rfl (host := "") (.inl kw_947) dX12_read_2 ?_
  refine gw_aload_n F 0 rfl rfl (by decide) dX12_read_5 ?_
  refine gk_HV F (gc_V F (S := []) (As := []) (T := TX12) (N := 62) (CX12_lay hst hf) (so_64 hst) (by decide) rfl kw_1034 kw_103 kw_1032 kw_1033 kw_41 hcX12_lay ⟨by decide, by decide⟩ rfl rfl (Nat.le_of_ble_eq_true rfl) ⟨by decide, by decide⟩ dX12_read_6) (fun s3 hf => ?_)
  refine gw_iload_n F 1 rfl rfl dX12_read_9 ?_
  refine gw_iconst F dX12_read_10 ?_
  refine gw_sipush F rfl dX12_read_11 ?_
  refine gk_PZ F (gc_S F (S := []) (As := [sg_i x1, sg_i 1, sg_i 2000]) (CX12_isIn r1 (by decide) (by decide) hf) kw_1075 kw_103 kw_1073 kw_1074 hcX12_isIn ⟨by decide, by decide⟩ rfl rfl (Nat.le_of_ble_eq_true rfl) ⟨by decide, by decide⟩ dX12_read_14) (fun u4 h5 hf => ?_)
  refine gw_if_eq F (tgt := 31) dX12_read_17 (by decide) (sg_B_R h5) (fun c6 => ?_) (fun c6 => ?_)
  · have hf := hf.1 c6
    refine gw_iconst F dX12_read_31 ?_
    exact gr_HI F (by decide) hf (by decide) (by decide) dX12_read_32
  · have hf := hf.2 c6
    refine gw_iload_n F 2 rfl rfl dX12_read_20 ?_
    refine gw_iconst F dX12_read_21 ?_
    refine gw_sipush F rfl dX12_read_22 ?_
    refine gk_PZ F (gc_S F (S := []) (As := [sg_i x2, sg_i 0, sg_i 200]) (CX12_isIn r2 (by decide) (by decide) hf) kw_1075 kw_103 kw_1073 kw_1074 hcX12_isIn ⟨by decide, by decide⟩ rfl rfl (Nat.le_of_ble_eq_true rfl) ⟨by decide, by decide⟩ dX12_read_25) (fun u7 h8 hf => ?_)
    refine gw_if_ne F (tgt := 33) dX12_read_28 (by decide) (sg_B_R h8) (fun c9 => ?_) (fun c9 => ?_)
    · have hf := hf.1 c9
      refine gw_aload_n F 0 rfl rfl (by decide) dX12_read_33 ?_
      refine gk_HV F (gc_V F (S := []) (As := []) (T := TX12) (N := 62) (CX12_sing hst hf) (so_64 hst) (by decide) rfl kw_1223 kw_103 kw_1221 kw_1222 kw_74 hcX12_sing ⟨by decide, by decide⟩ rfl rfl (Nat.le_of_ble_eq_true rfl) ⟨by decide, by decide⟩ dX12_read_34) (fun s10 hf => ?_)
      refine gw_aload_n F 0 rfl rfl (by decide) dX12_read_37 ?_
      refine gw_iconst F dX12_read_38 ?_
      obtain ⟨s11, e12⟩ : ∃ z : sg_M, z = sg_up s10 64 52 0 := ⟨_, rfl⟩
      have hf := hf s11 e12
      refine gw_put0 F (so_64 hst) (by decide) rfl sg_lay_RX12 (j := 52) (by decide) (by decide) e12 tyX12_ok nmX12 rfl (tyX12_ok 52 (by decide)) rfl (host := "") (.inl kw_999) dX12_read_39 ?_
      refine gw_iconst F dX12_read_42 ?_
      refine gw_istore_n F rfl (by decide) rfl dX12_read_43 ?_
      have L44 : ∀ n_44 : Nat, ∀ (s_44 : sg_M) (x3_44 : Int), sg_R x3_44 → fX12_read_L44 x1 x2 Q n_44 s_44 x3_44 → sg_W p l e (sg_rm 7 0 0) s m args below meth c (MQ below (sg_Q (some .int) G La s.heap.size (sg_HI La Q)) args s 0 0 (sg_A La s.heap.size)) 4 G (sg_A La s.heap.size) La s_44 0 0 44 [(0, sg_r 64), (1, sg_i x1), (2, sg_i x2), (3, sg_i x3_44)] [] := by
        intro n_44
        induction n_44 with
        | zero => intro s_44 x3_44 r3_44 hf; exact hf.elim
        | succ n_44 ih =>
          intro s_44 x3_44 r3_44 hf
          unfold fX12_read_L44 at hf
          refine gw_iload_n F 3 rfl rfl dX12_read_44 ?_
          refine gw_aload_n F 0 rfl rfl (by decide) dX12_read_45 ?_
          refine gk_PI F (gc_V F (S := [sg_i x3_44]) (As := []) (T := TX12) (N := 62) (CX12_bends hst hf) (so_64 hst) (by decide) rfl kw_1203 kw_103 kw_1201 kw_1202 kw_70 hcX12_bends ⟨by decide, by decide⟩ rfl rfl (Nat.le_of_ble_eq_true rfl) ⟨by decide, by decide⟩ dX12_read_46) (fun u13 h14 hf => ?_)
          refine gw_icmp_ge F (tgt := 96) dX12_read_49 (by decide) r3_44 h14 (fun c15 => ?_) (fun c15 => ?_)
          · have hf := hf.1 c15
            refine gw_aload_n F 0 rfl rfl (by decide) dX12_read_96 ?_
            refine gw_get0 F (so_64 hst) (by decide) rfl sg_lay_RX12 (j := 52) (by decide) rfl (host := "") (.inl kw_999) dX12_read_97 (fun h16 => ?_)
            exact gr_HI F h16 hf (by decide) (by decide) dX12_read_100
          · have hf := hf.2 c15
            refine gw_aload_n F 0 rfl rfl (by decide) dX12_read_52 ?_
            refine gw_aload_n F 0 rfl rfl (by decide) dX12_read_53 ?_
            refine gw_get7 F (so_64 hst) (by decide) rfl sg_lay_RX12 (j := 46) (by decide) (o1 := 80) (by first | rfl | omega) rfl (host := "") (.inl kw_993) dX12_read_54 (fun h17 => ?_)
            refine gw_iload_n F 3 rfl rfl dX12_read_57 ?_
            obtain ⟨⟨b180, b181⟩, hf⟩ := hf
            refine gw_iald F (sa_80 hst) b180 b181 dX12_read_58 (fun h19 => ?_)
            refine gw_iload_n F 1 rfl rfl dX12_read_59 ?_
            refine gw_iload_n F 2 rfl rfl dX12_read_60 ?_
            refine gk_PZ F (gc_V F (S := []) (As := [sg_i (s_44 80 x3_44), sg_i x1, sg_i x2]) (T := TX12) (N := 62) (CX12_isNear hst h19 r1 r2 hf) (so_64 hst) (by decide) rfl kw_1237 kw_103 kw_1235 kw_1236 kw_76 hcX12_isNear ⟨by decide, by decide⟩ rfl rfl (Nat.le_of_ble_eq_true rfl) ⟨by decide, by decide⟩ dX12_read_61) (fun u20 h21 hf => ?_)
            have J90 : ∀ (s_90 : sg_M), (fX12_read_j90 x3_44 (fX12_read_L44 x1 x2 Q n_44)) s_90 → sg_W p l e (sg_rm 7 0 0) s m args below meth c (MQ below (sg_Q (some .int) G La s.heap.size (sg_HI La Q)) args s 0 0 (sg_A La s.heap.size)) 4 G (sg_A La s.heap.size) La s_90 0 0 90 [(0, sg_r 64), (1, sg_i x1), (2, sg_i x2), (3, sg_i x3_44)] [] := by
              intro s_90 hf
              unfold fX12_read_j90 at hf
              refine gw_iinc F (z := (x3_44 + 1)) 3 rfl (by omega) (by decide) rfl dX12_read_90 ?_
              refine gw_goto F (tgt := 44) dX12_read_93 (by decide) ?_
              obtain ⟨g22, hf⟩ := hf
              refine gw_sub [1, 2, 3, 0] rfl ?_
              exact ih s_90 (x3_44 + 1) g22 hf
            refine gw_if_ne F (tgt := 70) dX12_read_64 (by decide) (sg_B_R h21) (fun c23 => ?_) (fun c23 => ?_)
            · have hf := hf.1 c23
              refine gw_aload_n F 0 rfl rfl (by decide) dX12_read_70 ?_
              refine gw_get7 F (so_64 hst) (by decide) rfl sg_lay_RX12 (j := 51) (by decide) (o1 := 84) (by first | rfl | omega) rfl (host := "") (.inl kw_998) dX12_read_71 (fun h24 => ?_)
              refine gw_aload_n F 0 rfl rfl (by decide) dX12_read_74 ?_
              refine gw_get0 F (so_64 hst) (by decide) rfl sg_lay_RX12 (j := 52) (by decide) rfl (host := "") (.inl kw_999) dX12_read_75 (fun h25 => ?_)
              refine gw_iload_n F 3 rfl rfl dX12_read_78 ?_
              obtain ⟨⟨b260, b261⟩, hf⟩ := hf
              obtain ⟨s27, e28⟩ : ∃ z : sg_M, z = sg_up s_44 84 (s_44 64 52) x3_44 := ⟨_, rfl⟩
              have hf := hf s27 e28
              refine gw_iast F (sa_84 hst) b260 b261 r3_44 e28 dX12_read_79 ?_
              refine gw_aload_n F 0 rfl rfl (by decide) dX12_read_80 ?_
              refine gw_dup F rfl dX12_read_81 ?_
              refine gw_get0 F (so_64 hst) (by decide) rfl sg_lay_RX12 (j := 52) (by decide) rfl (host := "") (.inl kw_999) dX12_read_82 (fun h29 => ?_)
              refine gw_iconst F dX12_read_85 ?_
              refine gw_iadd F rfl dX12_read_86 ?_
              obtain ⟨g30, hf⟩ := hf
              obtain ⟨s31, e32⟩ : ∃ z : sg_M, z = sg_up s27 64 52 ((s27 64 52) + 1) := ⟨_, rfl⟩
              have hf := hf s31 e32
              refine gw_put0 F (so_64 hst) (by decide) rfl sg_lay_RX12 (j := 52) (by decide) g30 e32 tyX12_ok nmX12 rfl (tyX12_ok 52 (by decide)) rfl (host := "") (.inl kw_999) dX12_read_87 ?_
              refine gw_sub [0, 1, 2, 3] rfl ?_
              exact J90 s31 hf
            · have hf := hf.2 c23
              refine gw_goto F (tgt := 90) dX12_read_67 (by decide) ?_
              refine gw_sub [0, 1, 2, 3] rfl ?_
              exact J90 s_44 hf
      obtain ⟨n33, hf⟩ := hf
      refine gw_sub [1, 2, 3, 0] rfl ?_
      refine L44   n33 s11 0 (by decide) hf
    · have hf := hf.2 c9
      refine gw_iconst F dX12_read_31 ?_
      exact gr_HI F (by decide) hf (by decide) (by decide) dX12_read_32

theorem dX12_count_0 : decode cX12_count 0 = .ok (.aload_n 0, 1) := by decide +kernel
theorem dX12_count_1 : decode cX12_count 1 = .ok (.iconst 0, 1) := by decide +kernel
theorem dX12_count_2 : decode cX12_count 2 = .ok (.putfield 84, 3) := by decide +kernel
theorem dX12_count_5 : decode cX12_count 5 = .ok (.aload_n 0, 1) := by decide +kernel
theorem dX12_count_6 : decode cX12_count 6 = .ok (.invokevirtual 175, 3) := by decide +kernel
theorem dX12_count_9 : decode cX12_count 9 = .ok (.iload_n 1, 1) := by decide +kernel
theorem dX12_count_10 : decode cX12_count 10 = .ok (.tableswitch 76 0 5 #[38, 43, 50, 57, 66, 71], 38) := by decide +kernel
theorem dX12_count_48 : decode cX12_count 48 = .ok (.aload_n 0, 1) := by decide +kernel
theorem dX12_count_49 : decode cX12_count 49 = .ok (.invokevirtual 202, 3) := by decide +kernel
theorem dX12_count_52 : decode cX12_count 52 = .ok (.ireturn, 1) := by decide +kernel
theorem dX12_count_53 : decode cX12_count 53 = .ok (.aload_n 0, 1) := by decide +kernel
theorem dX12_count_54 : decode cX12_count 54 = .ok (.getfield 13, 3) := by decide +kernel
theorem dX12_count_57 : decode cX12_count 57 = .ok (.iconst 1, 1) := by decide +kernel
theorem dX12_count_58 : decode cX12_count 58 = .ok (.iaload, 1) := by decide +kernel
theorem dX12_count_59 : decode cX12_count 59 = .ok (.ireturn, 1) := by decide +kernel
theorem dX12_count_60 : decode cX12_count 60 = .ok (.aload_n 0, 1) := by decide +kernel
theorem dX12_count_61 : decode cX12_count 61 = .ok (.getfield 13, 3) := by decide +kernel
theorem dX12_count_64 : decode cX12_count 64 = .ok (.iconst 2, 1) := by decide +kernel
theorem dX12_count_65 : decode cX12_count 65 = .ok (.iaload, 1) := by decide +kernel
theorem dX12_count_66 : decode cX12_count 66 = .ok (.ireturn, 1) := by decide +kernel
theorem dX12_count_67 : decode cX12_count 67 = .ok (.aload_n 0, 1) := by decide +kernel
theorem dX12_count_68 : decode cX12_count 68 = .ok (.getfield 13, 3) := by decide +kernel
theorem dX12_count_71 : decode cX12_count 71 = .ok (.sipush 1300, 3) := by decide +kernel
theorem dX12_count_74 : decode cX12_count 74 = .ok (.iaload, 1) := by decide +kernel
theorem dX12_count_75 : decode cX12_count 75 = .ok (.ireturn, 1) := by decide +kernel
theorem dX12_count_76 : decode cX12_count 76 = .ok (.aload_n 0, 1) := by decide +kernel
theorem dX12_count_77 : decode cX12_count 77 = .ok (.invokevirtual 320, 3) := by decide +kernel
theorem dX12_count_80 : decode cX12_count 80 = .ok (.ireturn, 1) := by decide +kernel
theorem dX12_count_81 : decode cX12_count 81 = .ok (.aload_n 0, 1) := by decide +kernel
theorem dX12_count_82 : decode cX12_count 82 = .ok (.getfield 87, 3) := by decide +kernel
theorem dX12_count_85 : decode cX12_count 85 = .ok (.ireturn, 1) := by decide +kernel
theorem dX12_count_86 : decode cX12_count 86 = .ok (.iconst (-1), 1) := by decide +kernel
theorem dX12_count_87 : decode cX12_count 87 = .ok (.ireturn, 1) := by decide +kernel
theorem hcX12_count : yX12_count.cls ≠ "java/lang/invoke/MethodHandle" ∧ yX12_count.cls ≠ "java/lang/invoke/VarHandle" ∧ (parseMethodDescriptor yX12_count.desc).map (fun d => d.parameters.length) = some 1 := ⟨by decide +kernel, by decide +kernel, by decide +kernel⟩
def fX12_count (s0 : sg_M) (x1 : Int) (Q : Int → sg_M → Prop) : Prop := ∀ s1 : sg_M, s1 = sg_up s0 64 0 0 → fX12_lay s1 (fun s3 => ((x1 < 0 ∨ 5 < x1 → Q (-1) s3) ∧ (x1 = 0 → fX12_pieces s3 (fun u5 => Q u5 s3)) ∧ (x1 = 1 → Q (s3 66 1) s3) ∧ (x1 = 2 → Q (s3 66 2) s3) ∧ (x1 = 3 → Q (s3 66 1300) s3) ∧ (x1 = 4 → fX12_bends s3 (fun u13 => Q u13 s3)) ∧ (x1 = 5 → Q (s3 64 2) s3)))
set_option maxHeartbeats 4000000 in
set_option maxRecDepth 100000 in
theorem CX12_count {l : Launch} {G : sg_G} {La : sg_L} {s0 : sg_M} (hst : sg_St La) {x1 : Int} (r1 : sg_R x1) {Q : Int → sg_M → Prop} (hf : fX12_count s0 x1 Q) : sg_C l G yX12_count cX12_count 2 (some .int) 2 0 0 La s0 [sg_r 64, sg_i x1] (sg_HI La Q) := by
  refine sg_body (by decide +kernel) (Nat.le_of_ble_eq_true rfl) ?_
  intro p e s m args below meth c F hnm
  unfold fX12_count at hf
  show sg_W p l e (sg_rm 2 0 0) s m args below meth c (MQ below (sg_Q (some .int) G La s.heap.size (sg_HI La Q)) args s 0 0 (sg_A La s.heap.size)) 2 G (sg_A La s.heap.size) La s0 0 0 0 [(0, sg_r 64), (1, sg_i x1)] []
  refine gw_aload_n F 0 rfl rfl (by decide) dX12_count_0 ?_
  refine gw_iconst F dX12_count_1 ?_
  obtain ⟨s1, e2⟩ : ∃ z : sg_M, z = sg_up s0 64 0 0 := ⟨_, rfl⟩
  have hf := hf s1 e2
  refine gw_put0 F (so_64 hst) (by decide) rfl sg_lay_RX12 (j := 0) (by decide) (by decide) e2 tyX12_ok nmX12 rfl (tyX12_ok 0 (by decide)) rfl (host := "") (.inl kw_947) dX12_count_2 ?_
  refine gw_aload_n F 0 rfl rfl (by decide) dX12_count_5 ?_
  refine gk_HV F (gc_V F (S := []) (As := []) (T := TX12) (N := 62) (CX12_lay hst hf) (so_64 hst) (by decide) rfl kw_1034 kw_103 kw_1032 kw_1033 kw_41 hcX12_lay ⟨by decide, by decide⟩ rfl rfl (Nat.le_of_ble_eq_true rfl) ⟨by decide, by decide⟩ dX12_count_6) (fun s3 hf => ?_)
  refine gw_iload_n F 1 rfl rfl dX12_count_9 ?_
  refine gw_switch F dX12_count_10 r1 (td := 86) (by decide) (fun c4 => ?_) (fun i hi1 hi2 => ?_)
  · have hf := hf.1 c4
    refine gw_iconst F dX12_count_86 ?_
    exact gr_HI F (by decide) hf (by decide) (by decide) dX12_count_87
  · rcases (show i = 0 ∨ i = 1 ∨ i = 2 ∨ i = 3 ∨ i = 4 ∨ i = 5 by omega) with rfl | rfl | rfl | rfl | rfl | rfl
    · have hf := hf.2.1 (by omega)
      refine ⟨38, 48, rfl, by decide, ?_⟩
      refine gw_aload_n F 0 rfl rfl (by decide) dX12_count_48 ?_
      refine gk_PI F (gc_V F (S := []) (As := []) (T := TX12) (N := 62) (CX12_pieces hst hf) (so_64 hst) (by decide) rfl kw_1095 kw_103 kw_1093 kw_1094 kw_52 hcX12_pieces ⟨by decide, by decide⟩ rfl rfl (Nat.le_of_ble_eq_true rfl) ⟨by decide, by decide⟩ dX12_count_49) (fun u5 h6 hf => ?_)
      exact gr_HI F h6 hf (by decide) (by decide) dX12_count_52
    · have hf := hf.2.2.1 (by omega)
      refine ⟨43, 53, rfl, by decide, ?_⟩
      refine gw_aload_n F 0 rfl rfl (by decide) dX12_count_53 ?_
      refine gw_get7 F (so_64 hst) (by decide) rfl sg_lay_RX12 (j := 14) (by decide) (o1 := 66) (by first | rfl | omega) rfl (host := "") (.inl kw_961) dX12_count_54 (fun h7 => ?_)
      refine gw_iconst F dX12_count_57 ?_
      refine gw_iald F (sa_66 hst) (by decide) (by decide) dX12_count_58 (fun h8 => ?_)
      exact gr_HI F h8 hf (by decide) (by decide) dX12_count_59
    · have hf := hf.2.2.2.1 (by omega)
      refine ⟨50, 60, rfl, by decide, ?_⟩
      refine gw_aload_n F 0 rfl rfl (by decide) dX12_count_60 ?_
      refine gw_get7 F (so_64 hst) (by decide) rfl sg_lay_RX12 (j := 14) (by decide) (o1 := 66) (by first | rfl | omega) rfl (host := "") (.inl kw_961) dX12_count_61 (fun h9 => ?_)
      refine gw_iconst F dX12_count_64 ?_
      refine gw_iald F (sa_66 hst) (by decide) (by decide) dX12_count_65 (fun h10 => ?_)
      exact gr_HI F h10 hf (by decide) (by decide) dX12_count_66
    · have hf := hf.2.2.2.2.1 (by omega)
      refine ⟨57, 67, rfl, by decide, ?_⟩
      refine gw_aload_n F 0 rfl rfl (by decide) dX12_count_67 ?_
      refine gw_get7 F (so_64 hst) (by decide) rfl sg_lay_RX12 (j := 14) (by decide) (o1 := 66) (by first | rfl | omega) rfl (host := "") (.inl kw_961) dX12_count_68 (fun h11 => ?_)
      refine gw_sipush F rfl dX12_count_71 ?_
      refine gw_iald F (sa_66 hst) (by decide) (by decide) dX12_count_74 (fun h12 => ?_)
      exact gr_HI F h12 hf (by decide) (by decide) dX12_count_75
    · have hf := hf.2.2.2.2.2.1 (by omega)
      refine ⟨66, 76, rfl, by decide, ?_⟩
      refine gw_aload_n F 0 rfl rfl (by decide) dX12_count_76 ?_
      refine gk_PI F (gc_V F (S := []) (As := []) (T := TX12) (N := 62) (CX12_bends hst hf) (so_64 hst) (by decide) rfl kw_1203 kw_103 kw_1201 kw_1202 kw_70 hcX12_bends ⟨by decide, by decide⟩ rfl rfl (Nat.le_of_ble_eq_true rfl) ⟨by decide, by decide⟩ dX12_count_77) (fun u13 h14 hf => ?_)
      exact gr_HI F h14 hf (by decide) (by decide) dX12_count_80
    · have hf := hf.2.2.2.2.2.2 (by omega)
      refine ⟨71, 81, rfl, by decide, ?_⟩
      refine gw_aload_n F 0 rfl rfl (by decide) dX12_count_81 ?_
      refine gw_get0 F (so_64 hst) (by decide) rfl sg_lay_RX12 (j := 2) (by decide) rfl (host := "") (.inl kw_949) dX12_count_82 (fun h15 => ?_)
      exact gr_HI F h15 hf (by decide) (by decide) dX12_count_85

theorem dX12_keep_0 : decode cX12_keep 0 = .ok (.aload_n 0, 1) := by decide +kernel
theorem dX12_keep_1 : decode cX12_keep 1 = .ok (.iconst 0, 1) := by decide +kernel
theorem dX12_keep_2 : decode cX12_keep 2 = .ok (.putfield 84, 3) := by decide +kernel
theorem dX12_keep_5 : decode cX12_keep 5 = .ok (.aload_n 0, 1) := by decide +kernel
theorem dX12_keep_6 : decode cX12_keep 6 = .ok (.invokevirtual 175, 3) := by decide +kernel
theorem dX12_keep_9 : decode cX12_keep 9 = .ok (.iload_n 1, 1) := by decide +kernel
theorem dX12_keep_10 : decode cX12_keep 10 = .ok (.iconst 0, 1) := by decide +kernel
theorem dX12_keep_11 : decode cX12_keep 11 = .ok (.iconst 3, 1) := by decide +kernel
theorem dX12_keep_12 : decode cX12_keep 12 = .ok (.invokestatic 155, 3) := by decide +kernel
theorem dX12_keep_15 : decode cX12_keep 15 = .ok (.ifCond .ne 5, 3) := by decide +kernel
theorem dX12_keep_18 : decode cX12_keep 18 = .ok (.iconst 0, 1) := by decide +kernel
theorem dX12_keep_19 : decode cX12_keep 19 = .ok (.ireturn, 1) := by decide +kernel
theorem dX12_keep_20 : decode cX12_keep 20 = .ok (.iconst 0, 1) := by decide +kernel
theorem dX12_keep_21 : decode cX12_keep 21 = .ok (.istore_n 2, 1) := by decide +kernel
theorem dX12_keep_22 : decode cX12_keep 22 = .ok (.iload_n 2, 1) := by decide +kernel
theorem dX12_keep_23 : decode cX12_keep 23 = .ok (.sipush 260, 3) := by decide +kernel
theorem dX12_keep_26 : decode cX12_keep 26 = .ok (.if_icmp .ge 31, 3) := by decide +kernel
theorem dX12_keep_29 : decode cX12_keep 29 = .ok (.aload_n 0, 1) := by decide +kernel
theorem dX12_keep_30 : decode cX12_keep 30 = .ok (.getfield 13, 3) := by decide +kernel
theorem dX12_keep_33 : decode cX12_keep 33 = .ok (.sipush 260, 3) := by decide +kernel
theorem dX12_keep_36 : decode cX12_keep 36 = .ok (.sipush 260, 3) := by decide +kernel
theorem dX12_keep_39 : decode cX12_keep 39 = .ok (.iload_n 1, 1) := by decide +kernel
theorem dX12_keep_40 : decode cX12_keep 40 = .ok (.imul, 1) := by decide +kernel
theorem dX12_keep_41 : decode cX12_keep 41 = .ok (.iadd, 1) := by decide +kernel
theorem dX12_keep_42 : decode cX12_keep 42 = .ok (.iload_n 2, 1) := by decide +kernel
theorem dX12_keep_43 : decode cX12_keep 43 = .ok (.iadd, 1) := by decide +kernel
theorem dX12_keep_44 : decode cX12_keep 44 = .ok (.aload_n 0, 1) := by decide +kernel
theorem dX12_keep_45 : decode cX12_keep 45 = .ok (.getfield 13, 3) := by decide +kernel
theorem dX12_keep_48 : decode cX12_keep 48 = .ok (.iload_n 2, 1) := by decide +kernel
theorem dX12_keep_49 : decode cX12_keep 49 = .ok (.iaload, 1) := by decide +kernel
theorem dX12_keep_50 : decode cX12_keep 50 = .ok (.iastore, 1) := by decide +kernel
theorem dX12_keep_51 : decode cX12_keep 51 = .ok (.iinc 2 1, 3) := by decide +kernel
theorem dX12_keep_54 : decode cX12_keep 54 = .ok (.goto (-32), 3) := by decide +kernel
theorem dX12_keep_57 : decode cX12_keep 57 = .ok (.iconst 1, 1) := by decide +kernel
theorem dX12_keep_58 : decode cX12_keep 58 = .ok (.ireturn, 1) := by decide +kernel
theorem hcX12_keep : yX12_keep.cls ≠ "java/lang/invoke/MethodHandle" ∧ yX12_keep.cls ≠ "java/lang/invoke/VarHandle" ∧ (parseMethodDescriptor yX12_keep.desc).map (fun d => d.parameters.length) = some 1 := ⟨by decide +kernel, by decide +kernel, by decide +kernel⟩
def fX12_keep_L22 (x1 : Int) (Q : Int → sg_M → Prop) : Nat → sg_M → Int → Prop
  | 0, _, _ => False
  | n_22 + 1, s_22, x2_22 => ((260 ≤ x2_22 → Q 1 s_22) ∧ (¬ (260 ≤ x2_22) → (0 ≤ x2_22 ∧ x2_22 < 2040) ∧ (0 ≤ ((260 + (260 * x1)) + x2_22) ∧ ((260 + (260 * x1)) + x2_22) < 2040) ∧ ∀ s13 : sg_M, s13 = sg_up s_22 66 ((260 + (260 * x1)) + x2_22) (s_22 66 x2_22) → sg_R (x2_22 + 1) ∧ (fX12_keep_L22 x1 Q n_22) s13 (x2_22 + 1)))
def fX12_keep (s0 : sg_M) (x1 : Int) (Q : Int → sg_M → Prop) : Prop := ∀ s1 : sg_M, s1 = sg_up s0 64 0 0 → fX12_lay s1 (fun s3 => fX12_isIn x1 0 3 (fun u4 => ((u4 ≠ 0 → (∃ n16 : Nat, fX12_keep_L22 x1 Q n16 s3 0)) ∧ (u4 = 0 → Q 0 s3))))
set_option maxHeartbeats 4000000 in
set_option maxRecDepth 100000 in
theorem CX12_keep {l : Launch} {G : sg_G} {La : sg_L} {s0 : sg_M} (hst : sg_St La) {x1 : Int} (r1 : sg_R x1) {Q : Int → sg_M → Prop} (hf : fX12_keep s0 x1 Q) : sg_C l G yX12_keep cX12_keep 3 (some .boolean) 2 0 0 La s0 [sg_r 64, sg_i x1] (sg_HZ La Q) := by
  refine sg_body (by decide +kernel) (Nat.le_of_ble_eq_true rfl) ?_
  intro p e s m args below meth c F hnm
  unfold fX12_keep at hf
  show sg_W p l e (sg_rm 2 0 0) s m args below meth c (MQ below (sg_Q (some .boolean) G La s.heap.size (sg_HZ La Q)) args s 0 0 (sg_A La s.heap.size)) 3 G (sg_A La s.heap.size) La s0 0 0 0 [(0, sg_r 64), (1, sg_i x1)] []
  refine gw_aload_n F 0 rfl rfl (by decide) dX12_keep_0 ?_
  refine gw_iconst F dX12_keep_1 ?_
  obtain ⟨s1, e2⟩ : ∃ z : sg_M, z = sg_up s0 64 0 0 := ⟨_, rfl⟩
  have hf := hf s1 e2
  refine gw_put0 F (so_64 hst) (by decide) rfl sg_lay_RX12 (j := 0) (by decide) (by decide) e2 tyX12_ok nmX12 rfl (tyX12_ok 0 (by decide)) rfl (host := "") (.inl kw_947) dX12_keep_2 ?_
  refine gw_aload_n F 0 rfl rfl (by decide) dX12_keep_5 ?_
  refine gk_HV F (gc_V F (S := []) (As := []) (T := TX12) (N := 62) (CX12_lay hst hf) (so_64 hst) (by decide) rfl kw_1034 kw_103 kw_1032 kw_1033 kw_41 hcX12_lay ⟨by decide, by decide⟩ rfl rfl (Nat.le_of_ble_eq_true rfl) ⟨by decide, by decide⟩ dX12_keep_6) (fun s3 hf => ?_)
  refine gw_iload_n F 1 rfl rfl dX12_keep_9 ?_
  refine gw_iconst F dX12_keep_10 ?_
  refine gw_iconst F dX12_keep_11 ?_
  refine gk_PZ F (gc_S F (S := []) (As := [sg_i x1, sg_i 0, sg_i 3]) (CX12_isIn r1 (by decide) (by decide) hf) kw_1075 kw_103 kw_1073 kw_1074 hcX12_isIn ⟨by decide, by decide⟩ rfl rfl (Nat.le_of_ble_eq_true rfl) ⟨by decide, by decide⟩ dX12_keep_12) (fun u4 h5 hf => ?_)
  refine gw_if_ne F (tgt := 20) dX12_keep_15 (by decide) (sg_B_R h5) (fun c6 => ?_) (fun c6 => ?_)
  · have hf := hf.1 c6
    refine gw_iconst F dX12_keep_20 ?_
    refine gw_istore_n F rfl (by decide) rfl dX12_keep_21 ?_
    have L22 : ∀ n_22 : Nat, ∀ (s_22 : sg_M) (x2_22 : Int), sg_R x2_22 → fX12_keep_L22 x1 Q n_22 s_22 x2_22 → sg_W p l e (sg_rm 2 0 0) s m args below meth c (MQ below (sg_Q (some .boolean) G La s.heap.size (sg_HZ La Q)) args s 0 0 (sg_A La s.heap.size)) 3 G (sg_A La s.heap.size) La s_22 0 0 22 [(0, sg_r 64), (1, sg_i x1), (2, sg_i x2_22)] [] := by
      intro n_22
      induction n_22 with
      | zero => intro s_22 x2_22 r2_22 hf; exact hf.elim
      | succ n_22 ih =>
        intro s_22 x2_22 r2_22 hf
        unfold fX12_keep_L22 at hf
        refine gw_iload_n F 2 rfl rfl dX12_keep_22 ?_
        refine gw_sipush F rfl dX12_keep_23 ?_
        refine gw_icmp_ge F (tgt := 57) dX12_keep_26 (by decide) r2_22 (by decide) (fun c7 => ?_) (fun c7 => ?_)
        · have hf := hf.1 c7
          refine gw_iconst F dX12_keep_57 ?_
          exact gr_HZ F (by decide) hf (by decide) (by decide) dX12_keep_58
        · have hf := hf.2 c7
          refine gw_aload_n F 0 rfl rfl (by decide) dX12_keep_29 ?_
          refine gw_get7 F (so_64 hst) (by decide) rfl sg_lay_RX12 (j := 14) (by decide) (o1 := 66) (by first | rfl | omega) rfl (host := "") (.inl kw_961) dX12_keep_30 (fun h8 => ?_)
          refine gw_sipush F rfl dX12_keep_33 ?_
          refine gw_sipush F rfl dX12_keep_36 ?_
          refine gw_iload_n F 1 rfl rfl dX12_keep_39 ?_
          refine gw_imul F rfl dX12_keep_40 ?_
          refine gw_iadd F rfl dX12_keep_41 ?_
          refine gw_iload_n F 2 rfl rfl dX12_keep_42 ?_
          refine gw_iadd F rfl dX12_keep_43 ?_
          refine gw_aload_n F 0 rfl rfl (by decide) dX12_keep_44 ?_
          refine gw_get7 F (so_64 hst) (by decide) rfl sg_lay_RX12 (j := 14) (by decide) (o1 := 66) (by first | rfl | omega) rfl (host := "") (.inl kw_961) dX12_keep_45 (fun h9 => ?_)
          refine gw_iload_n F 2 rfl rfl dX12_keep_48 ?_
          obtain ⟨⟨b100, b101⟩, hf⟩ := hf
          refine gw_iald F (sa_66 hst) b100 b101 dX12_keep_49 (fun h11 => ?_)
          obtain ⟨⟨b120, b121⟩, hf⟩ := hf
          obtain ⟨s13, e14⟩ : ∃ z : sg_M, z = sg_up s_22 66 ((260 + (260 * x1)) + x2_22) (s_22 66 x2_22) := ⟨_, rfl⟩
          have hf := hf s13 e14
          refine gw_iast F (sa_66 hst) b120 b121 h11 e14 dX12_keep_50 ?_
          refine gw_iinc F (z := (x2_22 + 1)) 2 rfl (by omega) (by decide) rfl dX12_keep_51 ?_
          refine gw_goto F (tgt := 22) dX12_keep_54 (by decide) ?_
          obtain ⟨g15, hf⟩ := hf
          refine gw_sub [1, 2, 0] rfl ?_
          exact ih s13 (x2_22 + 1) g15 hf
    obtain ⟨n16, hf⟩ := hf
    refine gw_sub [1, 2, 0] rfl ?_
    refine L22   n16 s3 0 (by decide) hf
  · have hf := hf.2 c6
    refine gw_iconst F dX12_keep_18 ?_
    exact gr_HZ F (by decide) hf (by decide) (by decide) dX12_keep_19

theorem dX12_refuse_0 : decode cX12_refuse 0 = .ok (.aload_n 0, 1) := by decide +kernel
theorem dX12_refuse_1 : decode cX12_refuse 1 = .ok (.iconst 1, 1) := by decide +kernel
theorem dX12_refuse_2 : decode cX12_refuse 2 = .ok (.putfield 84, 3) := by decide +kernel
theorem dX12_refuse_5 : decode cX12_refuse 5 = .ok (.iconst 0, 1) := by decide +kernel
theorem dX12_refuse_6 : decode cX12_refuse 6 = .ok (.ireturn, 1) := by decide +kernel
theorem hcX12_refuse : yX12_refuse.cls ≠ "java/lang/invoke/MethodHandle" ∧ yX12_refuse.cls ≠ "java/lang/invoke/VarHandle" ∧ (parseMethodDescriptor yX12_refuse.desc).map (fun d => d.parameters.length) = some 0 := ⟨by decide +kernel, by decide +kernel, by decide +kernel⟩
def fX12_refuse (s0 : sg_M) (Q : Int → sg_M → Prop) : Prop := ∀ s1 : sg_M, s1 = sg_up s0 64 0 1 → Q 0 s1
set_option maxHeartbeats 4000000 in
set_option maxRecDepth 100000 in
theorem CX12_refuse {l : Launch} {G : sg_G} {La : sg_L} {s0 : sg_M} (hst : sg_St La) {Q : Int → sg_M → Prop} (hf : fX12_refuse s0 Q) : sg_C l G yX12_refuse cX12_refuse 1 (some .int) 1 0 0 La s0 [sg_r 64] (sg_HI La Q) := by
  refine sg_body (by decide +kernel) (Nat.le_of_ble_eq_true rfl) ?_
  intro p e s m args below meth c F hnm
  unfold fX12_refuse at hf
  show sg_W p l e (sg_rm 1 0 0) s m args below meth c (MQ below (sg_Q (some .int) G La s.heap.size (sg_HI La Q)) args s 0 0 (sg_A La s.heap.size)) 1 G (sg_A La s.heap.size) La s0 0 0 0 [(0, sg_r 64)] []
  refine gw_aload_n F 0 rfl rfl (by decide) dX12_refuse_0 ?_
  refine gw_iconst F dX12_refuse_1 ?_
  obtain ⟨s1, e2⟩ : ∃ z : sg_M, z = sg_up s0 64 0 1 := ⟨_, rfl⟩
  have hf := hf s1 e2
  refine gw_put0 F (so_64 hst) (by decide) rfl sg_lay_RX12 (j := 0) (by decide) (by decide) e2 tyX12_ok nmX12 rfl (tyX12_ok 0 (by decide)) rfl (host := "") (.inl kw_947) dX12_refuse_2 ?_
  refine gw_iconst F dX12_refuse_5 ?_
  exact gr_HI F (by decide) hf (by decide) (by decide) dX12_refuse_6

theorem dX12_blade_0 : decode cX12_blade 0 = .ok (.aload_n 0, 1) := by decide +kernel
theorem dX12_blade_1 : decode cX12_blade 1 = .ok (.sipush 500, 3) := by decide +kernel
theorem dX12_blade_4 : decode cX12_blade 4 = .ok (.invokevirtual 196, 3) := by decide +kernel
theorem dX12_blade_7 : decode cX12_blade 7 = .ok (.aload_n 0, 1) := by decide +kernel
theorem dX12_blade_8 : decode cX12_blade 8 = .ok (.getfield 16, 3) := by decide +kernel
theorem dX12_blade_11 : decode cX12_blade 11 = .ok (.iconst 0, 1) := by decide +kernel
theorem dX12_blade_12 : decode cX12_blade 12 = .ok (.iconst 0, 1) := by decide +kernel
theorem dX12_blade_13 : decode cX12_blade 13 = .ok (.iastore, 1) := by decide +kernel
theorem dX12_blade_14 : decode cX12_blade 14 = .ok (.aload_n 0, 1) := by decide +kernel
theorem dX12_blade_15 : decode cX12_blade 15 = .ok (.getfield 16, 3) := by decide +kernel
theorem dX12_blade_18 : decode cX12_blade 18 = .ok (.iconst 1, 1) := by decide +kernel
theorem dX12_blade_19 : decode cX12_blade 19 = .ok (.sipush 300, 3) := by decide +kernel
theorem dX12_blade_22 : decode cX12_blade 22 = .ok (.iastore, 1) := by decide +kernel
theorem dX12_blade_23 : decode cX12_blade 23 = .ok (.aload_n 0, 1) := by decide +kernel
theorem dX12_blade_24 : decode cX12_blade 24 = .ok (.getfield 16, 3) := by decide +kernel
theorem dX12_blade_27 : decode cX12_blade 27 = .ok (.iconst 2, 1) := by decide +kernel
theorem dX12_blade_28 : decode cX12_blade 28 = .ok (.sipush 2000, 3) := by decide +kernel
theorem dX12_blade_31 : decode cX12_blade 31 = .ok (.iastore, 1) := by decide +kernel
theorem dX12_blade_32 : decode cX12_blade 32 = .ok (.aload_n 0, 1) := by decide +kernel
theorem dX12_blade_33 : decode cX12_blade 33 = .ok (.iconst 0, 1) := by decide +kernel
theorem dX12_blade_34 : decode cX12_blade 34 = .ok (.putfield 186, 3) := by decide +kernel
theorem dX12_blade_37 : decode cX12_blade 37 = .ok (.aload_n 0, 1) := by decide +kernel
theorem dX12_blade_38 : decode cX12_blade 38 = .ok (.getfield 106, 3) := by decide +kernel
theorem dX12_blade_41 : decode cX12_blade 41 = .ok (.ifCond .eq 17, 3) := by decide +kernel
theorem dX12_blade_44 : decode cX12_blade 44 = .ok (.aload_n 0, 1) := by decide +kernel
theorem dX12_blade_45 : decode cX12_blade 45 = .ok (.invokevirtual 199, 3) := by decide +kernel
theorem dX12_blade_48 : decode cX12_blade 48 = .ok (.ifCond .ne (-11), 3) := by decide +kernel
theorem dX12_blade_51 : decode cX12_blade 51 = .ok (.iconst (-1), 1) := by decide +kernel
theorem dX12_blade_52 : decode cX12_blade 52 = .ok (.aload_n 0, 1) := by decide +kernel
theorem dX12_blade_53 : decode cX12_blade 53 = .ok (.getfield 149, 3) := by decide +kernel
theorem dX12_blade_56 : decode cX12_blade 56 = .ok (.isub, 1) := by decide +kernel
theorem dX12_blade_57 : decode cX12_blade 57 = .ok (.ireturn, 1) := by decide +kernel
theorem dX12_blade_58 : decode cX12_blade 58 = .ok (.aload_n 0, 1) := by decide +kernel
theorem dX12_blade_59 : decode cX12_blade 59 = .ok (.getfield 16, 3) := by decide +kernel
theorem dX12_blade_62 : decode cX12_blade 62 = .ok (.iconst 0, 1) := by decide +kernel
theorem dX12_blade_63 : decode cX12_blade 63 = .ok (.iaload, 1) := by decide +kernel
theorem dX12_blade_64 : decode cX12_blade 64 = .ok (.iconst 3, 1) := by decide +kernel
theorem dX12_blade_65 : decode cX12_blade 65 = .ok (.if_icmp .ge 16, 3) := by decide +kernel
theorem dX12_blade_68 : decode cX12_blade 68 = .ok (.aload_n 0, 1) := by decide +kernel
theorem dX12_blade_69 : decode cX12_blade 69 = .ok (.iconst 1, 1) := by decide +kernel
theorem dX12_blade_70 : decode cX12_blade 70 = .ok (.invokevirtual 152, 3) := by decide +kernel
theorem dX12_blade_73 : decode cX12_blade 73 = .ok (.pop, 1) := by decide +kernel
theorem dX12_blade_74 : decode cX12_blade 74 = .ok (.iconst (-1), 1) := by decide +kernel
theorem dX12_blade_75 : decode cX12_blade 75 = .ok (.aload_n 0, 1) := by decide +kernel
theorem dX12_blade_76 : decode cX12_blade 76 = .ok (.getfield 149, 3) := by decide +kernel
theorem dX12_blade_79 : decode cX12_blade 79 = .ok (.isub, 1) := by decide +kernel
theorem dX12_blade_80 : decode cX12_blade 80 = .ok (.ireturn, 1) := by decide +kernel
theorem dX12_blade_81 : decode cX12_blade 81 = .ok (.iconst 0, 1) := by decide +kernel
theorem dX12_blade_82 : decode cX12_blade 82 = .ok (.istore_n 1, 1) := by decide +kernel
theorem dX12_blade_83 : decode cX12_blade 83 = .ok (.iload_n 1, 1) := by decide +kernel
theorem dX12_blade_84 : decode cX12_blade 84 = .ok (.sipush 260, 3) := by decide +kernel
theorem dX12_blade_87 : decode cX12_blade 87 = .ok (.if_icmp .ge 21, 3) := by decide +kernel
theorem dX12_blade_90 : decode cX12_blade 90 = .ok (.aload_n 0, 1) := by decide +kernel
theorem dX12_blade_91 : decode cX12_blade 91 = .ok (.getfield 13, 3) := by decide +kernel
theorem dX12_blade_94 : decode cX12_blade 94 = .ok (.iload_n 1, 1) := by decide +kernel
theorem dX12_blade_95 : decode cX12_blade 95 = .ok (.aload_n 0, 1) := by decide +kernel
theorem dX12_blade_96 : decode cX12_blade 96 = .ok (.getfield 16, 3) := by decide +kernel
theorem dX12_blade_99 : decode cX12_blade 99 = .ok (.iload_n 1, 1) := by decide +kernel
theorem dX12_blade_100 : decode cX12_blade 100 = .ok (.iaload, 1) := by decide +kernel
theorem dX12_blade_101 : decode cX12_blade 101 = .ok (.iastore, 1) := by decide +kernel
theorem dX12_blade_102 : decode cX12_blade 102 = .ok (.iinc 1 1, 3) := by decide +kernel
theorem dX12_blade_105 : decode cX12_blade 105 = .ok (.goto (-22), 3) := by decide +kernel
theorem dX12_blade_108 : decode cX12_blade 108 = .ok (.aload_n 0, 1) := by decide +kernel
theorem dX12_blade_109 : decode cX12_blade 109 = .ok (.getfield 13, 3) := by decide +kernel
theorem dX12_blade_112 : decode cX12_blade 112 = .ok (.iconst 0, 1) := by decide +kernel
theorem dX12_blade_113 : decode cX12_blade 113 = .ok (.iaload, 1) := by decide +kernel
theorem dX12_blade_114 : decode cX12_blade 114 = .ok (.ireturn, 1) := by decide +kernel
theorem hcX12_blade : yX12_blade.cls ≠ "java/lang/invoke/MethodHandle" ∧ yX12_blade.cls ≠ "java/lang/invoke/VarHandle" ∧ (parseMethodDescriptor yX12_blade.desc).map (fun d => d.parameters.length) = some 0 := ⟨by decide +kernel, by decide +kernel, by decide +kernel⟩
def fX12_blade_L37  (Q : Int → sg_M → Prop) (k58 : sg_M → Prop) : Nat → sg_M → Prop
  | 0, _ => False
  | n_37 + 1, s_37 => (((s_37 64 7) = 0 → k58 s_37) ∧ (¬ ((s_37 64 7) = 0) → fX12_readLine s_37 (fun u15 s17 => ((u15 ≠ 0 → (fX12_blade_L37  Q k58 n_37) s17) ∧ (u15 = 0 → sg_R ((-1) - (s17 64 11)) ∧ Q ((-1) - (s17 64 11)) s17)))))
def fX12_blade_L83  (Q : Int → sg_M → Prop) : Nat → sg_M → Int → Prop
  | 0, _, _ => False
  | n_83 + 1, s_83, x1_83 => ((260 ≤ x1_83 → Q (s_83 66 0) s_83) ∧ (¬ (260 ≤ x1_83) → (0 ≤ x1_83 ∧ x1_83 < 260) ∧ (0 ≤ x1_83 ∧ x1_83 < 2040) ∧ ∀ s33 : sg_M, s33 = sg_up s_83 66 x1_83 (s_83 67 x1_83) → sg_R (x1_83 + 1) ∧ (fX12_blade_L83  Q n_83) s33 (x1_83 + 1)))
def fX12_blade (s0 : sg_M) (Q : Int → sg_M → Prop) : Prop := fX12_begin s0 500 (fun s1 => ∀ s3 : sg_M, s3 = sg_up s1 67 0 0 → ∀ s6 : sg_M, s6 = sg_up s3 67 1 300 → ∀ s9 : sg_M, s9 = sg_up s6 67 2 2000 → ∀ s11 : sg_M, s11 = sg_up s9 64 21 0 → (∃ n21 : Nat, fX12_blade_L37  Q (fun s_58e37 => ((3 ≤ (s_58e37 67 0) → (∃ n36 : Nat, fX12_blade_L83  Q n36 s_58e37 0)) ∧ (¬ (3 ≤ (s_58e37 67 0)) → fX12_bad s_58e37 1 (fun u37 s39 => sg_R ((-1) - (s39 64 11)) ∧ Q ((-1) - (s39 64 11)) s39)))) n21 s11))
set_option maxHeartbeats 4000000 in
set_option maxRecDepth 100000 in
theorem CX12_blade {l : Launch} {G : sg_G} {La : sg_L} {s0 : sg_M} (hst : sg_St La) {Q : Int → sg_M → Prop} (hf : fX12_blade s0 Q) : sg_C l G yX12_blade cX12_blade 2 (some .int) 6 0 0 La s0 [sg_r 64] (sg_HI La Q) := by
  refine sg_body (by decide +kernel) (Nat.le_of_ble_eq_true rfl) ?_
  intro p e s m args below meth c F hnm
  unfold fX12_blade at hf
  show sg_W p l e (sg_rm 6 0 0) s m args below meth c (MQ below (sg_Q (some .int) G La s.heap.size (sg_HI La Q)) args s 0 0 (sg_A La s.heap.size)) 2 G (sg_A La s.heap.size) La s0 0 0 0 [(0, sg_r 64)] []
  refine gw_aload_n F 0 rfl rfl (by decide) dX12_blade_0 ?_
  refine gw_sipush F rfl dX12_blade_1 ?_
  refine gk_HV F (gc_V F (S := []) (As := [sg_i 500]) (T := TX12) (N := 62) (CX12_begin hst (by decide) hf) (so_64 hst) (by decide) rfl kw_1031 kw_103 kw_1029 kw_1030 kw_40 hcX12_begin ⟨by decide, by decide⟩ rfl rfl (Nat.le_of_ble_eq_true rfl) ⟨by decide, by decide⟩ dX12_blade_4) (fun s1 hf => ?_)
  refine gw_aload_n F 0 rfl rfl (by decide) dX12_blade_7 ?_
  refine gw_get7 F (so_64 hst) (by decide) rfl sg_lay_RX12 (j := 15) (by decide) (o1 := 67) (by first | rfl | omega) rfl (host := "") (.inl kw_962) dX12_blade_8 (fun h2 => ?_)
  refine gw_iconst F dX12_blade_11 ?_
  refine gw_iconst F dX12_blade_12 ?_
  obtain ⟨s3, e4⟩ : ∃ z : sg_M, z = sg_up s1 67 0 0 := ⟨_, rfl⟩
  have hf := hf s3 e4
  refine gw_iast F (sa_67 hst) (by decide) (by decide) (by decide) e4 dX12_blade_13 ?_
  refine gw_aload_n F 0 rfl rfl (by decide) dX12_blade_14 ?_
  refine gw_get7 F (so_64 hst) (by decide) rfl sg_lay_RX12 (j := 15) (by decide) (o1 := 67) (by first | rfl | omega) rfl (host := "") (.inl kw_962) dX12_blade_15 (fun h5 => ?_)
  refine gw_iconst F dX12_blade_18 ?_
  refine gw_sipush F rfl dX12_blade_19 ?_
  obtain ⟨s6, e7⟩ : ∃ z : sg_M, z = sg_up s3 67 1 300 := ⟨_, rfl⟩
  have hf := hf s6 e7
  refine gw_iast F (sa_67 hst) (by decide) (by decide) (by decide) e7 dX12_blade_22 ?_
  refine gw_aload_n F 0 rfl rfl (by decide) dX12_blade_23 ?_
  refine gw_get7 F (so_64 hst) (by decide) rfl sg_lay_RX12 (j := 15) (by decide) (o1 := 67) (by first | rfl | omega) rfl (host := "") (.inl kw_962) dX12_blade_24 (fun h8 => ?_)
  refine gw_iconst F dX12_blade_27 ?_
  refine gw_sipush F rfl dX12_blade_28 ?_
  obtain ⟨s9, e10⟩ : ∃ z : sg_M, z = sg_up s6 67 2 2000 := ⟨_, rfl⟩
  have hf := hf s9 e10
  refine gw_iast F (sa_67 hst) (by decide) (by decide) (by decide) e10 dX12_blade_31 ?_
  refine gw_aload_n F 0 rfl rfl (by decide) dX12_blade_32 ?_
  refine gw_iconst F dX12_blade_33 ?_
  obtain ⟨s11, e12⟩ : ∃ z : sg_M, z = sg_up s9 64 21 0 := ⟨_, rfl⟩
  have hf := hf s11 e12
  refine gw_put0 F (so_64 hst) (by decide) rfl sg_lay_RX12 (j := 21) (by decide) (by decide) e12 tyX12_ok nmX12 rfl (tyX12_ok 21 (by decide)) rfl (host := "") (.inl kw_968) dX12_blade_34 ?_
  have L37 : ∀ (k58 : sg_M → Prop) (hk58 : ∀ (s_58e37 : sg_M), k58 s_58e37 → sg_W p l e (sg_rm 6 0 0) s m args below meth c (MQ below (sg_Q (some .int) G La s.heap.size (sg_HI La Q)) args s 0 0 (sg_A La s.heap.size)) 2 G (sg_A La s.heap.size) La s_58e37 0 0 58 [(0, sg_r 64)] []), ∀ n_37 : Nat, ∀ (s_37 : sg_M), fX12_blade_L37  Q k58 n_37 s_37 → sg_W p l e (sg_rm 6 0 0) s m args below meth c (MQ below (sg_Q (some .int) G La s.heap.size (sg_HI La Q)) args s 0 0 (sg_A La s.heap.size)) 2 G (sg_A La s.heap.size) La s_37 0 0 37 [(0, sg_r 64)] [] := by
    intro k58 hk58 n_37
    induction n_37 with
    | zero => intro s_37 hf; exact hf.elim
    | succ n_37 ih =>
      intro s_37 hf
      unfold fX12_blade_L37 at hf
      refine gw_aload_n F 0 rfl rfl (by decide) dX12_blade_37 ?_
      refine gw_get0 F (so_64 hst) (by decide) rfl sg_lay_RX12 (j := 7) (by decide) rfl (host := "") (.inl kw_954) dX12_blade_38 (fun h13 => ?_)
      refine gw_if_eq F (tgt := 58) dX12_blade_41 (by decide) h13 (fun c14 => ?_) (fun c14 => ?_)
      · have hf := hf.1 c14
        refine gw_sub [0] rfl ?_
        exact hk58 s_37 hf
      · have hf := hf.2 c14
        refine gw_aload_n F 0 rfl rfl (by decide) dX12_blade_44 ?_
        refine gk_HZ F (gc_V F (S := []) (As := []) (T := TX12) (N := 62) (CX12_readLine hst hf) (so_64 hst) (by decide) rfl kw_1054 kw_103 kw_1052 kw_1053 kw_45 hcX12_readLine ⟨by decide, by decide⟩ rfl rfl (Nat.le_of_ble_eq_true rfl) ⟨by decide, by decide⟩ dX12_blade_45) (fun u15 s17 h16 hf => ?_)
        refine gw_if_ne F (tgt := 37) dX12_blade_48 (by decide) (sg_B_R h16) (fun c18 => ?_) (fun c18 => ?_)
        · have hf := hf.1 c18
          refine gw_sub [0] rfl ?_
          exact ih s17 hf
        · have hf := hf.2 c18
          refine gw_iconst F dX12_blade_51 ?_
          refine gw_aload_n F 0 rfl rfl (by decide) dX12_blade_52 ?_
          refine gw_get0 F (so_64 hst) (by decide) rfl sg_lay_RX12 (j := 11) (by decide) rfl (host := "") (.inl kw_958) dX12_blade_53 (fun h19 => ?_)
          refine gw_isub F rfl dX12_blade_56 ?_
          obtain ⟨g20, hf⟩ := hf
          exact gr_HI F g20 hf (by decide) (by decide) dX12_blade_57
  obtain ⟨n21, hf⟩ := hf
  refine gw_sub [0] rfl ?_
  refine L37 _ (fun s_58e37 hf => ?_) n21 s11 hf
  refine gw_aload_n F 0 rfl rfl (by decide) dX12_blade_58 ?_
  refine gw_get7 F (so_64 hst) (by decide) rfl sg_lay_RX12 (j := 15) (by decide) (o1 := 67) (by first | rfl | omega) rfl (host := "") (.inl kw_962) dX12_blade_59 (fun h22 => ?_)
  refine gw_iconst F dX12_blade_62 ?_
  refine gw_iald F (sa_67 hst) (by decide) (by decide) dX12_blade_63 (fun h23 => ?_)
  refine gw_iconst F dX12_blade_64 ?_
  refine gw_icmp_ge F (tgt := 81) dX12_blade_65 (by decide) h23 (by decide) (fun c24 => ?_) (fun c24 => ?_)
  · have hf := hf.1 c24
    refine gw_iconst F dX12_blade_81 ?_
    refine gw_istore_n F rfl (by decide) rfl dX12_blade_82 ?_
    have L83 : ∀ n_83 : Nat, ∀ (s_83 : sg_M) (x1_83 : Int), sg_R x1_83 → fX12_blade_L83  Q n_83 s_83 x1_83 → sg_W p l e (sg_rm 6 0 0) s m args below meth c (MQ below (sg_Q (some .int) G La s.heap.size (sg_HI La Q)) args s 0 0 (sg_A La s.heap.size)) 2 G (sg_A La s.heap.size) La s_83 0 0 83 [(0, sg_r 64), (1, sg_i x1_83)] [] := by
      intro n_83
      induction n_83 with
      | zero => intro s_83 x1_83 r1_83 hf; exact hf.elim
      | succ n_83 ih =>
        intro s_83 x1_83 r1_83 hf
        unfold fX12_blade_L83 at hf
        refine gw_iload_n F 1 rfl rfl dX12_blade_83 ?_
        refine gw_sipush F rfl dX12_blade_84 ?_
        refine gw_icmp_ge F (tgt := 108) dX12_blade_87 (by decide) r1_83 (by decide) (fun c25 => ?_) (fun c25 => ?_)
        · have hf := hf.1 c25
          refine gw_aload_n F 0 rfl rfl (by decide) dX12_blade_108 ?_
          refine gw_get7 F (so_64 hst) (by decide) rfl sg_lay_RX12 (j := 14) (by decide) (o1 := 66) (by first | rfl | omega) rfl (host := "") (.inl kw_961) dX12_blade_109 (fun h26 => ?_)
          refine gw_iconst F dX12_blade_112 ?_
          refine gw_iald F (sa_66 hst) (by decide) (by decide) dX12_blade_113 (fun h27 => ?_)
          exact gr_HI F h27 hf (by decide) (by decide) dX12_blade_114
        · have hf := hf.2 c25
          refine gw_aload_n F 0 rfl rfl (by decide) dX12_blade_90 ?_
          refine gw_get7 F (so_64 hst) (by decide) rfl sg_lay_RX12 (j := 14) (by decide) (o1 := 66) (by first | rfl | omega) rfl (host := "") (.inl kw_961) dX12_blade_91 (fun h28 => ?_)
          refine gw_iload_n F 1 rfl rfl dX12_blade_94 ?_
          refine gw_aload_n F 0 rfl rfl (by decide) dX12_blade_95 ?_
          refine gw_get7 F (so_64 hst) (by decide) rfl sg_lay_RX12 (j := 15) (by decide) (o1 := 67) (by first | rfl | omega) rfl (host := "") (.inl kw_962) dX12_blade_96 (fun h29 => ?_)
          refine gw_iload_n F 1 rfl rfl dX12_blade_99 ?_
          obtain ⟨⟨b300, b301⟩, hf⟩ := hf
          refine gw_iald F (sa_67 hst) b300 b301 dX12_blade_100 (fun h31 => ?_)
          obtain ⟨⟨b320, b321⟩, hf⟩ := hf
          obtain ⟨s33, e34⟩ : ∃ z : sg_M, z = sg_up s_83 66 x1_83 (s_83 67 x1_83) := ⟨_, rfl⟩
          have hf := hf s33 e34
          refine gw_iast F (sa_66 hst) b320 b321 h31 e34 dX12_blade_101 ?_
          refine gw_iinc F (z := (x1_83 + 1)) 1 rfl (by omega) (by decide) rfl dX12_blade_102 ?_
          refine gw_goto F (tgt := 83) dX12_blade_105 (by decide) ?_
          obtain ⟨g35, hf⟩ := hf
          refine gw_sub [1, 0] rfl ?_
          exact ih s33 (x1_83 + 1) g35 hf
    obtain ⟨n36, hf⟩ := hf
    refine gw_sub [1, 0] rfl ?_
    refine L83   n36 s_58e37 0 (by decide) hf
  · have hf := hf.2 c24
    refine gw_aload_n F 0 rfl rfl (by decide) dX12_blade_68 ?_
    refine gw_iconst F dX12_blade_69 ?_
    refine gk_HZ F (gc_V F (S := []) (As := [sg_i 1]) (T := TX12) (N := 62) (CX12_bad hst (by decide) hf) (so_64 hst) (by decide) rfl kw_1069 kw_103 kw_1067 kw_1068 kw_47 hcX12_bad ⟨by decide, by decide⟩ rfl rfl (Nat.le_of_ble_eq_true rfl) ⟨by decide, by decide⟩ dX12_blade_70) (fun u37 s39 h38 hf => ?_)
    refine gw_pop F rfl dX12_blade_73 ?_
    refine gw_iconst F dX12_blade_74 ?_
    refine gw_aload_n F 0 rfl rfl (by decide) dX12_blade_75 ?_
    refine gw_get0 F (so_64 hst) (by decide) rfl sg_lay_RX12 (j := 11) (by decide) rfl (host := "") (.inl kw_958) dX12_blade_76 (fun h40 => ?_)
    refine gw_isub F rfl dX12_blade_79 ?_
    obtain ⟨g41, hf⟩ := hf
    exact gr_HI F g41 hf (by decide) (by decide) dX12_blade_80

theorem dX12_bow_0 : decode cX12_bow 0 = .ok (.aload_n 0, 1) := by decide +kernel
theorem dX12_bow_1 : decode cX12_bow 1 = .ok (.iconst 0, 1) := by decide +kernel
theorem dX12_bow_2 : decode cX12_bow 2 = .ok (.putfield 84, 3) := by decide +kernel
theorem dX12_bow_5 : decode cX12_bow 5 = .ok (.iload_n 1, 1) := by decide +kernel
theorem dX12_bow_6 : decode cX12_bow 6 = .ok (.ifCond .lt 20, 3) := by decide +kernel
theorem dX12_bow_9 : decode cX12_bow 9 = .ok (.iload_n 1, 1) := by decide +kernel
theorem dX12_bow_10 : decode cX12_bow 10 = .ok (.aload_n 0, 1) := by decide +kernel
theorem dX12_bow_11 : decode cX12_bow 11 = .ok (.getfield 264, 3) := by decide +kernel
theorem dX12_bow_14 : decode cX12_bow 14 = .ok (.if_icmp .ge 12, 3) := by decide +kernel
theorem dX12_bow_17 : decode cX12_bow 17 = .ok (.aload_n 0, 1) := by decide +kernel
theorem dX12_bow_18 : decode cX12_bow 18 = .ok (.getfield 50, 3) := by decide +kernel
theorem dX12_bow_21 : decode cX12_bow 21 = .ok (.iload_n 1, 1) := by decide +kernel
theorem dX12_bow_22 : decode cX12_bow 22 = .ok (.iaload, 1) := by decide +kernel
theorem dX12_bow_23 : decode cX12_bow 23 = .ok (.goto 4, 3) := by decide +kernel
theorem dX12_bow_26 : decode cX12_bow 26 = .ok (.iconst (-1), 1) := by decide +kernel
theorem dX12_bow_27 : decode cX12_bow 27 = .ok (.ireturn, 1) := by decide +kernel
theorem hcX12_bow : yX12_bow.cls ≠ "java/lang/invoke/MethodHandle" ∧ yX12_bow.cls ≠ "java/lang/invoke/VarHandle" ∧ (parseMethodDescriptor yX12_bow.desc).map (fun d => d.parameters.length) = some 1 := ⟨by decide +kernel, by decide +kernel, by decide +kernel⟩
def fX12_bow (s0 : sg_M) (x1 : Int) (Q : Int → sg_M → Prop) : Prop := ∀ s1 : sg_M, s1 = sg_up s0 64 0 0 → ((x1 < 0 → Q (-1) s1) ∧ (¬ (x1 < 0) → (((s1 64 37) ≤ x1 → Q (-1) s1) ∧ (¬ ((s1 64 37) ≤ x1) → (0 ≤ x1 ∧ x1 < 60) ∧ Q (s1 78 x1) s1))))
set_option maxHeartbeats 4000000 in
set_option maxRecDepth 100000 in
theorem CX12_bow {l : Launch} {G : sg_G} {La : sg_L} {s0 : sg_M} (hst : sg_St La) {x1 : Int} (r1 : sg_R x1) {Q : Int → sg_M → Prop} (hf : fX12_bow s0 x1 Q) : sg_C l G yX12_bow cX12_bow 2 (some .int) 1 0 0 La s0 [sg_r 64, sg_i x1] (sg_HI La Q) := by
  refine sg_body (by decide +kernel) (Nat.le_of_ble_eq_true rfl) ?_
  intro p e s m args below meth c F hnm
  unfold fX12_bow at hf
  show sg_W p l e (sg_rm 1 0 0) s m args below meth c (MQ below (sg_Q (some .int) G La s.heap.size (sg_HI La Q)) args s 0 0 (sg_A La s.heap.size)) 2 G (sg_A La s.heap.size) La s0 0 0 0 [(0, sg_r 64), (1, sg_i x1)] []
  refine gw_aload_n F 0 rfl rfl (by decide) dX12_bow_0 ?_
  refine gw_iconst F dX12_bow_1 ?_
  obtain ⟨s1, e2⟩ : ∃ z : sg_M, z = sg_up s0 64 0 0 := ⟨_, rfl⟩
  have hf := hf s1 e2
  refine gw_put0 F (so_64 hst) (by decide) rfl sg_lay_RX12 (j := 0) (by decide) (by decide) e2 tyX12_ok nmX12 rfl (tyX12_ok 0 (by decide)) rfl (host := "") (.inl kw_947) dX12_bow_2 ?_
  refine gw_iload_n F 1 rfl rfl dX12_bow_5 ?_
  refine gw_if_lt F (tgt := 26) dX12_bow_6 (by decide) r1 (fun c3 => ?_) (fun c3 => ?_)
  · have hf := hf.1 c3
    refine gw_iconst F dX12_bow_26 ?_
    exact gr_HI F (by decide) hf (by decide) (by decide) dX12_bow_27
  · have hf := hf.2 c3
    refine gw_iload_n F 1 rfl rfl dX12_bow_9 ?_
    refine gw_aload_n F 0 rfl rfl (by decide) dX12_bow_10 ?_
    refine gw_get0 F (so_64 hst) (by decide) rfl sg_lay_RX12 (j := 37) (by decide) rfl (host := "") (.inl kw_984) dX12_bow_11 (fun h4 => ?_)
    refine gw_icmp_ge F (tgt := 26) dX12_bow_14 (by decide) r1 h4 (fun c5 => ?_) (fun c5 => ?_)
    · have hf := hf.1 c5
      refine gw_iconst F dX12_bow_26 ?_
      exact gr_HI F (by decide) hf (by decide) (by decide) dX12_bow_27
    · have hf := hf.2 c5
      refine gw_aload_n F 0 rfl rfl (by decide) dX12_bow_17 ?_
      refine gw_get7 F (so_64 hst) (by decide) rfl sg_lay_RX12 (j := 35) (by decide) (o1 := 78) (by first | rfl | omega) rfl (host := "") (.inl kw_982) dX12_bow_18 (fun h6 => ?_)
      refine gw_iload_n F 1 rfl rfl dX12_bow_21 ?_
      obtain ⟨⟨b70, b71⟩, hf⟩ := hf
      refine gw_iald F (sa_78 hst) b70 b71 dX12_bow_22 (fun h8 => ?_)
      refine gw_goto F (tgt := 27) dX12_bow_23 (by decide) ?_
      exact gr_HI F h8 hf (by decide) (by decide) dX12_bow_27

theorem dX12_readAt_0 : decode cX12_readAt 0 = .ok (.aload_n 0, 1) := by decide +kernel
theorem dX12_readAt_1 : decode cX12_readAt 1 = .ok (.iconst 0, 1) := by decide +kernel
theorem dX12_readAt_2 : decode cX12_readAt 2 = .ok (.putfield 84, 3) := by decide +kernel
theorem dX12_readAt_5 : decode cX12_readAt 5 = .ok (.iload_n 1, 1) := by decide +kernel
theorem dX12_readAt_6 : decode cX12_readAt 6 = .ok (.ifCond .lt 20, 3) := by decide +kernel
theorem dX12_readAt_9 : decode cX12_readAt 9 = .ok (.iload_n 1, 1) := by decide +kernel
theorem dX12_readAt_10 : decode cX12_readAt 10 = .ok (.aload_n 0, 1) := by decide +kernel
theorem dX12_readAt_11 : decode cX12_readAt 11 = .ok (.getfield 347, 3) := by decide +kernel
theorem dX12_readAt_14 : decode cX12_readAt 14 = .ok (.if_icmp .ge 12, 3) := by decide +kernel
theorem dX12_readAt_17 : decode cX12_readAt 17 = .ok (.aload_n 0, 1) := by decide +kernel
theorem dX12_readAt_18 : decode cX12_readAt 18 = .ok (.getfield 68, 3) := by decide +kernel
theorem dX12_readAt_21 : decode cX12_readAt 21 = .ok (.iload_n 1, 1) := by decide +kernel
theorem dX12_readAt_22 : decode cX12_readAt 22 = .ok (.iaload, 1) := by decide +kernel
theorem dX12_readAt_23 : decode cX12_readAt 23 = .ok (.goto 4, 3) := by decide +kernel
theorem dX12_readAt_26 : decode cX12_readAt 26 = .ok (.iconst (-1), 1) := by decide +kernel
theorem dX12_readAt_27 : decode cX12_readAt 27 = .ok (.ireturn, 1) := by decide +kernel
theorem hcX12_readAt : yX12_readAt.cls ≠ "java/lang/invoke/MethodHandle" ∧ yX12_readAt.cls ≠ "java/lang/invoke/VarHandle" ∧ (parseMethodDescriptor yX12_readAt.desc).map (fun d => d.parameters.length) = some 1 := ⟨by decide +kernel, by decide +kernel, by decide +kernel⟩
def fX12_readAt (s0 : sg_M) (x1 : Int) (Q : Int → sg_M → Prop) : Prop := ∀ s1 : sg_M, s1 = sg_up s0 64 0 0 → ((x1 < 0 → Q (-1) s1) ∧ (¬ (x1 < 0) → (((s1 64 52) ≤ x1 → Q (-1) s1) ∧ (¬ ((s1 64 52) ≤ x1) → (0 ≤ x1 ∧ x1 < 40) ∧ Q (s1 84 x1) s1))))
set_option maxHeartbeats 4000000 in
set_option maxRecDepth 100000 in
theorem CX12_readAt {l : Launch} {G : sg_G} {La : sg_L} {s0 : sg_M} (hst : sg_St La) {x1 : Int} (r1 : sg_R x1) {Q : Int → sg_M → Prop} (hf : fX12_readAt s0 x1 Q) : sg_C l G yX12_readAt cX12_readAt 2 (some .int) 1 0 0 La s0 [sg_r 64, sg_i x1] (sg_HI La Q) := by
  refine sg_body (by decide +kernel) (Nat.le_of_ble_eq_true rfl) ?_
  intro p e s m args below meth c F hnm
  unfold fX12_readAt at hf
  show sg_W p l e (sg_rm 1 0 0) s m args below meth c (MQ below (sg_Q (some .int) G La s.heap.size (sg_HI La Q)) args s 0 0 (sg_A La s.heap.size)) 2 G (sg_A La s.heap.size) La s0 0 0 0 [(0, sg_r 64), (1, sg_i x1)] []
  refine gw_aload_n F 0 rfl rfl (by decide) dX12_readAt_0 ?_
  refine gw_iconst F dX12_readAt_1 ?_
  obtain ⟨s1, e2⟩ : ∃ z : sg_M, z = sg_up s0 64 0 0 := ⟨_, rfl⟩
  have hf := hf s1 e2
  refine gw_put0 F (so_64 hst) (by decide) rfl sg_lay_RX12 (j := 0) (by decide) (by decide) e2 tyX12_ok nmX12 rfl (tyX12_ok 0 (by decide)) rfl (host := "") (.inl kw_947) dX12_readAt_2 ?_
  refine gw_iload_n F 1 rfl rfl dX12_readAt_5 ?_
  refine gw_if_lt F (tgt := 26) dX12_readAt_6 (by decide) r1 (fun c3 => ?_) (fun c3 => ?_)
  · have hf := hf.1 c3
    refine gw_iconst F dX12_readAt_26 ?_
    exact gr_HI F (by decide) hf (by decide) (by decide) dX12_readAt_27
  · have hf := hf.2 c3
    refine gw_iload_n F 1 rfl rfl dX12_readAt_9 ?_
    refine gw_aload_n F 0 rfl rfl (by decide) dX12_readAt_10 ?_
    refine gw_get0 F (so_64 hst) (by decide) rfl sg_lay_RX12 (j := 52) (by decide) rfl (host := "") (.inl kw_999) dX12_readAt_11 (fun h4 => ?_)
    refine gw_icmp_ge F (tgt := 26) dX12_readAt_14 (by decide) r1 h4 (fun c5 => ?_) (fun c5 => ?_)
    · have hf := hf.1 c5
      refine gw_iconst F dX12_readAt_26 ?_
      exact gr_HI F (by decide) hf (by decide) (by decide) dX12_readAt_27
    · have hf := hf.2 c5
      refine gw_aload_n F 0 rfl rfl (by decide) dX12_readAt_17 ?_
      refine gw_get7 F (so_64 hst) (by decide) rfl sg_lay_RX12 (j := 51) (by decide) (o1 := 84) (by first | rfl | omega) rfl (host := "") (.inl kw_998) dX12_readAt_18 (fun h6 => ?_)
      refine gw_iload_n F 1 rfl rfl dX12_readAt_21 ?_
      obtain ⟨⟨b70, b71⟩, hf⟩ := hf
      refine gw_iald F (sa_84 hst) b70 b71 dX12_readAt_22 (fun h8 => ?_)
      refine gw_goto F (tgt := 27) dX12_readAt_23 (by decide) ?_
      exact gr_HI F h8 hf (by decide) (by decide) dX12_readAt_27

theorem dX12_worth_0 : decode cX12_worth 0 = .ok (.aload_n 0, 1) := by decide +kernel
theorem dX12_worth_1 : decode cX12_worth 1 = .ok (.iconst 0, 1) := by decide +kernel
theorem dX12_worth_2 : decode cX12_worth 2 = .ok (.putfield 84, 3) := by decide +kernel
theorem dX12_worth_5 : decode cX12_worth 5 = .ok (.aload_n 0, 1) := by decide +kernel
theorem dX12_worth_6 : decode cX12_worth 6 = .ok (.getfield 270, 3) := by decide +kernel
theorem dX12_worth_9 : decode cX12_worth 9 = .ok (.ireturn, 1) := by decide +kernel
theorem hcX12_worth : yX12_worth.cls ≠ "java/lang/invoke/MethodHandle" ∧ yX12_worth.cls ≠ "java/lang/invoke/VarHandle" ∧ (parseMethodDescriptor yX12_worth.desc).map (fun d => d.parameters.length) = some 0 := ⟨by decide +kernel, by decide +kernel, by decide +kernel⟩
def fX12_worth (s0 : sg_M) (Q : Int → sg_M → Prop) : Prop := ∀ s1 : sg_M, s1 = sg_up s0 64 0 0 → Q (s1 64 38) s1
set_option maxHeartbeats 4000000 in
set_option maxRecDepth 100000 in
theorem CX12_worth {l : Launch} {G : sg_G} {La : sg_L} {s0 : sg_M} (hst : sg_St La) {Q : Int → sg_M → Prop} (hf : fX12_worth s0 Q) : sg_C l G yX12_worth cX12_worth 1 (some .int) 1 0 0 La s0 [sg_r 64] (sg_HI La Q) := by
  refine sg_body (by decide +kernel) (Nat.le_of_ble_eq_true rfl) ?_
  intro p e s m args below meth c F hnm
  unfold fX12_worth at hf
  show sg_W p l e (sg_rm 1 0 0) s m args below meth c (MQ below (sg_Q (some .int) G La s.heap.size (sg_HI La Q)) args s 0 0 (sg_A La s.heap.size)) 1 G (sg_A La s.heap.size) La s0 0 0 0 [(0, sg_r 64)] []
  refine gw_aload_n F 0 rfl rfl (by decide) dX12_worth_0 ?_
  refine gw_iconst F dX12_worth_1 ?_
  obtain ⟨s1, e2⟩ : ∃ z : sg_M, z = sg_up s0 64 0 0 := ⟨_, rfl⟩
  have hf := hf s1 e2
  refine gw_put0 F (so_64 hst) (by decide) rfl sg_lay_RX12 (j := 0) (by decide) (by decide) e2 tyX12_ok nmX12 rfl (tyX12_ok 0 (by decide)) rfl (host := "") (.inl kw_947) dX12_worth_2 ?_
  refine gw_aload_n F 0 rfl rfl (by decide) dX12_worth_5 ?_
  refine gw_get0 F (so_64 hst) (by decide) rfl sg_lay_RX12 (j := 38) (by decide) rfl (host := "") (.inl kw_985) dX12_worth_6 (fun h3 => ?_)
  exact gr_HI F h3 hf (by decide) (by decide) dX12_worth_9

theorem dX12_song_0 : decode cX12_song 0 = .ok (.aload_n 0, 1) := by decide +kernel
theorem dX12_song_1 : decode cX12_song 1 = .ok (.iconst 0, 1) := by decide +kernel
theorem dX12_song_2 : decode cX12_song 2 = .ok (.putfield 84, 3) := by decide +kernel
theorem dX12_song_5 : decode cX12_song 5 = .ok (.aload_n 0, 1) := by decide +kernel
theorem dX12_song_6 : decode cX12_song 6 = .ok (.invokevirtual 175, 3) := by decide +kernel
theorem dX12_song_9 : decode cX12_song 9 = .ok (.aload_n 0, 1) := by decide +kernel
theorem dX12_song_10 : decode cX12_song 10 = .ok (.invokevirtual 178, 3) := by decide +kernel
theorem dX12_song_13 : decode cX12_song 13 = .ok (.istore_n 2, 1) := by decide +kernel
theorem dX12_song_14 : decode cX12_song 14 = .ok (.iload_n 2, 1) := by decide +kernel
theorem dX12_song_15 : decode cX12_song 15 = .ok (.iconst 2, 1) := by decide +kernel
theorem dX12_song_16 : decode cX12_song 16 = .ok (.irem, 1) := by decide +kernel
theorem dX12_song_17 : decode cX12_song 17 = .ok (.ifCond .ne 26, 3) := by decide +kernel
theorem dX12_song_20 : decode cX12_song 20 = .ok (.iload_n 2, 1) := by decide +kernel
theorem dX12_song_21 : decode cX12_song 21 = .ok (.iconst 2, 1) := by decide +kernel
theorem dX12_song_22 : decode cX12_song 22 = .ok (.idiv, 1) := by decide +kernel
theorem dX12_song_23 : decode cX12_song 23 = .ok (.iconst 1, 1) := by decide +kernel
theorem dX12_song_24 : decode cX12_song 24 = .ok (.bipush 60, 2) := by decide +kernel
theorem dX12_song_26 : decode cX12_song 26 = .ok (.invokestatic 155, 3) := by decide +kernel
theorem dX12_song_29 : decode cX12_song 29 = .ok (.ifCond .eq 14, 3) := by decide +kernel
theorem dX12_song_32 : decode cX12_song 32 = .ok (.iload_n 1, 1) := by decide +kernel
theorem dX12_song_33 : decode cX12_song 33 = .ok (.iconst 0, 1) := by decide +kernel
theorem dX12_song_34 : decode cX12_song 34 = .ok (.sipush 200, 3) := by decide +kernel
theorem dX12_song_37 : decode cX12_song 37 = .ok (.invokestatic 155, 3) := by decide +kernel
theorem dX12_song_40 : decode cX12_song 40 = .ok (.ifCond .ne 6, 3) := by decide +kernel
theorem dX12_song_43 : decode cX12_song 43 = .ok (.bipush (-2), 2) := by decide +kernel
theorem dX12_song_45 : decode cX12_song 45 = .ok (.ireturn, 1) := by decide +kernel
theorem dX12_song_46 : decode cX12_song 46 = .ok (.iload_n 2, 1) := by decide +kernel
theorem dX12_song_47 : decode cX12_song 47 = .ok (.iconst 2, 1) := by decide +kernel
theorem dX12_song_48 : decode cX12_song 48 = .ok (.idiv, 1) := by decide +kernel
theorem dX12_song_49 : decode cX12_song 49 = .ok (.istore_n 2, 1) := by decide +kernel
theorem dX12_song_50 : decode cX12_song 50 = .ok (.iconst 0, 1) := by decide +kernel
theorem dX12_song_51 : decode cX12_song 51 = .ok (.istore_n 3, 1) := by decide +kernel
theorem dX12_song_52 : decode cX12_song 52 = .ok (.iload_n 3, 1) := by decide +kernel
theorem dX12_song_53 : decode cX12_song 53 = .ok (.iload_n 2, 1) := by decide +kernel
theorem dX12_song_54 : decode cX12_song 54 = .ok (.if_icmp .ge 57, 3) := by decide +kernel
theorem dX12_song_57 : decode cX12_song 57 = .ok (.aload_n 0, 1) := by decide +kernel
theorem dX12_song_58 : decode cX12_song 58 = .ok (.getfield 59, 3) := by decide +kernel
theorem dX12_song_61 : decode cX12_song 61 = .ok (.iload_n 3, 1) := by decide +kernel
theorem dX12_song_62 : decode cX12_song 62 = .ok (.sipush 256, 3) := by decide +kernel
theorem dX12_song_65 : decode cX12_song 65 = .ok (.aload_n 0, 1) := by decide +kernel
theorem dX12_song_66 : decode cX12_song 66 = .ok (.getfield 7, 3) := by decide +kernel
theorem dX12_song_69 : decode cX12_song 69 = .ok (.iconst 2, 1) := by decide +kernel
theorem dX12_song_70 : decode cX12_song 70 = .ok (.iload_n 3, 1) := by decide +kernel
theorem dX12_song_71 : decode cX12_song 71 = .ok (.imul, 1) := by decide +kernel
theorem dX12_song_72 : decode cX12_song 72 = .ok (.iaload, 1) := by decide +kernel
theorem dX12_song_73 : decode cX12_song 73 = .ok (.imul, 1) := by decide +kernel
theorem dX12_song_74 : decode cX12_song 74 = .ok (.aload_n 0, 1) := by decide +kernel
theorem dX12_song_75 : decode cX12_song 75 = .ok (.getfield 7, 3) := by decide +kernel
theorem dX12_song_78 : decode cX12_song 78 = .ok (.iconst 2, 1) := by decide +kernel
theorem dX12_song_79 : decode cX12_song 79 = .ok (.iload_n 3, 1) := by decide +kernel
theorem dX12_song_80 : decode cX12_song 80 = .ok (.imul, 1) := by decide +kernel
theorem dX12_song_81 : decode cX12_song 81 = .ok (.iconst 1, 1) := by decide +kernel
theorem dX12_song_82 : decode cX12_song 82 = .ok (.iadd, 1) := by decide +kernel
theorem dX12_song_83 : decode cX12_song 83 = .ok (.iaload, 1) := by decide +kernel
theorem dX12_song_84 : decode cX12_song 84 = .ok (.iadd, 1) := by decide +kernel
theorem dX12_song_85 : decode cX12_song 85 = .ok (.iastore, 1) := by decide +kernel
theorem dX12_song_86 : decode cX12_song 86 = .ok (.aload_n 0, 1) := by decide +kernel
theorem dX12_song_87 : decode cX12_song 87 = .ok (.getfield 59, 3) := by decide +kernel
theorem dX12_song_90 : decode cX12_song 90 = .ok (.iload_n 3, 1) := by decide +kernel
theorem dX12_song_91 : decode cX12_song 91 = .ok (.iaload, 1) := by decide +kernel
theorem dX12_song_92 : decode cX12_song 92 = .ok (.iconst 1, 1) := by decide +kernel
theorem dX12_song_93 : decode cX12_song 93 = .ok (.sipush 2000, 3) := by decide +kernel
theorem dX12_song_96 : decode cX12_song 96 = .ok (.invokestatic 155, 3) := by decide +kernel
theorem dX12_song_99 : decode cX12_song 99 = .ok (.ifCond .ne 6, 3) := by decide +kernel
theorem dX12_song_102 : decode cX12_song 102 = .ok (.bipush (-2), 2) := by decide +kernel
theorem dX12_song_104 : decode cX12_song 104 = .ok (.ireturn, 1) := by decide +kernel
theorem dX12_song_105 : decode cX12_song 105 = .ok (.iinc 3 1, 3) := by decide +kernel
theorem dX12_song_108 : decode cX12_song 108 = .ok (.goto (-56), 3) := by decide +kernel
theorem dX12_song_111 : decode cX12_song 111 = .ok (.aload_n 0, 1) := by decide +kernel
theorem dX12_song_112 : decode cX12_song 112 = .ok (.invokevirtual 332, 3) := by decide +kernel
theorem dX12_song_115 : decode cX12_song 115 = .ok (.iload_n 2, 1) := by decide +kernel
theorem dX12_song_116 : decode cX12_song 116 = .ok (.iconst 1, 1) := by decide +kernel
theorem dX12_song_117 : decode cX12_song 117 = .ok (.isub, 1) := by decide +kernel
theorem dX12_song_118 : decode cX12_song 118 = .ok (.istore_n 3, 1) := by decide +kernel
theorem dX12_song_119 : decode cX12_song 119 = .ok (.iload_n 3, 1) := by decide +kernel
theorem dX12_song_120 : decode cX12_song 120 = .ok (.ifCond .lt 182, 3) := by decide +kernel
theorem dX12_song_123 : decode cX12_song 123 = .ok (.iconst 0, 1) := by decide +kernel
theorem dX12_song_124 : decode cX12_song 124 = .ok (.istore 4, 2) := by decide +kernel
theorem dX12_song_126 : decode cX12_song 126 = .ok (.iload 4, 2) := by decide +kernel
theorem dX12_song_128 : decode cX12_song 128 = .ok (.aload_n 0, 1) := by decide +kernel
theorem dX12_song_129 : decode cX12_song 129 = .ok (.invokevirtual 320, 3) := by decide +kernel
theorem dX12_song_132 : decode cX12_song 132 = .ok (.if_icmp .ge 164, 3) := by decide +kernel
theorem dX12_song_135 : decode cX12_song 135 = .ok (.iload_n 3, 1) := by decide +kernel
theorem dX12_song_136 : decode cX12_song 136 = .ok (.iload_n 2, 1) := by decide +kernel
theorem dX12_song_137 : decode cX12_song 137 = .ok (.iconst 1, 1) := by decide +kernel
theorem dX12_song_138 : decode cX12_song 138 = .ok (.isub, 1) := by decide +kernel
theorem dX12_song_139 : decode cX12_song 139 = .ok (.if_icmp .ne 7, 3) := by decide +kernel
theorem dX12_song_142 : decode cX12_song 142 = .ok (.iconst 0, 1) := by decide +kernel
theorem dX12_song_143 : decode cX12_song 143 = .ok (.goto 6, 3) := by decide +kernel
theorem dX12_song_146 : decode cX12_song 146 = .ok (.ldc_w 337, 3) := by decide +kernel
theorem dX12_song_149 : decode cX12_song 149 = .ok (.istore 5, 2) := by decide +kernel
theorem dX12_song_151 : decode cX12_song 151 = .ok (.iconst 0, 1) := by decide +kernel
theorem dX12_song_152 : decode cX12_song 152 = .ok (.istore 6, 2) := by decide +kernel
theorem dX12_song_154 : decode cX12_song 154 = .ok (.iload 6, 2) := by decide +kernel
theorem dX12_song_156 : decode cX12_song 156 = .ok (.aload_n 0, 1) := by decide +kernel
theorem dX12_song_157 : decode cX12_song 157 = .ok (.invokevirtual 320, 3) := by decide +kernel
theorem dX12_song_160 : decode cX12_song 160 = .ok (.if_icmp .ge 89, 3) := by decide +kernel
theorem dX12_song_163 : decode cX12_song 163 = .ok (.iload_n 3, 1) := by decide +kernel
theorem dX12_song_164 : decode cX12_song 164 = .ok (.iload_n 2, 1) := by decide +kernel
theorem dX12_song_165 : decode cX12_song 165 = .ok (.iconst 1, 1) := by decide +kernel
theorem dX12_song_166 : decode cX12_song 166 = .ok (.isub, 1) := by decide +kernel
theorem dX12_song_167 : decode cX12_song 167 = .ok (.if_icmp .ge 82, 3) := by decide +kernel
theorem dX12_song_170 : decode cX12_song 170 = .ok (.aload_n 0, 1) := by decide +kernel
theorem dX12_song_171 : decode cX12_song 171 = .ok (.getfield 62, 3) := by decide +kernel
theorem dX12_song_174 : decode cX12_song 174 = .ok (.bipush 40, 2) := by decide +kernel
theorem dX12_song_176 : decode cX12_song 176 = .ok (.iload_n 3, 1) := by decide +kernel
theorem dX12_song_177 : decode cX12_song 177 = .ok (.iconst 1, 1) := by decide +kernel
theorem dX12_song_178 : decode cX12_song 178 = .ok (.iadd, 1) := by decide +kernel
theorem dX12_song_179 : decode cX12_song 179 = .ok (.imul, 1) := by decide +kernel
theorem dX12_song_180 : decode cX12_song 180 = .ok (.iload 6, 2) := by decide +kernel
theorem dX12_song_182 : decode cX12_song 182 = .ok (.iadd, 1) := by decide +kernel
theorem dX12_song_183 : decode cX12_song 183 = .ok (.iaload, 1) := by decide +kernel
theorem dX12_song_184 : decode cX12_song 184 = .ok (.ldc_w 337, 3) := by decide +kernel
theorem dX12_song_187 : decode cX12_song 187 = .ok (.if_icmp .ge 56, 3) := by decide +kernel
theorem dX12_song_190 : decode cX12_song 190 = .ok (.aload_n 0, 1) := by decide +kernel
theorem dX12_song_191 : decode cX12_song 191 = .ok (.iload 4, 2) := by decide +kernel
theorem dX12_song_193 : decode cX12_song 193 = .ok (.iload 6, 2) := by decide +kernel
theorem dX12_song_195 : decode cX12_song 195 = .ok (.invokevirtual 338, 3) := by decide +kernel
theorem dX12_song_198 : decode cX12_song 198 = .ok (.aload_n 0, 1) := by decide +kernel
theorem dX12_song_199 : decode cX12_song 199 = .ok (.getfield 62, 3) := by decide +kernel
theorem dX12_song_202 : decode cX12_song 202 = .ok (.bipush 40, 2) := by decide +kernel
theorem dX12_song_204 : decode cX12_song 204 = .ok (.iload_n 3, 1) := by decide +kernel
theorem dX12_song_205 : decode cX12_song 205 = .ok (.iconst 1, 1) := by decide +kernel
theorem dX12_song_206 : decode cX12_song 206 = .ok (.iadd, 1) := by decide +kernel
theorem dX12_song_207 : decode cX12_song 207 = .ok (.imul, 1) := by decide +kernel
theorem dX12_song_208 : decode cX12_song 208 = .ok (.iload 6, 2) := by decide +kernel
theorem dX12_song_210 : decode cX12_song 210 = .ok (.iadd, 1) := by decide +kernel
theorem dX12_song_211 : decode cX12_song 211 = .ok (.iaload, 1) := by decide +kernel
theorem dX12_song_212 : decode cX12_song 212 = .ok (.iadd, 1) := by decide +kernel
theorem dX12_song_213 : decode cX12_song 213 = .ok (.iload 5, 2) := by decide +kernel
theorem dX12_song_215 : decode cX12_song 215 = .ok (.if_icmp .ge 28, 3) := by decide +kernel
theorem dX12_song_218 : decode cX12_song 218 = .ok (.aload_n 0, 1) := by decide +kernel
theorem dX12_song_219 : decode cX12_song 219 = .ok (.iload 4, 2) := by decide +kernel
theorem dX12_song_221 : decode cX12_song 221 = .ok (.iload 6, 2) := by decide +kernel
theorem dX12_song_223 : decode cX12_song 223 = .ok (.invokevirtual 338, 3) := by decide +kernel
theorem dX12_song_226 : decode cX12_song 226 = .ok (.aload_n 0, 1) := by decide +kernel
theorem dX12_song_227 : decode cX12_song 227 = .ok (.getfield 62, 3) := by decide +kernel
theorem dX12_song_230 : decode cX12_song 230 = .ok (.bipush 40, 2) := by decide +kernel
theorem dX12_song_232 : decode cX12_song 232 = .ok (.iload_n 3, 1) := by decide +kernel
theorem dX12_song_233 : decode cX12_song 233 = .ok (.iconst 1, 1) := by decide +kernel
theorem dX12_song_234 : decode cX12_song 234 = .ok (.iadd, 1) := by decide +kernel
theorem dX12_song_235 : decode cX12_song 235 = .ok (.imul, 1) := by decide +kernel
theorem dX12_song_236 : decode cX12_song 236 = .ok (.iload 6, 2) := by decide +kernel
theorem dX12_song_238 : decode cX12_song 238 = .ok (.iadd, 1) := by decide +kernel
theorem dX12_song_239 : decode cX12_song 239 = .ok (.iaload, 1) := by decide +kernel
theorem dX12_song_240 : decode cX12_song 240 = .ok (.iadd, 1) := by decide +kernel
theorem dX12_song_241 : decode cX12_song 241 = .ok (.istore 5, 2) := by decide +kernel
theorem dX12_song_243 : decode cX12_song 243 = .ok (.iinc 6 1, 3) := by decide +kernel
theorem dX12_song_246 : decode cX12_song 246 = .ok (.goto (-92), 3) := by decide +kernel
theorem dX12_song_249 : decode cX12_song 249 = .ok (.aload_n 0, 1) := by decide +kernel
theorem dX12_song_250 : decode cX12_song 250 = .ok (.getfield 62, 3) := by decide +kernel
theorem dX12_song_253 : decode cX12_song 253 = .ok (.bipush 40, 2) := by decide +kernel
theorem dX12_song_255 : decode cX12_song 255 = .ok (.iload_n 3, 1) := by decide +kernel
theorem dX12_song_256 : decode cX12_song 256 = .ok (.imul, 1) := by decide +kernel
theorem dX12_song_257 : decode cX12_song 257 = .ok (.iload 4, 2) := by decide +kernel
theorem dX12_song_259 : decode cX12_song 259 = .ok (.iadd, 1) := by decide +kernel
theorem dX12_song_260 : decode cX12_song 260 = .ok (.aload_n 0, 1) := by decide +kernel
theorem dX12_song_261 : decode cX12_song 261 = .ok (.aload_n 0, 1) := by decide +kernel
theorem dX12_song_262 : decode cX12_song 262 = .ok (.getfield 56, 3) := by decide +kernel
theorem dX12_song_265 : decode cX12_song 265 = .ok (.iload 4, 2) := by decide +kernel
theorem dX12_song_267 : decode cX12_song 267 = .ok (.iaload, 1) := by decide +kernel
theorem dX12_song_268 : decode cX12_song 268 = .ok (.aload_n 0, 1) := by decide +kernel
theorem dX12_song_269 : decode cX12_song 269 = .ok (.getfield 59, 3) := by decide +kernel
theorem dX12_song_272 : decode cX12_song 272 = .ok (.iload_n 3, 1) := by decide +kernel
theorem dX12_song_273 : decode cX12_song 273 = .ok (.iaload, 1) := by decide +kernel
theorem dX12_song_274 : decode cX12_song 274 = .ok (.iload_n 1, 1) := by decide +kernel
theorem dX12_song_275 : decode cX12_song 275 = .ok (.invokevirtual 341, 3) := by decide +kernel
theorem dX12_song_278 : decode cX12_song 278 = .ok (.ifCond .eq 8, 3) := by decide +kernel
theorem dX12_song_281 : decode cX12_song 281 = .ok (.iload 5, 2) := by decide +kernel
theorem dX12_song_283 : decode cX12_song 283 = .ok (.goto 6, 3) := by decide +kernel
theorem dX12_song_286 : decode cX12_song 286 = .ok (.ldc_w 337, 3) := by decide +kernel
theorem dX12_song_289 : decode cX12_song 289 = .ok (.iastore, 1) := by decide +kernel
theorem dX12_song_290 : decode cX12_song 290 = .ok (.iinc 4 1, 3) := by decide +kernel
theorem dX12_song_293 : decode cX12_song 293 = .ok (.goto (-167), 3) := by decide +kernel
theorem dX12_song_296 : decode cX12_song 296 = .ok (.iinc 3 (-1), 3) := by decide +kernel
theorem dX12_song_299 : decode cX12_song 299 = .ok (.goto (-180), 3) := by decide +kernel
theorem dX12_song_302 : decode cX12_song 302 = .ok (.iconst (-1), 1) := by decide +kernel
theorem dX12_song_303 : decode cX12_song 303 = .ok (.istore_n 3, 1) := by decide +kernel
theorem dX12_song_304 : decode cX12_song 304 = .ok (.iconst 0, 1) := by decide +kernel
theorem dX12_song_305 : decode cX12_song 305 = .ok (.istore 4, 2) := by decide +kernel
theorem dX12_song_307 : decode cX12_song 307 = .ok (.iload 4, 2) := by decide +kernel
theorem dX12_song_309 : decode cX12_song 309 = .ok (.aload_n 0, 1) := by decide +kernel
theorem dX12_song_310 : decode cX12_song 310 = .ok (.invokevirtual 320, 3) := by decide +kernel
theorem dX12_song_313 : decode cX12_song 313 = .ok (.if_icmp .ge 46, 3) := by decide +kernel
theorem dX12_song_316 : decode cX12_song 316 = .ok (.aload_n 0, 1) := by decide +kernel
theorem dX12_song_317 : decode cX12_song 317 = .ok (.getfield 62, 3) := by decide +kernel
theorem dX12_song_320 : decode cX12_song 320 = .ok (.iload 4, 2) := by decide +kernel
theorem dX12_song_322 : decode cX12_song 322 = .ok (.iaload, 1) := by decide +kernel
theorem dX12_song_323 : decode cX12_song 323 = .ok (.ldc_w 337, 3) := by decide +kernel
theorem dX12_song_326 : decode cX12_song 326 = .ok (.if_icmp .ge 27, 3) := by decide +kernel
theorem dX12_song_329 : decode cX12_song 329 = .ok (.iload_n 3, 1) := by decide +kernel
theorem dX12_song_330 : decode cX12_song 330 = .ok (.iconst (-1), 1) := by decide +kernel
theorem dX12_song_331 : decode cX12_song 331 = .ok (.if_icmp .eq 19, 3) := by decide +kernel
theorem dX12_song_334 : decode cX12_song 334 = .ok (.aload_n 0, 1) := by decide +kernel
theorem dX12_song_335 : decode cX12_song 335 = .ok (.getfield 62, 3) := by decide +kernel
theorem dX12_song_338 : decode cX12_song 338 = .ok (.iload 4, 2) := by decide +kernel
theorem dX12_song_340 : decode cX12_song 340 = .ok (.iaload, 1) := by decide +kernel
theorem dX12_song_341 : decode cX12_song 341 = .ok (.aload_n 0, 1) := by decide +kernel
theorem dX12_song_342 : decode cX12_song 342 = .ok (.getfield 62, 3) := by decide +kernel
theorem dX12_song_345 : decode cX12_song 345 = .ok (.iload_n 3, 1) := by decide +kernel
theorem dX12_song_346 : decode cX12_song 346 = .ok (.iaload, 1) := by decide +kernel
theorem dX12_song_347 : decode cX12_song 347 = .ok (.if_icmp .ge 6, 3) := by decide +kernel
theorem dX12_song_350 : decode cX12_song 350 = .ok (.iload 4, 2) := by decide +kernel
theorem dX12_song_352 : decode cX12_song 352 = .ok (.istore_n 3, 1) := by decide +kernel
theorem dX12_song_353 : decode cX12_song 353 = .ok (.iinc 4 1, 3) := by decide +kernel
theorem dX12_song_356 : decode cX12_song 356 = .ok (.goto (-49), 3) := by decide +kernel
theorem dX12_song_359 : decode cX12_song 359 = .ok (.iload_n 3, 1) := by decide +kernel
theorem dX12_song_360 : decode cX12_song 360 = .ok (.iconst (-1), 1) := by decide +kernel
theorem dX12_song_361 : decode cX12_song 361 = .ok (.if_icmp .ne 5, 3) := by decide +kernel
theorem dX12_song_364 : decode cX12_song 364 = .ok (.iconst (-1), 1) := by decide +kernel
theorem dX12_song_365 : decode cX12_song 365 = .ok (.ireturn, 1) := by decide +kernel
theorem dX12_song_366 : decode cX12_song 366 = .ok (.aload_n 0, 1) := by decide +kernel
theorem dX12_song_367 : decode cX12_song 367 = .ok (.iload_n 2, 1) := by decide +kernel
theorem dX12_song_368 : decode cX12_song 368 = .ok (.putfield 344, 3) := by decide +kernel
theorem dX12_song_371 : decode cX12_song 371 = .ok (.aload_n 0, 1) := by decide +kernel
theorem dX12_song_372 : decode cX12_song 372 = .ok (.getfield 65, 3) := by decide +kernel
theorem dX12_song_375 : decode cX12_song 375 = .ok (.iconst 0, 1) := by decide +kernel
theorem dX12_song_376 : decode cX12_song 376 = .ok (.iload_n 3, 1) := by decide +kernel
theorem dX12_song_377 : decode cX12_song 377 = .ok (.iastore, 1) := by decide +kernel
theorem dX12_song_378 : decode cX12_song 378 = .ok (.iconst 1, 1) := by decide +kernel
theorem dX12_song_379 : decode cX12_song 379 = .ok (.istore 4, 2) := by decide +kernel
theorem dX12_song_381 : decode cX12_song 381 = .ok (.iload 4, 2) := by decide +kernel
theorem dX12_song_383 : decode cX12_song 383 = .ok (.iload_n 2, 1) := by decide +kernel
theorem dX12_song_384 : decode cX12_song 384 = .ok (.if_icmp .ge 97, 3) := by decide +kernel
theorem dX12_song_387 : decode cX12_song 387 = .ok (.aload_n 0, 1) := by decide +kernel
theorem dX12_song_388 : decode cX12_song 388 = .ok (.getfield 65, 3) := by decide +kernel
theorem dX12_song_391 : decode cX12_song 391 = .ok (.iload 4, 2) := by decide +kernel
theorem dX12_song_393 : decode cX12_song 393 = .ok (.iconst 1, 1) := by decide +kernel
theorem dX12_song_394 : decode cX12_song 394 = .ok (.isub, 1) := by decide +kernel
theorem dX12_song_395 : decode cX12_song 395 = .ok (.iaload, 1) := by decide +kernel
theorem dX12_song_396 : decode cX12_song 396 = .ok (.istore 5, 2) := by decide +kernel
theorem dX12_song_398 : decode cX12_song 398 = .ok (.iconst 0, 1) := by decide +kernel
theorem dX12_song_399 : decode cX12_song 399 = .ok (.istore 6, 2) := by decide +kernel
theorem dX12_song_401 : decode cX12_song 401 = .ok (.aload_n 0, 1) := by decide +kernel
theorem dX12_song_402 : decode cX12_song 402 = .ok (.getfield 62, 3) := by decide +kernel
theorem dX12_song_405 : decode cX12_song 405 = .ok (.bipush 40, 2) := by decide +kernel
theorem dX12_song_407 : decode cX12_song 407 = .ok (.iload 4, 2) := by decide +kernel
theorem dX12_song_409 : decode cX12_song 409 = .ok (.imul, 1) := by decide +kernel
theorem dX12_song_410 : decode cX12_song 410 = .ok (.iload 6, 2) := by decide +kernel
theorem dX12_song_412 : decode cX12_song 412 = .ok (.iadd, 1) := by decide +kernel
theorem dX12_song_413 : decode cX12_song 413 = .ok (.iaload, 1) := by decide +kernel
theorem dX12_song_414 : decode cX12_song 414 = .ok (.ldc_w 337, 3) := by decide +kernel
theorem dX12_song_417 : decode cX12_song 417 = .ok (.if_icmp .eq 43, 3) := by decide +kernel
theorem dX12_song_420 : decode cX12_song 420 = .ok (.aload_n 0, 1) := by decide +kernel
theorem dX12_song_421 : decode cX12_song 421 = .ok (.iload 5, 2) := by decide +kernel
theorem dX12_song_423 : decode cX12_song 423 = .ok (.iload 6, 2) := by decide +kernel
theorem dX12_song_425 : decode cX12_song 425 = .ok (.invokevirtual 338, 3) := by decide +kernel
theorem dX12_song_428 : decode cX12_song 428 = .ok (.aload_n 0, 1) := by decide +kernel
theorem dX12_song_429 : decode cX12_song 429 = .ok (.getfield 62, 3) := by decide +kernel
theorem dX12_song_432 : decode cX12_song 432 = .ok (.bipush 40, 2) := by decide +kernel
theorem dX12_song_434 : decode cX12_song 434 = .ok (.iload 4, 2) := by decide +kernel
theorem dX12_song_436 : decode cX12_song 436 = .ok (.imul, 1) := by decide +kernel
theorem dX12_song_437 : decode cX12_song 437 = .ok (.iload 6, 2) := by decide +kernel
theorem dX12_song_439 : decode cX12_song 439 = .ok (.iadd, 1) := by decide +kernel
theorem dX12_song_440 : decode cX12_song 440 = .ok (.iaload, 1) := by decide +kernel
theorem dX12_song_441 : decode cX12_song 441 = .ok (.iadd, 1) := by decide +kernel
theorem dX12_song_442 : decode cX12_song 442 = .ok (.aload_n 0, 1) := by decide +kernel
theorem dX12_song_443 : decode cX12_song 443 = .ok (.getfield 62, 3) := by decide +kernel
theorem dX12_song_446 : decode cX12_song 446 = .ok (.bipush 40, 2) := by decide +kernel
theorem dX12_song_448 : decode cX12_song 448 = .ok (.iload 4, 2) := by decide +kernel
theorem dX12_song_450 : decode cX12_song 450 = .ok (.iconst 1, 1) := by decide +kernel
theorem dX12_song_451 : decode cX12_song 451 = .ok (.isub, 1) := by decide +kernel
theorem dX12_song_452 : decode cX12_song 452 = .ok (.imul, 1) := by decide +kernel
theorem dX12_song_453 : decode cX12_song 453 = .ok (.iload 5, 2) := by decide +kernel
theorem dX12_song_455 : decode cX12_song 455 = .ok (.iadd, 1) := by decide +kernel
theorem dX12_song_456 : decode cX12_song 456 = .ok (.iaload, 1) := by decide +kernel
theorem dX12_song_457 : decode cX12_song 457 = .ok (.if_icmp .eq 9, 3) := by decide +kernel
theorem dX12_song_460 : decode cX12_song 460 = .ok (.iinc 6 1, 3) := by decide +kernel
theorem dX12_song_463 : decode cX12_song 463 = .ok (.goto (-62), 3) := by decide +kernel
theorem dX12_song_466 : decode cX12_song 466 = .ok (.aload_n 0, 1) := by decide +kernel
theorem dX12_song_467 : decode cX12_song 467 = .ok (.getfield 65, 3) := by decide +kernel
theorem dX12_song_470 : decode cX12_song 470 = .ok (.iload 4, 2) := by decide +kernel
theorem dX12_song_472 : decode cX12_song 472 = .ok (.iload 6, 2) := by decide +kernel
theorem dX12_song_474 : decode cX12_song 474 = .ok (.iastore, 1) := by decide +kernel
theorem dX12_song_475 : decode cX12_song 475 = .ok (.iinc 4 1, 3) := by decide +kernel
theorem dX12_song_478 : decode cX12_song 478 = .ok (.goto (-97), 3) := by decide +kernel
theorem dX12_song_481 : decode cX12_song 481 = .ok (.aload_n 0, 1) := by decide +kernel
theorem dX12_song_482 : decode cX12_song 482 = .ok (.getfield 62, 3) := by decide +kernel
theorem dX12_song_485 : decode cX12_song 485 = .ok (.iload_n 3, 1) := by decide +kernel
theorem dX12_song_486 : decode cX12_song 486 = .ok (.iaload, 1) := by decide +kernel
theorem dX12_song_487 : decode cX12_song 487 = .ok (.ireturn, 1) := by decide +kernel
theorem hcX12_song : yX12_song.cls ≠ "java/lang/invoke/MethodHandle" ∧ yX12_song.cls ≠ "java/lang/invoke/VarHandle" ∧ (parseMethodDescriptor yX12_song.desc).map (fun d => d.parameters.length) = some 1 := ⟨by decide +kernel, by decide +kernel, by decide +kernel⟩
def fX12_song_L52 (u4 : Int) (Q : Int → sg_M → Prop) (k111 : sg_M → Prop) : Nat → sg_M → Int → Prop
  | 0, _, _ => False
  | n_52 + 1, s_52, x3_52 => sg_R (Int.tdiv u4 2) ∧ (((Int.tdiv u4 2) ≤ x3_52 → k111 s_52) ∧ (¬ ((Int.tdiv u4 2) ≤ x3_52) → (0 ≤ (2 * x3_52) ∧ (2 * x3_52) < 540) ∧ (0 ≤ ((2 * x3_52) + 1) ∧ ((2 * x3_52) + 1) < 540) ∧ (0 ≤ x3_52 ∧ x3_52 < 60) ∧ sg_R ((256 * (s_52 65 (2 * x3_52))) + (s_52 65 ((2 * x3_52) + 1))) ∧ ∀ v27 : Int, v27 = ((256 * (s_52 65 (2 * x3_52))) + (s_52 65 ((2 * x3_52) + 1))) → ∀ s29 : sg_M, s29 = sg_up s_52 81 x3_52 v27 → (0 ≤ x3_52 ∧ x3_52 < 60) ∧ fX12_isIn (s29 81 x3_52) 1 2000 (fun u34 => ((u34 ≠ 0 → sg_R (x3_52 + 1) ∧ (fX12_song_L52 u4 Q k111 n_52) s29 (x3_52 + 1)) ∧ (u34 = 0 → Q (-2) s29)))))
def fX12_song_j243 (x6_154 : Int) (k154 : Int → Int → Prop) (x5_243 : Int) : Prop := sg_R (x6_154 + 1) ∧ k154 x5_243 (x6_154 + 1)
def fX12_song_L154 (u4 : Int) (x3_119 : Int) (s_126 : sg_M) (x4_126 : Int) (k249 : Int → Prop) : Nat → Int → Int → Prop
  | 0, _, _ => False
  | n_154 + 1, x5_154, x6_154 => fX12_bends s_126 (fun u44 => ((u44 ≤ x6_154 → k249 x5_154) ∧ (¬ (u44 ≤ x6_154) → sg_R ((Int.tdiv u4 2) - 1) ∧ ((((Int.tdiv u4 2) - 1) ≤ x3_119 → k249 x5_154) ∧ (¬ (((Int.tdiv u4 2) - 1) ≤ x3_119) → (0 ≤ ((40 * (x3_119 + 1)) + x6_154) ∧ ((40 * (x3_119 + 1)) + x6_154) < 2400) ∧ ((100000000 ≤ (s_126 82 ((40 * (x3_119 + 1)) + x6_154)) → (fX12_song_j243 x6_154 (fX12_song_L154 u4 x3_119 s_126 x4_126 k249 n_154)) x5_154) ∧ (¬ (100000000 ≤ (s_126 82 ((40 * (x3_119 + 1)) + x6_154))) → fX12_way s_126 x4_126 x6_154 (fun u54 => (0 ≤ ((40 * (x3_119 + 1)) + x6_154) ∧ ((40 * (x3_119 + 1)) + x6_154) < 2400) ∧ sg_R (u54 + (s_126 82 ((40 * (x3_119 + 1)) + x6_154))) ∧ ((x5_154 ≤ (u54 + (s_126 82 ((40 * (x3_119 + 1)) + x6_154))) → (fX12_song_j243 x6_154 (fX12_song_L154 u4 x3_119 s_126 x4_126 k249 n_154)) x5_154) ∧ (¬ (x5_154 ≤ (u54 + (s_126 82 ((40 * (x3_119 + 1)) + x6_154)))) → fX12_way s_126 x4_126 x6_154 (fun u61 => (0 ≤ ((40 * (x3_119 + 1)) + x6_154) ∧ ((40 * (x3_119 + 1)) + x6_154) < 2400) ∧ ∀ v66 : Int, v66 = (u61 + (s_126 82 ((40 * (x3_119 + 1)) + x6_154))) → sg_R v66 ∧ (fX12_song_j243 x6_154 (fX12_song_L154 u4 x3_119 s_126 x4_126 k249 n_154)) v66)))))))))))
def fX12_song_j289 (x3_119 : Int) (s_126 : sg_M) (x4_126 : Int) (k126 : sg_M → Int → Prop) (y0_289 : Int) : Prop := (0 ≤ ((40 * x3_119) + x4_126) ∧ ((40 * x3_119) + x4_126) < 2400) ∧ ∀ s80 : sg_M, s80 = sg_up s_126 82 ((40 * x3_119) + x4_126) y0_289 → sg_R (x4_126 + 1) ∧ k126 s80 (x4_126 + 1)
def fX12_song_j149 (x1 : Int) (u4 : Int) (x3_119 : Int) (s_126 : sg_M) (x4_126 : Int) (k126 : sg_M → Int → Prop) (y0_149 : Int) : Prop := (∃ n69 : Nat, fX12_song_L154 u4 x3_119 s_126 x4_126 (fun x5_249e154 => (0 ≤ x4_126 ∧ x4_126 < 40) ∧ (0 ≤ x3_119 ∧ x3_119 < 60) ∧ fX12_isNear (s_126 80 x4_126) (s_126 81 x3_119) x1 (fun u77 => ((u77 = 0 → (fX12_song_j289 x3_119 s_126 x4_126 k126) 100000000) ∧ (¬ (u77 = 0) → (fX12_song_j289 x3_119 s_126 x4_126 k126) x5_249e154)))) n69 y0_149 0)
def fX12_song_L126 (x1 : Int) (u4 : Int) (x3_119 : Int) (k296 : sg_M → Prop) : Nat → sg_M → Int → Prop
  | 0, _, _ => False
  | n_126 + 1, s_126, x4_126 => fX12_bends s_126 (fun u41 => ((u41 ≤ x4_126 → k296 s_126) ∧ (¬ (u41 ≤ x4_126) → sg_R ((Int.tdiv u4 2) - 1) ∧ ((x3_119 ≠ ((Int.tdiv u4 2) - 1) → (fX12_song_j149 x1 u4 x3_119 s_126 x4_126 (fX12_song_L126 x1 u4 x3_119 k296 n_126)) 100000000) ∧ (x3_119 = ((Int.tdiv u4 2) - 1) → (fX12_song_j149 x1 u4 x3_119 s_126 x4_126 (fX12_song_L126 x1 u4 x3_119 k296 n_126)) 0)))))
def fX12_song_L119 (x1 : Int) (u4 : Int) (k302 : sg_M → Prop) : Nat → sg_M → Int → Prop
  | 0, _, _ => False
  | n_119 + 1, s_119, x3_119 => ((x3_119 < 0 → k302 s_119) ∧ (¬ (x3_119 < 0) → (∃ n86 : Nat, fX12_song_L126 x1 u4 x3_119 (fun s_296e126 => sg_R (x3_119 - 1) ∧ (fX12_song_L119 x1 u4 k302 n_119) s_296e126 (x3_119 - 1)) n86 s_119 0)))
def fX12_song_j353 (x4_307 : Int) (k307 : Int → Int → Prop) (x3_353 : Int) : Prop := sg_R (x4_307 + 1) ∧ k307 x3_353 (x4_307 + 1)
def fX12_song_j350 (x4_307 : Int) (k353 : Int → Prop)  : Prop := k353 x4_307
def fX12_song_L307 (s_302e119 : sg_M) (k359 : Int → Prop) : Nat → Int → Int → Prop
  | 0, _, _ => False
  | n_307 + 1, x3_307, x4_307 => fX12_bends s_302e119 (fun u90 => ((u90 ≤ x4_307 → k359 x3_307) ∧ (¬ (u90 ≤ x4_307) → (0 ≤ x4_307 ∧ x4_307 < 2400) ∧ ((100000000 ≤ (s_302e119 82 x4_307) → (fX12_song_j353 x4_307 (fX12_song_L307 s_302e119 k359 n_307)) x3_307) ∧ (¬ (100000000 ≤ (s_302e119 82 x4_307)) → ((x3_307 = (-1) → (fX12_song_j350 x4_307 (fX12_song_j353 x4_307 (fX12_song_L307 s_302e119 k359 n_307)))) ∧ (¬ (x3_307 = (-1)) → (0 ≤ x4_307 ∧ x4_307 < 2400) ∧ (0 ≤ x3_307 ∧ x3_307 < 2400) ∧ (((s_302e119 82 x3_307) ≤ (s_302e119 82 x4_307) → (fX12_song_j353 x4_307 (fX12_song_L307 s_302e119 k359 n_307)) x3_307) ∧ (¬ ((s_302e119 82 x3_307) ≤ (s_302e119 82 x4_307)) → (fX12_song_j350 x4_307 (fX12_song_j353 x4_307 (fX12_song_L307 s_302e119 k359 n_307))))))))))))
def fX12_song_j460 (x6_401 : Int) (k401 : Int → Prop)  : Prop := sg_R (x6_401 + 1) ∧ k401 (x6_401 + 1)
def fX12_song_L401 (s_381 : sg_M) (x4_381 : Int) (k466 : Int → Prop) : Nat → Int → Prop
  | 0, _ => False
  | n_401 + 1, x6_401 => (0 ≤ ((40 * x4_381) + x6_401) ∧ ((40 * x4_381) + x6_401) < 2400) ∧ (((s_381 82 ((40 * x4_381) + x6_401)) = 100000000 → (fX12_song_j460 x6_401 (fX12_song_L401 s_381 x4_381 k466 n_401))) ∧ (¬ ((s_381 82 ((40 * x4_381) + x6_401)) = 100000000) → fX12_way s_381 (s_381 83 (x4_381 - 1)) x6_401 (fun u126 => (0 ≤ ((40 * x4_381) + x6_401) ∧ ((40 * x4_381) + x6_401) < 2400) ∧ (0 ≤ ((40 * (x4_381 - 1)) + (s_381 83 (x4_381 - 1))) ∧ ((40 * (x4_381 - 1)) + (s_381 83 (x4_381 - 1))) < 2400) ∧ sg_R (u126 + (s_381 82 ((40 * x4_381) + x6_401))) ∧ (((u126 + (s_381 82 ((40 * x4_381) + x6_401))) = (s_381 82 ((40 * (x4_381 - 1)) + (s_381 83 (x4_381 - 1)))) → k466 x6_401) ∧ (¬ ((u126 + (s_381 82 ((40 * x4_381) + x6_401))) = (s_381 82 ((40 * (x4_381 - 1)) + (s_381 83 (x4_381 - 1))))) → (fX12_song_j460 x6_401 (fX12_song_L401 s_381 x4_381 k466 n_401)))))))
def fX12_song_L381 (u4 : Int) (x3_359e307 : Int) (Q : Int → sg_M → Prop) : Nat → sg_M → Int → Prop
  | 0, _, _ => False
  | n_381 + 1, s_381, x4_381 => (((Int.tdiv u4 2) ≤ x4_381 → (0 ≤ x3_359e307 ∧ x3_359e307 < 2400) ∧ Q (s_381 82 x3_359e307) s_381) ∧ (¬ ((Int.tdiv u4 2) ≤ x4_381) → (0 ≤ (x4_381 - 1) ∧ (x4_381 - 1) < 60) ∧ (∃ n136 : Nat, fX12_song_L401 s_381 x4_381 (fun x6_466e401 => (0 ≤ x4_381 ∧ x4_381 < 60) ∧ ∀ s139 : sg_M, s139 = sg_up s_381 83 x4_381 x6_466e401 → sg_R (x4_381 + 1) ∧ (fX12_song_L381 u4 x3_359e307 Q n_381) s139 (x4_381 + 1)) n136 0)))
def fX12_song (s0 : sg_M) (x1 : Int) (Q : Int → sg_M → Prop) : Prop := ∀ s1 : sg_M, s1 = sg_up s0 64 0 0 → fX12_lay s1 (fun s3 => fX12_takeTape s3 (fun u4 s6 => sg_R (Int.tmod u4 2) ∧ (((Int.tmod u4 2) ≠ 0 → Q (-2) s6) ∧ ((Int.tmod u4 2) = 0 → sg_R (Int.tdiv u4 2) ∧ fX12_isIn (Int.tdiv u4 2) 1 60 (fun u10 => ((u10 = 0 → Q (-2) s6) ∧ (¬ (u10 = 0) → fX12_isIn x1 0 200 (fun u13 => ((u13 ≠ 0 → (∃ n38 : Nat, fX12_song_L52 u4 Q (fun s_111e52 => fX12_sing s_111e52 (fun s39 => sg_R ((Int.tdiv u4 2) - 1) ∧ (∃ n89 : Nat, fX12_song_L119 x1 u4 (fun s_302e119 => (∃ n106 : Nat, fX12_song_L307 s_302e119 (fun x3_359e307 => ((x3_359e307 ≠ (-1) → sg_R (Int.tdiv u4 2) ∧ ∀ s109 : sg_M, s109 = sg_up s_302e119 64 50 (Int.tdiv u4 2) → ∀ s112 : sg_M, s112 = sg_up s109 83 0 x3_359e307 → (∃ n142 : Nat, fX12_song_L381 u4 x3_359e307 Q n142 s112 1)) ∧ (x3_359e307 = (-1) → Q (-1) s_302e119))) n106 (-1) 0)) n89 s39 ((Int.tdiv u4 2) - 1)))) n38 s6 0)) ∧ (u13 = 0 → Q (-2) s6))))))))))
set_option maxHeartbeats 4000000 in
set_option maxRecDepth 100000 in
theorem CX12_song {l : Launch} {G : sg_G} {La : sg_L} {s0 : sg_M} (hst : sg_St La) {x1 : Int} (r1 : sg_R x1) {Q : Int → sg_M → Prop} (hf : fX12_song s0 x1 Q) : sg_C l G yX12_song cX12_song 7 (some .int) 7 0 0 La s0 [sg_r 64, sg_i x1] (sg_HI La Q) := by
  refine sg_body (by decide +kernel) (Nat.le_of_ble_eq_true rfl) ?_
  intro p e s m args below meth c F hnm
  unfold fX12_song at hf
  show sg_W p l e (sg_rm 7 0 0) s m args below meth c (MQ below (sg_Q (some .int) G La s.heap.size (sg_HI La Q)) args s 0 0 (sg_A La s.heap.size)) 7 G (sg_A La s.heap.size) La s0 0 0 0 [(0, sg_r 64), (1, sg_i x1)] []
  refine gw_aload_n F 0 rfl rfl (by decide) dX12_song_0 ?_
  refine gw_iconst F dX12_song_1 ?_
  obtain ⟨s1, e2⟩ : ∃ z : sg_M, z = sg_up s0 64 0 0 := ⟨_, rfl⟩
  have hf := hf s1 e2
  refine gw_put0 F (so_64 hst) (by decide) rfl sg_lay_RX12 (j := 0) (by decide) (by decide) e2 tyX12_ok nmX12 rfl (tyX12_ok 0 (by decide)) rfl (host := "") (.inl kw_947) dX12_song_2 ?_
  refine gw_aload_n F 0 rfl rfl (by decide) dX12_song_5 ?_
  refine gk_HV F (gc_V F (S := []) (As := []) (T := TX12) (N := 62) (CX12_lay hst hf) (so_64 hst) (by decide) rfl kw_1034 kw_103 kw_1032 kw_1033 kw_41 hcX12_lay ⟨by decide, by decide⟩ rfl rfl (Nat.le_of_ble_eq_true rfl) ⟨by decide, by decide⟩ dX12_song_6) (fun s3 hf => ?_)
  refine gw_aload_n F 0 rfl rfl (by decide) dX12_song_9 ?_
  refine gk_HI F (gc_V F (S := []) (As := []) (T := TX12) (N := 62) (CX12_takeTape hst hf) (so_64 hst) (by decide) rfl kw_1037 kw_103 kw_1035 kw_1036 kw_42 hcX12_takeTape ⟨by decide, by decide⟩ rfl rfl (Nat.le_of_ble_eq_true rfl) ⟨by decide, by decide⟩ dX12_song_10) (fun u4 s6 h5 hf => ?_)
  refine gw_istore_n F rfl (by decide) rfl dX12_song_13 ?_
  refine gw_iload_n F 0 rfl rfl dX12_song_14 ?_
  refine gw_iconst F dX12_song_15 ?_
  refine gw_irem F h5 (by decide) (by decide) rfl dX12_song_16 ?_
  obtain ⟨g7, hf⟩ := hf
  refine gw_if_ne F (tgt := 43) dX12_song_17 (by decide) g7 (fun c8 => ?_) (fun c8 => ?_)
  · have hf := hf.1 c8
    refine gw_bipush F rfl dX12_song_43 ?_
    exact gr_HI F (by decide) hf (by decide) (by decide) dX12_song_45
  · have hf := hf.2 c8
    refine gw_iload_n F 0 rfl rfl dX12_song_20 ?_
    refine gw_iconst F dX12_song_21 ?_
    refine gw_idiv F h5 (by decide) (by decide) rfl dX12_song_22 ?_
    refine gw_iconst F dX12_song_23 ?_
    refine gw_bipush F rfl dX12_song_24 ?_
    obtain ⟨g9, hf⟩ := hf
    refine gk_PZ F (gc_S F (S := []) (As := [sg_i (Int.tdiv u4 2), sg_i 1, sg_i 60]) (CX12_isIn g9 (by decide) (by decide) hf) kw_1075 kw_103 kw_1073 kw_1074 hcX12_isIn ⟨by decide, by decide⟩ rfl rfl (Nat.le_of_ble_eq_true rfl) ⟨by decide, by decide⟩ dX12_song_26) (fun u10 h11 hf => ?_)
    refine gw_if_eq F (tgt := 43) dX12_song_29 (by decide) (sg_B_R h11) (fun c12 => ?_) (fun c12 => ?_)
    · have hf := hf.1 c12
      refine gw_bipush F rfl dX12_song_43 ?_
      exact gr_HI F (by decide) hf (by decide) (by decide) dX12_song_45
    · have hf := hf.2 c12
      refine gw_iload_n F 2 rfl rfl dX12_song_32 ?_
      refine gw_iconst F dX12_song_33 ?_
      refine gw_sipush F rfl dX12_song_34 ?_
      refine gk_PZ F (gc_S F (S := []) (As := [sg_i x1, sg_i 0, sg_i 200]) (CX12_isIn r1 (by decide) (by decide) hf) kw_1075 kw_103 kw_1073 kw_1074 hcX12_isIn ⟨by decide, by decide⟩ rfl rfl (Nat.le_of_ble_eq_true rfl) ⟨by decide, by decide⟩ dX12_song_37) (fun u13 h14 hf => ?_)
      refine gw_if_ne F (tgt := 46) dX12_song_40 (by decide) (sg_B_R h14) (fun c15 => ?_) (fun c15 => ?_)
      · have hf := hf.1 c15
        refine gw_iload_n F 0 rfl rfl dX12_song_46 ?_
        refine gw_iconst F dX12_song_47 ?_
        refine gw_idiv F h5 (by decide) (by decide) rfl dX12_song_48 ?_
        refine gw_istore_n F rfl (by decide) rfl dX12_song_49 ?_
        refine gw_iconst F dX12_song_50 ?_
        refine gw_istore_n F rfl (by decide) rfl dX12_song_51 ?_
        have L52 : ∀ (k111 : sg_M → Prop) (hk111 : ∀ (s_111e52 : sg_M), k111 s_111e52 → sg_W p l e (sg_rm 7 0 0) s m args below meth c (MQ below (sg_Q (some .int) G La s.heap.size (sg_HI La Q)) args s 0 0 (sg_A La s.heap.size)) 7 G (sg_A La s.heap.size) La s_111e52 0 0 111 [(0, sg_r 64), (1, sg_i x1), (2, sg_i (Int.tdiv u4 2))] []), ∀ n_52 : Nat, ∀ (s_52 : sg_M) (x3_52 : Int), sg_R x3_52 → fX12_song_L52 u4 Q k111 n_52 s_52 x3_52 → sg_W p l e (sg_rm 7 0 0) s m args below meth c (MQ below (sg_Q (some .int) G La s.heap.size (sg_HI La Q)) args s 0 0 (sg_A La s.heap.size)) 7 G (sg_A La s.heap.size) La s_52 0 0 52 [(0, sg_r 64), (1, sg_i x1), (2, sg_i (Int.tdiv u4 2)), (3, sg_i x3_52)] [] := by
          intro k111 hk111 n_52
          induction n_52 with
          | zero => intro s_52 x3_52 r3_52 hf; exact hf.elim
          | succ n_52 ih =>
            intro s_52 x3_52 r3_52 hf
            unfold fX12_song_L52 at hf
            refine gw_iload_n F 3 rfl rfl dX12_song_52 ?_
            refine gw_iload_n F 2 rfl rfl dX12_song_53 ?_
            obtain ⟨g16, hf⟩ := hf
            refine gw_icmp_ge F (tgt := 111) dX12_song_54 (by decide) r3_52 g16 (fun c17 => ?_) (fun c17 => ?_)
            · have hf := hf.1 c17
              refine gw_sub [0, 1, 2] rfl ?_
              exact hk111 s_52 hf
            · have hf := hf.2 c17
              refine gw_aload_n F 0 rfl rfl (by decide) dX12_song_57 ?_
              refine gw_get7 F (so_64 hst) (by decide) rfl sg_lay_RX12 (j := 47) (by decide) (o1 := 81) (by first | rfl | omega) rfl (host := "") (.inl kw_994) dX12_song_58 (fun h18 => ?_)
              refine gw_iload_n F 3 rfl rfl dX12_song_61 ?_
              refine gw_sipush F rfl dX12_song_62 ?_
              refine gw_aload_n F 0 rfl rfl (by decide) dX12_song_65 ?_
              refine gw_get7 F (so_64 hst) (by decide) rfl sg_lay_RX12 (j := 1) (by decide) (o1 := 65) (by first | rfl | omega) rfl (host := "") (.inl kw_948) dX12_song_66 (fun h19 => ?_)
              refine gw_iconst F dX12_song_69 ?_
              refine gw_iload_n F 3 rfl rfl dX12_song_70 ?_
              refine gw_imul F rfl dX12_song_71 ?_
              obtain ⟨⟨b200, b201⟩, hf⟩ := hf
              refine gw_iald F (sa_65 hst) b200 b201 dX12_song_72 (fun h21 => ?_)
              refine gw_imul F rfl dX12_song_73 ?_
              refine gw_aload_n F 0 rfl rfl (by decide) dX12_song_74 ?_
              refine gw_get7 F (so_64 hst) (by decide) rfl sg_lay_RX12 (j := 1) (by decide) (o1 := 65) (by first | rfl | omega) rfl (host := "") (.inl kw_948) dX12_song_75 (fun h22 => ?_)
              refine gw_iconst F dX12_song_78 ?_
              refine gw_iload_n F 3 rfl rfl dX12_song_79 ?_
              refine gw_imul F rfl dX12_song_80 ?_
              refine gw_iconst F dX12_song_81 ?_
              refine gw_iadd F rfl dX12_song_82 ?_
              obtain ⟨⟨b230, b231⟩, hf⟩ := hf
              refine gw_iald F (sa_65 hst) b230 b231 dX12_song_83 (fun h24 => ?_)
              refine gw_iadd F rfl dX12_song_84 ?_
              obtain ⟨⟨b250, b251⟩, hf⟩ := hf
              obtain ⟨g26, hf⟩ := hf
              obtain ⟨v27, e28⟩ : ∃ z : Int, z = ((256 * (s_52 65 (2 * x3_52))) + (s_52 65 ((2 * x3_52) + 1))) := ⟨_, rfl⟩
              have hf := hf v27 e28
              refine gw_nmI e28 ?_
              obtain ⟨s29, e30⟩ : ∃ z : sg_M, z = sg_up s_52 81 x3_52 v27 := ⟨_, rfl⟩
              have hf := hf s29 e30
              refine gw_iast F (sa_81 hst) b250 b251 (e28 ▸ g26) e30 dX12_song_85 ?_
              refine gw_aload_n F 0 rfl rfl (by decide) dX12_song_86 ?_
              refine gw_get7 F (so_64 hst) (by decide) rfl sg_lay_RX12 (j := 47) (by decide) (o1 := 81) (by first | rfl | omega) rfl (host := "") (.inl kw_994) dX12_song_87 (fun h31 => ?_)
              refine gw_iload_n F 3 rfl rfl dX12_song_90 ?_
              obtain ⟨⟨b320, b321⟩, hf⟩ := hf
              refine gw_iald F (sa_81 hst) b320 b321 dX12_song_91 (fun h33 => ?_)
              refine gw_iconst F dX12_song_92 ?_
              refine gw_sipush F rfl dX12_song_93 ?_
              refine gk_PZ F (gc_S F (S := []) (As := [sg_i (s29 81 x3_52), sg_i 1, sg_i 2000]) (CX12_isIn h33 (by decide) (by decide) hf) kw_1075 kw_103 kw_1073 kw_1074 hcX12_isIn ⟨by decide, by decide⟩ rfl rfl (Nat.le_of_ble_eq_true rfl) ⟨by decide, by decide⟩ dX12_song_96) (fun u34 h35 hf => ?_)
              refine gw_if_ne F (tgt := 105) dX12_song_99 (by decide) (sg_B_R h35) (fun c36 => ?_) (fun c36 => ?_)
              · have hf := hf.1 c36
                refine gw_iinc F (z := (x3_52 + 1)) 3 rfl (by omega) (by decide) rfl dX12_song_105 ?_
                refine gw_goto F (tgt := 52) dX12_song_108 (by decide) ?_
                obtain ⟨g37, hf⟩ := hf
                refine gw_sub [1, 2, 3, 0] rfl ?_
                exact ih s29 (x3_52 + 1) g37 hf
              · have hf := hf.2 c36
                refine gw_bipush F rfl dX12_song_102 ?_
                exact gr_HI F (by decide) hf (by decide) (by decide) dX12_song_104
        obtain ⟨n38, hf⟩ := hf
        refine gw_sub [2, 3, 1, 0] rfl ?_
        refine L52 _ (fun s_111e52 hf => ?_) n38 s6 0 (by decide) hf
        refine gw_aload_n F 0 rfl rfl (by decide) dX12_song_111 ?_
        refine gk_HV F (gc_V F (S := []) (As := []) (T := TX12) (N := 62) (CX12_sing hst hf) (so_64 hst) (by decide) rfl kw_1223 kw_103 kw_1221 kw_1222 kw_74 hcX12_sing ⟨by decide, by decide⟩ rfl rfl (Nat.le_of_ble_eq_true rfl) ⟨by decide, by decide⟩ dX12_song_112) (fun s39 hf => ?_)
        refine gw_iload_n F 2 rfl rfl dX12_song_115 ?_
        refine gw_iconst F dX12_song_116 ?_
        refine gw_isub F rfl dX12_song_117 ?_
        refine gw_istore_n F rfl (by decide) rfl dX12_song_118 ?_
        have L119 : ∀ (k302 : sg_M → Prop) (hk302 : ∀ (s_302e119 : sg_M), k302 s_302e119 → sg_W p l e (sg_rm 7 0 0) s m args below meth c (MQ below (sg_Q (some .int) G La s.heap.size (sg_HI La Q)) args s 0 0 (sg_A La s.heap.size)) 7 G (sg_A La s.heap.size) La s_302e119 0 0 302 [(0, sg_r 64), (2, sg_i (Int.tdiv u4 2))] []), ∀ n_119 : Nat, ∀ (s_119 : sg_M) (x3_119 : Int), sg_R x3_119 → fX12_song_L119 x1 u4 k302 n_119 s_119 x3_119 → sg_W p l e (sg_rm 7 0 0) s m args below meth c (MQ below (sg_Q (some .int) G La s.heap.size (sg_HI La Q)) args s 0 0 (sg_A La s.heap.size)) 7 G (sg_A La s.heap.size) La s_119 0 0 119 [(0, sg_r 64), (1, sg_i x1), (2, sg_i (Int.tdiv u4 2)), (3, sg_i x3_119)] [] := by
          intro k302 hk302 n_119
          induction n_119 with
          | zero => intro s_119 x3_119 r3_119 hf; exact hf.elim
          | succ n_119 ih =>
            intro s_119 x3_119 r3_119 hf
            unfold fX12_song_L119 at hf
            refine gw_iload_n F 3 rfl rfl dX12_song_119 ?_
            refine gw_if_lt F (tgt := 302) dX12_song_120 (by decide) r3_119 (fun c40 => ?_) (fun c40 => ?_)
            · have hf := hf.1 c40
              refine gw_sub [0, 2] rfl ?_
              exact hk302 s_119 hf
            · have hf := hf.2 c40
              refine gw_iconst F dX12_song_123 ?_
              refine gw_istore F (by decide) rfl dX12_song_124 ?_
              have L126 : ∀ (k296 : sg_M → Prop) (hk296 : ∀ (s_296e126 : sg_M), k296 s_296e126 → sg_W p l e (sg_rm 7 0 0) s m args below meth c (MQ below (sg_Q (some .int) G La s.heap.size (sg_HI La Q)) args s 0 0 (sg_A La s.heap.size)) 7 G (sg_A La s.heap.size) La s_296e126 0 0 296 [(0, sg_r 64), (1, sg_i x1), (2, sg_i (Int.tdiv u4 2)), (3, sg_i x3_119)] []), ∀ n_126 : Nat, ∀ (s_126 : sg_M) (x4_126 : Int), sg_R x4_126 → fX12_song_L126 x1 u4 x3_119 k296 n_126 s_126 x4_126 → sg_W p l e (sg_rm 7 0 0) s m args below meth c (MQ below (sg_Q (some .int) G La s.heap.size (sg_HI La Q)) args s 0 0 (sg_A La s.heap.size)) 7 G (sg_A La s.heap.size) La s_126 0 0 126 [(0, sg_r 64), (1, sg_i x1), (2, sg_i (Int.tdiv u4 2)), (3, sg_i x3_119), (4, sg_i x4_126)] [] := by
                intro k296 hk296 n_126
                induction n_126 with
                | zero => intro s_126 x4_126 r4_126 hf; exact hf.elim
                | succ n_126 ih =>
                  intro s_126 x4_126 r4_126 hf
                  unfold fX12_song_L126 at hf
                  refine gw_iload F 4 rfl dX12_song_126 ?_
                  refine gw_aload_n F 0 rfl rfl (by decide) dX12_song_128 ?_
                  refine gk_PI F (gc_V F (S := [sg_i x4_126]) (As := []) (T := TX12) (N := 62) (CX12_bends hst hf) (so_64 hst) (by decide) rfl kw_1203 kw_103 kw_1201 kw_1202 kw_70 hcX12_bends ⟨by decide, by decide⟩ rfl rfl (Nat.le_of_ble_eq_true rfl) ⟨by decide, by decide⟩ dX12_song_129) (fun u41 h42 hf => ?_)
                  refine gw_icmp_ge F (tgt := 296) dX12_song_132 (by decide) r4_126 h42 (fun c43 => ?_) (fun c43 => ?_)
                  · have hf := hf.1 c43
                    refine gw_sub [0, 1, 2, 3] rfl ?_
                    exact hk296 s_126 hf
                  · have hf := hf.2 c43
                    refine gw_iload_n F 3 rfl rfl dX12_song_135 ?_
                    refine gw_iload_n F 2 rfl rfl dX12_song_136 ?_
                    refine gw_iconst F dX12_song_137 ?_
                    refine gw_isub F rfl dX12_song_138 ?_
                    have J149 : ∀ (y0_149 : Int), sg_R y0_149 → (fX12_song_j149 x1 u4 x3_119 s_126 x4_126 (fX12_song_L126 x1 u4 x3_119 k296 n_126)) y0_149 → sg_W p l e (sg_rm 7 0 0) s m args below meth c (MQ below (sg_Q (some .int) G La s.heap.size (sg_HI La Q)) args s 0 0 (sg_A La s.heap.size)) 7 G (sg_A La s.heap.size) La s_126 0 0 149 [(0, sg_r 64), (1, sg_i x1), (2, sg_i (Int.tdiv u4 2)), (3, sg_i x3_119), (4, sg_i x4_126)] [sg_i y0_149] := by
                      intro y0_149 ry0_149 hf
                      unfold fX12_song_j149 at hf
                      refine gw_istore F (by decide) rfl dX12_song_149 ?_
                      refine gw_iconst F dX12_song_151 ?_
                      refine gw_istore F (by decide) rfl dX12_song_152 ?_
                      have L154 : ∀ (k249 : Int → Prop) (hk249 : ∀ (x5_249e154 : Int), sg_R x5_249e154 → k249 x5_249e154 → sg_W p l e (sg_rm 7 0 0) s m args below meth c (MQ below (sg_Q (some .int) G La s.heap.size (sg_HI La Q)) args s 0 0 (sg_A La s.heap.size)) 7 G (sg_A La s.heap.size) La s_126 0 0 249 [(0, sg_r 64), (1, sg_i x1), (2, sg_i (Int.tdiv u4 2)), (3, sg_i x3_119), (4, sg_i x4_126), (5, sg_i x5_249e154)] []), ∀ n_154 : Nat, ∀ (x5_154 : Int) (x6_154 : Int), sg_R x5_154 → sg_R x6_154 → fX12_song_L154 u4 x3_119 s_126 x4_126 k249 n_154 x5_154 x6_154 → sg_W p l e (sg_rm 7 0 0) s m args below meth c (MQ below (sg_Q (some .int) G La s.heap.size (sg_HI La Q)) args s 0 0 (sg_A La s.heap.size)) 7 G (sg_A La s.heap.size) La s_126 0 0 154 [(0, sg_r 64), (1, sg_i x1), (2, sg_i (Int.tdiv u4 2)), (3, sg_i x3_119), (4, sg_i x4_126), (5, sg_i x5_154), (6, sg_i x6_154)] [] := by
                        intro k249 hk249 n_154
                        induction n_154 with
                        | zero => intro x5_154 x6_154 r5_154 r6_154 hf; exact hf.elim
                        | succ n_154 ih =>
                          intro x5_154 x6_154 r5_154 r6_154 hf
                          unfold fX12_song_L154 at hf
                          refine gw_iload F 6 rfl dX12_song_154 ?_
                          refine gw_aload_n F 0 rfl rfl (by decide) dX12_song_156 ?_
                          refine gk_PI F (gc_V F (S := [sg_i x6_154]) (As := []) (T := TX12) (N := 62) (CX12_bends hst hf) (so_64 hst) (by decide) rfl kw_1203 kw_103 kw_1201 kw_1202 kw_70 hcX12_bends ⟨by decide, by decide⟩ rfl rfl (Nat.le_of_ble_eq_true rfl) ⟨by decide, by decide⟩ dX12_song_157) (fun u44 h45 hf => ?_)
                          refine gw_icmp_ge F (tgt := 249) dX12_song_160 (by decide) r6_154 h45 (fun c46 => ?_) (fun c46 => ?_)
                          · have hf := hf.1 c46
                            refine gw_sub [0, 1, 2, 3, 4, 5] rfl ?_
                            exact hk249 x5_154 r5_154 hf
                          · have hf := hf.2 c46
                            refine gw_iload_n F 3 rfl rfl dX12_song_163 ?_
                            refine gw_iload_n F 2 rfl rfl dX12_song_164 ?_
                            refine gw_iconst F dX12_song_165 ?_
                            refine gw_isub F rfl dX12_song_166 ?_
                            obtain ⟨g47, hf⟩ := hf
                            refine gw_icmp_ge F (tgt := 249) dX12_song_167 (by decide) r3_119 g47 (fun c48 => ?_) (fun c48 => ?_)
                            · have hf := hf.1 c48
                              refine gw_sub [0, 1, 2, 3, 4, 5] rfl ?_
                              exact hk249 x5_154 r5_154 hf
                            · have hf := hf.2 c48
                              refine gw_aload_n F 0 rfl rfl (by decide) dX12_song_170 ?_
                              refine gw_get7 F (so_64 hst) (by decide) rfl sg_lay_RX12 (j := 48) (by decide) (o1 := 82) (by first | rfl | omega) rfl (host := "") (.inl kw_995) dX12_song_171 (fun h49 => ?_)
                              refine gw_bipush F rfl dX12_song_174 ?_
                              refine gw_iload_n F 3 rfl rfl dX12_song_176 ?_
                              refine gw_iconst F dX12_song_177 ?_
                              refine gw_iadd F rfl dX12_song_178 ?_
                              refine gw_imul F rfl dX12_song_179 ?_
                              refine gw_iload F 6 rfl dX12_song_180 ?_
                              refine gw_iadd F rfl dX12_song_182 ?_
                              obtain ⟨⟨b500, b501⟩, hf⟩ := hf
                              refine gw_iald F (sa_82 hst) b500 b501 dX12_song_183 (fun h51 => ?_)
                              refine gw_ldcw F (n := 100000000) kw_1228 rfl dX12_song_184 ?_
                              have J243 : ∀ (x5_243 : Int), sg_R x5_243 → (fX12_song_j243 x6_154 (fX12_song_L154 u4 x3_119 s_126 x4_126 k249 n_154)) x5_243 → sg_W p l e (sg_rm 7 0 0) s m args below meth c (MQ below (sg_Q (some .int) G La s.heap.size (sg_HI La Q)) args s 0 0 (sg_A La s.heap.size)) 7 G (sg_A La s.heap.size) La s_126 0 0 243 [(0, sg_r 64), (1, sg_i x1), (2, sg_i (Int.tdiv u4 2)), (3, sg_i x3_119), (4, sg_i x4_126), (5, sg_i x5_243), (6, sg_i x6_154)] [] := by
                                intro x5_243 r5_243 hf
                                unfold fX12_song_j243 at hf
                                refine gw_iinc F (z := (x6_154 + 1)) 6 rfl (by omega) (by decide) rfl dX12_song_243 ?_
                                refine gw_goto F (tgt := 154) dX12_song_246 (by decide) ?_
                                obtain ⟨g52, hf⟩ := hf
                                refine gw_sub [1, 2, 3, 4, 5, 6, 0] rfl ?_
                                exact ih x5_243 (x6_154 + 1) r5_243 g52 hf
                              refine gw_icmp_ge F (tgt := 243) dX12_song_187 (by decide) h51 (by decide) (fun c53 => ?_) (fun c53 => ?_)
                              · have hf := hf.1 c53
                                refine gw_sub [0, 1, 2, 3, 4, 5, 6] rfl ?_
                                exact J243 x5_154 r5_154 hf
                              · have hf := hf.2 c53
                                refine gw_aload_n F 0 rfl rfl (by decide) dX12_song_190 ?_
                                refine gw_iload F 4 rfl dX12_song_191 ?_
                                refine gw_iload F 6 rfl dX12_song_193 ?_
                                refine gk_PI F (gc_V F (S := []) (As := [sg_i x4_126, sg_i x6_154]) (T := TX12) (N := 62) (CX12_way hst r4_126 r6_154 hf) (so_64 hst) (by decide) rfl kw_1231 kw_103 kw_1229 kw_1230 kw_75 hcX12_way ⟨by decide, by decide⟩ rfl rfl (Nat.le_of_ble_eq_true rfl) ⟨by decide, by decide⟩ dX12_song_195) (fun u54 h55 hf => ?_)
                                refine gw_aload_n F 0 rfl rfl (by decide) dX12_song_198 ?_
                                refine gw_get7 F (so_64 hst) (by decide) rfl sg_lay_RX12 (j := 48) (by decide) (o1 := 82) (by first | rfl | omega) rfl (host := "") (.inl kw_995) dX12_song_199 (fun h56 => ?_)
                                refine gw_bipush F rfl dX12_song_202 ?_
                                refine gw_iload_n F 3 rfl rfl dX12_song_204 ?_
                                refine gw_iconst F dX12_song_205 ?_
                                refine gw_iadd F rfl dX12_song_206 ?_
                                refine gw_imul F rfl dX12_song_207 ?_
                                refine gw_iload F 6 rfl dX12_song_208 ?_
                                refine gw_iadd F rfl dX12_song_210 ?_
                                obtain ⟨⟨b570, b571⟩, hf⟩ := hf
                                refine gw_iald F (sa_82 hst) b570 b571 dX12_song_211 (fun h58 => ?_)
                                refine gw_iadd F rfl dX12_song_212 ?_
                                refine gw_iload F 5 rfl dX12_song_213 ?_
                                obtain ⟨g59, hf⟩ := hf
                                refine gw_icmp_ge F (tgt := 243) dX12_song_215 (by decide) g59 r5_154 (fun c60 => ?_) (fun c60 => ?_)
                                · have hf := hf.1 c60
                                  refine gw_sub [0, 1, 2, 3, 4, 5, 6] rfl ?_
                                  exact J243 x5_154 r5_154 hf
                                · have hf := hf.2 c60
                                  refine gw_aload_n F 0 rfl rfl (by decide) dX12_song_218 ?_
                                  refine gw_iload F 4 rfl dX12_song_219 ?_
                                  refine gw_iload F 6 rfl dX12_song_221 ?_
                                  refine gk_PI F (gc_V F (S := []) (As := [sg_i x4_126, sg_i x6_154]) (T := TX12) (N := 62) (CX12_way hst r4_126 r6_154 hf) (so_64 hst) (by decide) rfl kw_1231 kw_103 kw_1229 kw_1230 kw_75 hcX12_way ⟨by decide, by decide⟩ rfl rfl (Nat.le_of_ble_eq_true rfl) ⟨by decide, by decide⟩ dX12_song_223) (fun u61 h62 hf => ?_)
                                  refine gw_aload_n F 0 rfl rfl (by decide) dX12_song_226 ?_
                                  refine gw_get7 F (so_64 hst) (by decide) rfl sg_lay_RX12 (j := 48) (by decide) (o1 := 82) (by first | rfl | omega) rfl (host := "") (.inl kw_995) dX12_song_227 (fun h63 => ?_)
                                  refine gw_bipush F rfl dX12_song_230 ?_
                                  refine gw_iload_n F 3 rfl rfl dX12_song_232 ?_
                                  refine gw_iconst F dX12_song_233 ?_
                                  refine gw_iadd F rfl dX12_song_234 ?_
                                  refine gw_imul F rfl dX12_song_235 ?_
                                  refine gw_iload F 6 rfl dX12_song_236 ?_
                                  refine gw_iadd F rfl dX12_song_238 ?_
                                  obtain ⟨⟨b640, b641⟩, hf⟩ := hf
                                  refine gw_iald F (sa_82 hst) b640 b641 dX12_song_239 (fun h65 => ?_)
                                  refine gw_iadd F rfl dX12_song_240 ?_
                                  obtain ⟨v66, e67⟩ : ∃ z : Int, z = (u61 + (s_126 82 ((40 * (x3_119 + 1)) + x6_154))) := ⟨_, rfl⟩
                                  obtain ⟨g68, hf⟩ := hf v66 e67
                                  refine gw_nmI e67 ?_
                                  refine gw_istore F (by decide) rfl dX12_song_241 ?_
                                  refine gw_sub [1, 2, 3, 4, 5, 0, 6] rfl ?_
                                  exact J243 v66 g68 hf
                      obtain ⟨n69, hf⟩ := hf
                      refine gw_sub [2, 3, 4, 5, 6, 1, 0] rfl ?_
                      refine L154 _ (fun x5_249e154 r5_249e154 hf => ?_) n69 y0_149 0 ry0_149 (by decide) hf
                      refine gw_aload_n F 0 rfl rfl (by decide) dX12_song_249 ?_
                      refine gw_get7 F (so_64 hst) (by decide) rfl sg_lay_RX12 (j := 48) (by decide) (o1 := 82) (by first | rfl | omega) rfl (host := "") (.inl kw_995) dX12_song_250 (fun h70 => ?_)
                      refine gw_bipush F rfl dX12_song_253 ?_
                      refine gw_iload_n F 3 rfl rfl dX12_song_255 ?_
                      refine gw_imul F rfl dX12_song_256 ?_
                      refine gw_iload F 4 rfl dX12_song_257 ?_
                      refine gw_iadd F rfl dX12_song_259 ?_
                      refine gw_aload_n F 0 rfl rfl (by decide) dX12_song_260 ?_
                      refine gw_aload_n F 0 rfl rfl (by decide) dX12_song_261 ?_
                      refine gw_get7 F (so_64 hst) (by decide) rfl sg_lay_RX12 (j := 46) (by decide) (o1 := 80) (by first | rfl | omega) rfl (host := "") (.inl kw_993) dX12_song_262 (fun h71 => ?_)
                      refine gw_iload F 4 rfl dX12_song_265 ?_
                      obtain ⟨⟨b720, b721⟩, hf⟩ := hf
                      refine gw_iald F (sa_80 hst) b720 b721 dX12_song_267 (fun h73 => ?_)
                      refine gw_aload_n F 0 rfl rfl (by decide) dX12_song_268 ?_
                      refine gw_get7 F (so_64 hst) (by decide) rfl sg_lay_RX12 (j := 47) (by decide) (o1 := 81) (by first | rfl | omega) rfl (host := "") (.inl kw_994) dX12_song_269 (fun h74 => ?_)
                      refine gw_iload_n F 3 rfl rfl dX12_song_272 ?_
                      obtain ⟨⟨b750, b751⟩, hf⟩ := hf
                      refine gw_iald F (sa_81 hst) b750 b751 dX12_song_273 (fun h76 => ?_)
                      refine gw_iload_n F 1 rfl rfl dX12_song_274 ?_
                      refine gk_PZ F (gc_V F (S := [sg_i ((40 * x3_119) + x4_126), sg_r 82]) (As := [sg_i (s_126 80 x4_126), sg_i (s_126 81 x3_119), sg_i x1]) (T := TX12) (N := 62) (CX12_isNear hst h73 h76 r1 hf) (so_64 hst) (by decide) rfl kw_1237 kw_103 kw_1235 kw_1236 kw_76 hcX12_isNear ⟨by decide, by decide⟩ rfl rfl (Nat.le_of_ble_eq_true rfl) ⟨by decide, by decide⟩ dX12_song_275) (fun u77 h78 hf => ?_)
                      have J289 : ∀ (y0_289 : Int), sg_R y0_289 → (fX12_song_j289 x3_119 s_126 x4_126 (fX12_song_L126 x1 u4 x3_119 k296 n_126)) y0_289 → sg_W p l e (sg_rm 7 0 0) s m args below meth c (MQ below (sg_Q (some .int) G La s.heap.size (sg_HI La Q)) args s 0 0 (sg_A La s.heap.size)) 7 G (sg_A La s.heap.size) La s_126 0 0 289 [(0, sg_r 64), (1, sg_i x1), (2, sg_i (Int.tdiv u4 2)), (3, sg_i x3_119), (4, sg_i x4_126)] [sg_i y0_289, sg_i ((40 * x3_119) + x4_126), sg_r 82] := by
                        intro y0_289 ry0_289 hf
                        unfold fX12_song_j289 at hf
                        obtain ⟨⟨b790, b791⟩, hf⟩ := hf
                        obtain ⟨s80, e81⟩ : ∃ z : sg_M, z = sg_up s_126 82 ((40 * x3_119) + x4_126) y0_289 := ⟨_, rfl⟩
                        have hf := hf s80 e81
                        refine gw_iast F (sa_82 hst) b790 b791 ry0_289 e81 dX12_song_289 ?_
                        refine gw_iinc F (z := (x4_126 + 1)) 4 rfl (by omega) (by decide) rfl dX12_song_290 ?_
                        refine gw_goto F (tgt := 126) dX12_song_293 (by decide) ?_
                        obtain ⟨g82, hf⟩ := hf
                        refine gw_sub [1, 2, 3, 4, 0] rfl ?_
                        exact ih s80 (x4_126 + 1) g82 hf
                      refine gw_if_eq F (tgt := 286) dX12_song_278 (by decide) (sg_B_R h78) (fun c83 => ?_) (fun c83 => ?_)
                      · have hf := hf.1 c83
                        refine gw_ldcw F (n := 100000000) kw_1228 rfl dX12_song_286 ?_
                        refine gw_sub [0, 1, 2, 3, 4] rfl ?_
                        exact J289 100000000 (by decide) hf
                      · have hf := hf.2 c83
                        refine gw_iload F 5 rfl dX12_song_281 ?_
                        refine gw_goto F (tgt := 289) dX12_song_283 (by decide) ?_
                        refine gw_sub [0, 1, 2, 3, 4] rfl ?_
                        exact J289 x5_249e154 r5_249e154 hf
                    obtain ⟨g84, hf⟩ := hf
                    refine gw_icmp_ne F (tgt := 146) dX12_song_139 (by decide) r3_119 g84 (fun c85 => ?_) (fun c85 => ?_)
                    · have hf := hf.1 c85
                      refine gw_ldcw F (n := 100000000) kw_1228 rfl dX12_song_146 ?_
                      refine gw_sub [0, 1, 2, 3, 4] rfl ?_
                      exact J149 100000000 (by decide) hf
                    · have hf := hf.2 c85
                      refine gw_iconst F dX12_song_142 ?_
                      refine gw_goto F (tgt := 149) dX12_song_143 (by decide) ?_
                      refine gw_sub [0, 1, 2, 3, 4] rfl ?_
                      exact J149 0 (by decide) hf
              obtain ⟨n86, hf⟩ := hf
              refine gw_sub [1, 2, 3, 4, 0] rfl ?_
              refine L126 _ (fun s_296e126 hf => ?_) n86 s_119 0 (by decide) hf
              refine gw_iinc F (z := (x3_119 - 1)) 3 rfl (by omega) (by decide) rfl dX12_song_296 ?_
              refine gw_goto F (tgt := 119) dX12_song_299 (by decide) ?_
              obtain ⟨g87, hf⟩ := hf
              refine gw_sub [1, 2, 3, 0] rfl ?_
              exact ih s_296e126 (x3_119 - 1) g87 hf
        obtain ⟨g88, hf⟩ := hf
        obtain ⟨n89, hf⟩ := hf
        refine gw_sub [1, 2, 3, 0] rfl ?_
        refine L119 _ (fun s_302e119 hf => ?_) n89 s39 ((Int.tdiv u4 2) - 1) g88 hf
        refine gw_iconst F dX12_song_302 ?_
        refine gw_istore_n F rfl (by decide) rfl dX12_song_303 ?_
        refine gw_iconst F dX12_song_304 ?_
        refine gw_istore F (by decide) rfl dX12_song_305 ?_
        have L307 : ∀ (k359 : Int → Prop) (hk359 : ∀ (x3_359e307 : Int), sg_R x3_359e307 → k359 x3_359e307 → sg_W p l e (sg_rm 7 0 0) s m args below meth c (MQ below (sg_Q (some .int) G La s.heap.size (sg_HI La Q)) args s 0 0 (sg_A La s.heap.size)) 7 G (sg_A La s.heap.size) La s_302e119 0 0 359 [(0, sg_r 64), (2, sg_i (Int.tdiv u4 2)), (3, sg_i x3_359e307)] []), ∀ n_307 : Nat, ∀ (x3_307 : Int) (x4_307 : Int), sg_R x3_307 → sg_R x4_307 → fX12_song_L307 s_302e119 k359 n_307 x3_307 x4_307 → sg_W p l e (sg_rm 7 0 0) s m args below meth c (MQ below (sg_Q (some .int) G La s.heap.size (sg_HI La Q)) args s 0 0 (sg_A La s.heap.size)) 7 G (sg_A La s.heap.size) La s_302e119 0 0 307 [(0, sg_r 64), (2, sg_i (Int.tdiv u4 2)), (3, sg_i x3_307), (4, sg_i x4_307)] [] := by
          intro k359 hk359 n_307
          induction n_307 with
          | zero => intro x3_307 x4_307 r3_307 r4_307 hf; exact hf.elim
          | succ n_307 ih =>
            intro x3_307 x4_307 r3_307 r4_307 hf
            unfold fX12_song_L307 at hf
            refine gw_iload F 3 rfl dX12_song_307 ?_
            refine gw_aload_n F 0 rfl rfl (by decide) dX12_song_309 ?_
            refine gk_PI F (gc_V F (S := [sg_i x4_307]) (As := []) (T := TX12) (N := 62) (CX12_bends hst hf) (so_64 hst) (by decide) rfl kw_1203 kw_103 kw_1201 kw_1202 kw_70 hcX12_bends ⟨by decide, by decide⟩ rfl rfl (Nat.le_of_ble_eq_true rfl) ⟨by decide, by decide⟩ dX12_song_310) (fun u90 h91 hf => ?_)
            refine gw_icmp_ge F (tgt := 359) dX12_song_313 (by decide) r4_307 h91 (fun c92 => ?_) (fun c92 => ?_)
            · have hf := hf.1 c92
              refine gw_sub [0, 1, 2] rfl ?_
              exact hk359 x3_307 r3_307 hf
            · have hf := hf.2 c92
              refine gw_aload_n F 0 rfl rfl (by decide) dX12_song_316 ?_
              refine gw_get7 F (so_64 hst) (by decide) rfl sg_lay_RX12 (j := 48) (by decide) (o1 := 82) (by first | rfl | omega) rfl (host := "") (.inl kw_995) dX12_song_317 (fun h93 => ?_)
              refine gw_iload F 3 rfl dX12_song_320 ?_
              obtain ⟨⟨b940, b941⟩, hf⟩ := hf
              refine gw_iald F (sa_82 hst) b940 b941 dX12_song_322 (fun h95 => ?_)
              refine gw_ldcw F (n := 100000000) kw_1228 rfl dX12_song_323 ?_
              have J353 : ∀ (x3_353 : Int), sg_R x3_353 → (fX12_song_j353 x4_307 (fX12_song_L307 s_302e119 k359 n_307)) x3_353 → sg_W p l e (sg_rm 7 0 0) s m args below meth c (MQ below (sg_Q (some .int) G La s.heap.size (sg_HI La Q)) args s 0 0 (sg_A La s.heap.size)) 7 G (sg_A La s.heap.size) La s_302e119 0 0 353 [(0, sg_r 64), (2, sg_i (Int.tdiv u4 2)), (3, sg_i x3_353), (4, sg_i x4_307)] [] := by
                intro x3_353 r3_353 hf
                unfold fX12_song_j353 at hf
                refine gw_iinc F (z := (x4_307 + 1)) 3 rfl (by omega) (by decide) rfl dX12_song_353 ?_
                refine gw_goto F (tgt := 307) dX12_song_356 (by decide) ?_
                obtain ⟨g96, hf⟩ := hf
                refine gw_sub [1, 2, 3, 0] rfl ?_
                exact ih x3_353 (x4_307 + 1) r3_353 g96 hf
              refine gw_icmp_ge F (tgt := 353) dX12_song_326 (by decide) h95 (by decide) (fun c97 => ?_) (fun c97 => ?_)
              · have hf := hf.1 c97
                refine gw_sub [0, 1, 2, 3] rfl ?_
                exact J353 x3_307 r3_307 hf
              · have hf := hf.2 c97
                refine gw_iload_n F 2 rfl rfl dX12_song_329 ?_
                refine gw_iconst F dX12_song_330 ?_
                have J350 : (fX12_song_j350 x4_307 (fX12_song_j353 x4_307 (fX12_song_L307 s_302e119 k359 n_307))) → sg_W p l e (sg_rm 7 0 0) s m args below meth c (MQ below (sg_Q (some .int) G La s.heap.size (sg_HI La Q)) args s 0 0 (sg_A La s.heap.size)) 7 G (sg_A La s.heap.size) La s_302e119 0 0 350 [(0, sg_r 64), (2, sg_i (Int.tdiv u4 2)), (4, sg_i x4_307)] [] := by
                  intro hf
                  unfold fX12_song_j350 at hf
                  refine gw_iload F 2 rfl dX12_song_350 ?_
                  refine gw_istore_n F rfl (by decide) rfl dX12_song_352 ?_
                  refine gw_sub [1, 2, 0, 3] rfl ?_
                  exact J353 x4_307 r4_307 hf
                refine gw_icmp_eq F (tgt := 350) dX12_song_331 (by decide) r3_307 (by decide) (fun c98 => ?_) (fun c98 => ?_)
                · have hf := hf.1 c98
                  refine gw_sub [0, 1, 3] rfl ?_
                  exact J350  hf
                · have hf := hf.2 c98
                  refine gw_aload_n F 0 rfl rfl (by decide) dX12_song_334 ?_
                  refine gw_get7 F (so_64 hst) (by decide) rfl sg_lay_RX12 (j := 48) (by decide) (o1 := 82) (by first | rfl | omega) rfl (host := "") (.inl kw_995) dX12_song_335 (fun h99 => ?_)
                  refine gw_iload F 3 rfl dX12_song_338 ?_
                  obtain ⟨⟨b1000, b1001⟩, hf⟩ := hf
                  refine gw_iald F (sa_82 hst) b1000 b1001 dX12_song_340 (fun h101 => ?_)
                  refine gw_aload_n F 0 rfl rfl (by decide) dX12_song_341 ?_
                  refine gw_get7 F (so_64 hst) (by decide) rfl sg_lay_RX12 (j := 48) (by decide) (o1 := 82) (by first | rfl | omega) rfl (host := "") (.inl kw_995) dX12_song_342 (fun h102 => ?_)
                  refine gw_iload_n F 2 rfl rfl dX12_song_345 ?_
                  obtain ⟨⟨b1030, b1031⟩, hf⟩ := hf
                  refine gw_iald F (sa_82 hst) b1030 b1031 dX12_song_346 (fun h104 => ?_)
                  refine gw_icmp_ge F (tgt := 353) dX12_song_347 (by decide) h101 h104 (fun c105 => ?_) (fun c105 => ?_)
                  · have hf := hf.1 c105
                    refine gw_sub [0, 1, 2, 3] rfl ?_
                    exact J353 x3_307 r3_307 hf
                  · have hf := hf.2 c105
                    refine gw_sub [0, 1, 3] rfl ?_
                    exact J350  hf
        obtain ⟨n106, hf⟩ := hf
        refine gw_sub [2, 3, 1, 0] rfl ?_
        refine L307 _ (fun x3_359e307 r3_359e307 hf => ?_) n106 (-1) 0 (by decide) (by decide) hf
        refine gw_iload_n F 2 rfl rfl dX12_song_359 ?_
        refine gw_iconst F dX12_song_360 ?_
        refine gw_icmp_ne F (tgt := 366) dX12_song_361 (by decide) r3_359e307 (by decide) (fun c107 => ?_) (fun c107 => ?_)
        · have hf := hf.1 c107
          refine gw_aload_n F 0 rfl rfl (by decide) dX12_song_366 ?_
          refine gw_iload_n F 1 rfl rfl dX12_song_367 ?_
          obtain ⟨g108, hf⟩ := hf
          obtain ⟨s109, e110⟩ : ∃ z : sg_M, z = sg_up s_302e119 64 50 (Int.tdiv u4 2) := ⟨_, rfl⟩
          have hf := hf s109 e110
          refine gw_put0 F (so_64 hst) (by decide) rfl sg_lay_RX12 (j := 50) (by decide) g108 e110 tyX12_ok nmX12 rfl (tyX12_ok 50 (by decide)) rfl (host := "") (.inl kw_997) dX12_song_368 ?_
          refine gw_aload_n F 0 rfl rfl (by decide) dX12_song_371 ?_
          refine gw_get7 F (so_64 hst) (by decide) rfl sg_lay_RX12 (j := 49) (by decide) (o1 := 83) (by first | rfl | omega) rfl (host := "") (.inl kw_996) dX12_song_372 (fun h111 => ?_)
          refine gw_iconst F dX12_song_375 ?_
          refine gw_iload_n F 2 rfl rfl dX12_song_376 ?_
          obtain ⟨s112, e113⟩ : ∃ z : sg_M, z = sg_up s109 83 0 x3_359e307 := ⟨_, rfl⟩
          have hf := hf s112 e113
          refine gw_iast F (sa_83 hst) (by decide) (by decide) r3_359e307 e113 dX12_song_377 ?_
          refine gw_iconst F dX12_song_378 ?_
          refine gw_istore F (by decide) rfl dX12_song_379 ?_
          have L381 : ∀ n_381 : Nat, ∀ (s_381 : sg_M) (x4_381 : Int), sg_R x4_381 → fX12_song_L381 u4 x3_359e307 Q n_381 s_381 x4_381 → sg_W p l e (sg_rm 7 0 0) s m args below meth c (MQ below (sg_Q (some .int) G La s.heap.size (sg_HI La Q)) args s 0 0 (sg_A La s.heap.size)) 7 G (sg_A La s.heap.size) La s_381 0 0 381 [(0, sg_r 64), (2, sg_i (Int.tdiv u4 2)), (3, sg_i x3_359e307), (4, sg_i x4_381)] [] := by
            intro n_381
            induction n_381 with
            | zero => intro s_381 x4_381 r4_381 hf; exact hf.elim
            | succ n_381 ih =>
              intro s_381 x4_381 r4_381 hf
              unfold fX12_song_L381 at hf
              refine gw_iload F 3 rfl dX12_song_381 ?_
              refine gw_iload_n F 1 rfl rfl dX12_song_383 ?_
              refine gw_icmp_ge F (tgt := 481) dX12_song_384 (by decide) r4_381 g108 (fun c114 => ?_) (fun c114 => ?_)
              · have hf := hf.1 c114
                refine gw_aload_n F 0 rfl rfl (by decide) dX12_song_481 ?_
                refine gw_get7 F (so_64 hst) (by decide) rfl sg_lay_RX12 (j := 48) (by decide) (o1 := 82) (by first | rfl | omega) rfl (host := "") (.inl kw_995) dX12_song_482 (fun h115 => ?_)
                refine gw_iload_n F 2 rfl rfl dX12_song_485 ?_
                obtain ⟨⟨b1160, b1161⟩, hf⟩ := hf
                refine gw_iald F (sa_82 hst) b1160 b1161 dX12_song_486 (fun h117 => ?_)
                exact gr_HI F h117 hf (by decide) (by decide) dX12_song_487
              · have hf := hf.2 c114
                refine gw_aload_n F 0 rfl rfl (by decide) dX12_song_387 ?_
                refine gw_get7 F (so_64 hst) (by decide) rfl sg_lay_RX12 (j := 49) (by decide) (o1 := 83) (by first | rfl | omega) rfl (host := "") (.inl kw_996) dX12_song_388 (fun h118 => ?_)
                refine gw_iload F 3 rfl dX12_song_391 ?_
                refine gw_iconst F dX12_song_393 ?_
                refine gw_isub F rfl dX12_song_394 ?_
                obtain ⟨⟨b1190, b1191⟩, hf⟩ := hf
                refine gw_iald F (sa_83 hst) b1190 b1191 dX12_song_395 (fun h120 => ?_)
                refine gw_istore F (by decide) rfl dX12_song_396 ?_
                refine gw_iconst F dX12_song_398 ?_
                refine gw_istore F (by decide) rfl dX12_song_399 ?_
                have L401 : ∀ (k466 : Int → Prop) (hk466 : ∀ (x6_466e401 : Int), sg_R x6_466e401 → k466 x6_466e401 → sg_W p l e (sg_rm 7 0 0) s m args below meth c (MQ below (sg_Q (some .int) G La s.heap.size (sg_HI La Q)) args s 0 0 (sg_A La s.heap.size)) 7 G (sg_A La s.heap.size) La s_381 0 0 466 [(0, sg_r 64), (2, sg_i (Int.tdiv u4 2)), (3, sg_i x3_359e307), (4, sg_i x4_381), (6, sg_i x6_466e401)] []), ∀ n_401 : Nat, ∀ (x6_401 : Int), sg_R x6_401 → fX12_song_L401 s_381 x4_381 k466 n_401 x6_401 → sg_W p l e (sg_rm 7 0 0) s m args below meth c (MQ below (sg_Q (some .int) G La s.heap.size (sg_HI La Q)) args s 0 0 (sg_A La s.heap.size)) 7 G (sg_A La s.heap.size) La s_381 0 0 401 [(0, sg_r 64), (2, sg_i (Int.tdiv u4 2)), (3, sg_i x3_359e307), (4, sg_i x4_381), (5, sg_i (s_381 83 (x4_381 - 1))), (6, sg_i x6_401)] [] := by
                  intro k466 hk466 n_401
                  induction n_401 with
                  | zero => intro x6_401 r6_401 hf; exact hf.elim
                  | succ n_401 ih =>
                    intro x6_401 r6_401 hf
                    unfold fX12_song_L401 at hf
                    refine gw_aload_n F 0 rfl rfl (by decide) dX12_song_401 ?_
                    refine gw_get7 F (so_64 hst) (by decide) rfl sg_lay_RX12 (j := 48) (by decide) (o1 := 82) (by first | rfl | omega) rfl (host := "") (.inl kw_995) dX12_song_402 (fun h121 => ?_)
                    refine gw_bipush F rfl dX12_song_405 ?_
                    refine gw_iload F 3 rfl dX12_song_407 ?_
                    refine gw_imul F rfl dX12_song_409 ?_
                    refine gw_iload F 5 rfl dX12_song_410 ?_
                    refine gw_iadd F rfl dX12_song_412 ?_
                    obtain ⟨⟨b1220, b1221⟩, hf⟩ := hf
                    refine gw_iald F (sa_82 hst) b1220 b1221 dX12_song_413 (fun h123 => ?_)
                    refine gw_ldcw F (n := 100000000) kw_1228 rfl dX12_song_414 ?_
                    have J460 : (fX12_song_j460 x6_401 (fX12_song_L401 s_381 x4_381 k466 n_401)) → sg_W p l e (sg_rm 7 0 0) s m args below meth c (MQ below (sg_Q (some .int) G La s.heap.size (sg_HI La Q)) args s 0 0 (sg_A La s.heap.size)) 7 G (sg_A La s.heap.size) La s_381 0 0 460 [(0, sg_r 64), (2, sg_i (Int.tdiv u4 2)), (3, sg_i x3_359e307), (4, sg_i x4_381), (5, sg_i (s_381 83 (x4_381 - 1))), (6, sg_i x6_401)] [] := by
                      intro hf
                      unfold fX12_song_j460 at hf
                      refine gw_iinc F (z := (x6_401 + 1)) 5 rfl (by omega) (by decide) rfl dX12_song_460 ?_
                      refine gw_goto F (tgt := 401) dX12_song_463 (by decide) ?_
                      obtain ⟨g124, hf⟩ := hf
                      refine gw_sub [1, 2, 3, 4, 5, 0] rfl ?_
                      exact ih (x6_401 + 1) g124 hf
                    refine gw_icmp_eq F (tgt := 460) dX12_song_417 (by decide) h123 (by decide) (fun c125 => ?_) (fun c125 => ?_)
                    · have hf := hf.1 c125
                      refine gw_sub [0, 1, 2, 3, 4, 5] rfl ?_
                      exact J460  hf
                    · have hf := hf.2 c125
                      refine gw_aload_n F 0 rfl rfl (by decide) dX12_song_420 ?_
                      refine gw_iload F 4 rfl dX12_song_421 ?_
                      refine gw_iload F 5 rfl dX12_song_423 ?_
                      refine gk_PI F (gc_V F (S := []) (As := [sg_i (s_381 83 (x4_381 - 1)), sg_i x6_401]) (T := TX12) (N := 62) (CX12_way hst h120 r6_401 hf) (so_64 hst) (by decide) rfl kw_1231 kw_103 kw_1229 kw_1230 kw_75 hcX12_way ⟨by decide, by decide⟩ rfl rfl (Nat.le_of_ble_eq_true rfl) ⟨by decide, by decide⟩ dX12_song_425) (fun u126 h127 hf => ?_)
                      refine gw_aload_n F 0 rfl rfl (by decide) dX12_song_428 ?_
                      refine gw_get7 F (so_64 hst) (by decide) rfl sg_lay_RX12 (j := 48) (by decide) (o1 := 82) (by first | rfl | omega) rfl (host := "") (.inl kw_995) dX12_song_429 (fun h128 => ?_)
                      refine gw_bipush F rfl dX12_song_432 ?_
                      refine gw_iload F 3 rfl dX12_song_434 ?_
                      refine gw_imul F rfl dX12_song_436 ?_
                      refine gw_iload F 5 rfl dX12_song_437 ?_
                      refine gw_iadd F rfl dX12_song_439 ?_
                      obtain ⟨⟨b1290, b1291⟩, hf⟩ := hf
                      refine gw_iald F (sa_82 hst) b1290 b1291 dX12_song_440 (fun h130 => ?_)
                      refine gw_iadd F rfl dX12_song_441 ?_
                      refine gw_aload_n F 0 rfl rfl (by decide) dX12_song_442 ?_
                      refine gw_get7 F (so_64 hst) (by decide) rfl sg_lay_RX12 (j := 48) (by decide) (o1 := 82) (by first | rfl | omega) rfl (host := "") (.inl kw_995) dX12_song_443 (fun h131 => ?_)
                      refine gw_bipush F rfl dX12_song_446 ?_
                      refine gw_iload F 3 rfl dX12_song_448 ?_
                      refine gw_iconst F dX12_song_450 ?_
                      refine gw_isub F rfl dX12_song_451 ?_
                      refine gw_imul F rfl dX12_song_452 ?_
                      refine gw_iload F 4 rfl dX12_song_453 ?_
                      refine gw_iadd F rfl dX12_song_455 ?_
                      obtain ⟨⟨b1320, b1321⟩, hf⟩ := hf
                      refine gw_iald F (sa_82 hst) b1320 b1321 dX12_song_456 (fun h133 => ?_)
                      obtain ⟨g134, hf⟩ := hf
                      refine gw_icmp_eq F (tgt := 466) dX12_song_457 (by decide) g134 h133 (fun c135 => ?_) (fun c135 => ?_)
                      · have hf := hf.1 c135
                        refine gw_sub [0, 1, 2, 3, 5] rfl ?_
                        exact hk466 x6_401 r6_401 hf
                      · have hf := hf.2 c135
                        refine gw_sub [0, 1, 2, 3, 4, 5] rfl ?_
                        exact J460  hf
                obtain ⟨n136, hf⟩ := hf
                refine gw_sub [2, 3, 4, 5, 1, 0] rfl ?_
                refine L401 _ (fun x6_466e401 r6_466e401 hf => ?_) n136 0 (by decide) hf
                refine gw_aload_n F 0 rfl rfl (by decide) dX12_song_466 ?_
                refine gw_get7 F (so_64 hst) (by decide) rfl sg_lay_RX12 (j := 49) (by decide) (o1 := 83) (by first | rfl | omega) rfl (host := "") (.inl kw_996) dX12_song_467 (fun h137 => ?_)
                refine gw_iload F 3 rfl dX12_song_470 ?_
                refine gw_iload F 4 rfl dX12_song_472 ?_
                obtain ⟨⟨b1380, b1381⟩, hf⟩ := hf
                obtain ⟨s139, e140⟩ : ∃ z : sg_M, z = sg_up s_381 83 x4_381 x6_466e401 := ⟨_, rfl⟩
                have hf := hf s139 e140
                refine gw_iast F (sa_83 hst) b1380 b1381 r6_466e401 e140 dX12_song_474 ?_
                refine gw_iinc F (z := (x4_381 + 1)) 3 rfl (by omega) (by decide) rfl dX12_song_475 ?_
                refine gw_goto F (tgt := 381) dX12_song_478 (by decide) ?_
                obtain ⟨g141, hf⟩ := hf
                refine gw_sub [1, 2, 3, 0] rfl ?_
                exact ih s139 (x4_381 + 1) g141 hf
          obtain ⟨n142, hf⟩ := hf
          refine gw_sub [1, 2, 3, 0] rfl ?_
          refine L381   n142 s112 1 (by decide) hf
        · have hf := hf.2 c107
          refine gw_iconst F dX12_song_364 ?_
          exact gr_HI F (by decide) hf (by decide) (by decide) dX12_song_365
      · have hf := hf.2 c15
        refine gw_bipush F rfl dX12_song_43 ?_
        exact gr_HI F (by decide) hf (by decide) (by decide) dX12_song_45

theorem dX12_take_0 : decode cX12_take 0 = .ok (.aload_n 0, 1) := by decide +kernel
theorem dX12_take_1 : decode cX12_take 1 = .ok (.iconst 0, 1) := by decide +kernel
theorem dX12_take_2 : decode cX12_take 2 = .ok (.putfield 84, 3) := by decide +kernel
theorem dX12_take_5 : decode cX12_take 5 = .ok (.aload_n 0, 1) := by decide +kernel
theorem dX12_take_6 : decode cX12_take 6 = .ok (.invokevirtual 175, 3) := by decide +kernel
theorem dX12_take_9 : decode cX12_take 9 = .ok (.aload_n 0, 1) := by decide +kernel
theorem dX12_take_10 : decode cX12_take 10 = .ok (.iload_n 1, 1) := by decide +kernel
theorem dX12_take_11 : decode cX12_take 11 = .ok (.invokevirtual 353, 3) := by decide +kernel
theorem dX12_take_14 : decode cX12_take 14 = .ok (.ifCond .ne 5, 3) := by decide +kernel
theorem dX12_take_17 : decode cX12_take 17 = .ok (.iconst 0, 1) := by decide +kernel
theorem dX12_take_18 : decode cX12_take 18 = .ok (.ireturn, 1) := by decide +kernel
theorem dX12_take_19 : decode cX12_take 19 = .ok (.iconst 0, 1) := by decide +kernel
theorem dX12_take_20 : decode cX12_take 20 = .ok (.istore_n 2, 1) := by decide +kernel
theorem dX12_take_21 : decode cX12_take 21 = .ok (.iload_n 2, 1) := by decide +kernel
theorem dX12_take_22 : decode cX12_take 22 = .ok (.sipush 260, 3) := by decide +kernel
theorem dX12_take_25 : decode cX12_take 25 = .ok (.if_icmp .ge 31, 3) := by decide +kernel
theorem dX12_take_28 : decode cX12_take 28 = .ok (.aload_n 0, 1) := by decide +kernel
theorem dX12_take_29 : decode cX12_take 29 = .ok (.getfield 13, 3) := by decide +kernel
theorem dX12_take_32 : decode cX12_take 32 = .ok (.iload_n 2, 1) := by decide +kernel
theorem dX12_take_33 : decode cX12_take 33 = .ok (.aload_n 0, 1) := by decide +kernel
theorem dX12_take_34 : decode cX12_take 34 = .ok (.getfield 13, 3) := by decide +kernel
theorem dX12_take_37 : decode cX12_take 37 = .ok (.sipush 260, 3) := by decide +kernel
theorem dX12_take_40 : decode cX12_take 40 = .ok (.sipush 260, 3) := by decide +kernel
theorem dX12_take_43 : decode cX12_take 43 = .ok (.iload_n 1, 1) := by decide +kernel
theorem dX12_take_44 : decode cX12_take 44 = .ok (.imul, 1) := by decide +kernel
theorem dX12_take_45 : decode cX12_take 45 = .ok (.iadd, 1) := by decide +kernel
theorem dX12_take_46 : decode cX12_take 46 = .ok (.iload_n 2, 1) := by decide +kernel
theorem dX12_take_47 : decode cX12_take 47 = .ok (.iadd, 1) := by decide +kernel
theorem dX12_take_48 : decode cX12_take 48 = .ok (.iaload, 1) := by decide +kernel
theorem dX12_take_49 : decode cX12_take 49 = .ok (.iastore, 1) := by decide +kernel
theorem dX12_take_50 : decode cX12_take 50 = .ok (.iinc 2 1, 3) := by decide +kernel
theorem dX12_take_53 : decode cX12_take 53 = .ok (.goto (-32), 3) := by decide +kernel
theorem dX12_take_56 : decode cX12_take 56 = .ok (.iconst 1, 1) := by decide +kernel
theorem dX12_take_57 : decode cX12_take 57 = .ok (.ireturn, 1) := by decide +kernel
theorem hcX12_take : yX12_take.cls ≠ "java/lang/invoke/MethodHandle" ∧ yX12_take.cls ≠ "java/lang/invoke/VarHandle" ∧ (parseMethodDescriptor yX12_take.desc).map (fun d => d.parameters.length) = some 1 := ⟨by decide +kernel, by decide +kernel, by decide +kernel⟩
def fX12_take_L21 (x1 : Int) (Q : Int → sg_M → Prop) : Nat → sg_M → Int → Prop
  | 0, _, _ => False
  | n_21 + 1, s_21, x2_21 => ((260 ≤ x2_21 → Q 1 s_21) ∧ (¬ (260 ≤ x2_21) → (0 ≤ ((260 + (260 * x1)) + x2_21) ∧ ((260 + (260 * x1)) + x2_21) < 2040) ∧ (0 ≤ x2_21 ∧ x2_21 < 2040) ∧ ∀ v13 : Int, v13 = (s_21 66 ((260 + (260 * x1)) + x2_21)) → ∀ s15 : sg_M, s15 = sg_up s_21 66 x2_21 v13 → sg_R (x2_21 + 1) ∧ (fX12_take_L21 x1 Q n_21) s15 (x2_21 + 1)))
def fX12_take (s0 : sg_M) (x1 : Int) (Q : Int → sg_M → Prop) : Prop := ∀ s1 : sg_M, s1 = sg_up s0 64 0 0 → fX12_lay s1 (fun s3 => fX12_isThere s3 x1 (fun u4 => ((u4 ≠ 0 → (∃ n18 : Nat, fX12_take_L21 x1 Q n18 s3 0)) ∧ (u4 = 0 → Q 0 s3))))
set_option maxHeartbeats 4000000 in
set_option maxRecDepth 100000 in
theorem CX12_take {l : Launch} {G : sg_G} {La : sg_L} {s0 : sg_M} (hst : sg_St La) {x1 : Int} (r1 : sg_R x1) {Q : Int → sg_M → Prop} (hf : fX12_take s0 x1 Q) : sg_C l G yX12_take cX12_take 3 (some .boolean) 3 0 0 La s0 [sg_r 64, sg_i x1] (sg_HZ La Q) := by
  refine sg_body (by decide +kernel) (Nat.le_of_ble_eq_true rfl) ?_
  intro p e s m args below meth c F hnm
  unfold fX12_take at hf
  show sg_W p l e (sg_rm 3 0 0) s m args below meth c (MQ below (sg_Q (some .boolean) G La s.heap.size (sg_HZ La Q)) args s 0 0 (sg_A La s.heap.size)) 3 G (sg_A La s.heap.size) La s0 0 0 0 [(0, sg_r 64), (1, sg_i x1)] []
  refine gw_aload_n F 0 rfl rfl (by decide) dX12_take_0 ?_
  refine gw_iconst F dX12_take_1 ?_
  obtain ⟨s1, e2⟩ : ∃ z : sg_M, z = sg_up s0 64 0 0 := ⟨_, rfl⟩
  have hf := hf s1 e2
  refine gw_put0 F (so_64 hst) (by decide) rfl sg_lay_RX12 (j := 0) (by decide) (by decide) e2 tyX12_ok nmX12 rfl (tyX12_ok 0 (by decide)) rfl (host := "") (.inl kw_947) dX12_take_2 ?_
  refine gw_aload_n F 0 rfl rfl (by decide) dX12_take_5 ?_
  refine gk_HV F (gc_V F (S := []) (As := []) (T := TX12) (N := 62) (CX12_lay hst hf) (so_64 hst) (by decide) rfl kw_1034 kw_103 kw_1032 kw_1033 kw_41 hcX12_lay ⟨by decide, by decide⟩ rfl rfl (Nat.le_of_ble_eq_true rfl) ⟨by decide, by decide⟩ dX12_take_6) (fun s3 hf => ?_)
  refine gw_aload_n F 0 rfl rfl (by decide) dX12_take_9 ?_
  refine gw_iload_n F 1 rfl rfl dX12_take_10 ?_
  refine gk_PZ F (gc_V F (S := []) (As := [sg_i x1]) (T := TX12) (N := 62) (CX12_isThere hst r1 hf) (so_64 hst) (by decide) rfl kw_1272 kw_103 kw_1270 kw_1271 kw_77 hcX12_isThere ⟨by decide, by decide⟩ rfl rfl (Nat.le_of_ble_eq_true rfl) ⟨by decide, by decide⟩ dX12_take_11) (fun u4 h5 hf => ?_)
  refine gw_if_ne F (tgt := 19) dX12_take_14 (by decide) (sg_B_R h5) (fun c6 => ?_) (fun c6 => ?_)
  · have hf := hf.1 c6
    refine gw_iconst F dX12_take_19 ?_
    refine gw_istore_n F rfl (by decide) rfl dX12_take_20 ?_
    have L21 : ∀ n_21 : Nat, ∀ (s_21 : sg_M) (x2_21 : Int), sg_R x2_21 → fX12_take_L21 x1 Q n_21 s_21 x2_21 → sg_W p l e (sg_rm 3 0 0) s m args below meth c (MQ below (sg_Q (some .boolean) G La s.heap.size (sg_HZ La Q)) args s 0 0 (sg_A La s.heap.size)) 3 G (sg_A La s.heap.size) La s_21 0 0 21 [(0, sg_r 64), (1, sg_i x1), (2, sg_i x2_21)] [] := by
      intro n_21
      induction n_21 with
      | zero => intro s_21 x2_21 r2_21 hf; exact hf.elim
      | succ n_21 ih =>
        intro s_21 x2_21 r2_21 hf
        unfold fX12_take_L21 at hf
        refine gw_iload_n F 2 rfl rfl dX12_take_21 ?_
        refine gw_sipush F rfl dX12_take_22 ?_
        refine gw_icmp_ge F (tgt := 56) dX12_take_25 (by decide) r2_21 (by decide) (fun c7 => ?_) (fun c7 => ?_)
        · have hf := hf.1 c7
          refine gw_iconst F dX12_take_56 ?_
          exact gr_HZ F (by decide) hf (by decide) (by decide) dX12_take_57
        · have hf := hf.2 c7
          refine gw_aload_n F 0 rfl rfl (by decide) dX12_take_28 ?_
          refine gw_get7 F (so_64 hst) (by decide) rfl sg_lay_RX12 (j := 14) (by decide) (o1 := 66) (by first | rfl | omega) rfl (host := "") (.inl kw_961) dX12_take_29 (fun h8 => ?_)
          refine gw_iload_n F 2 rfl rfl dX12_take_32 ?_
          refine gw_aload_n F 0 rfl rfl (by decide) dX12_take_33 ?_
          refine gw_get7 F (so_64 hst) (by decide) rfl sg_lay_RX12 (j := 14) (by decide) (o1 := 66) (by first | rfl | omega) rfl (host := "") (.inl kw_961) dX12_take_34 (fun h9 => ?_)
          refine gw_sipush F rfl dX12_take_37 ?_
          refine gw_sipush F rfl dX12_take_40 ?_
          refine gw_iload_n F 1 rfl rfl dX12_take_43 ?_
          refine gw_imul F rfl dX12_take_44 ?_
          refine gw_iadd F rfl dX12_take_45 ?_
          refine gw_iload_n F 2 rfl rfl dX12_take_46 ?_
          refine gw_iadd F rfl dX12_take_47 ?_
          obtain ⟨⟨b100, b101⟩, hf⟩ := hf
          refine gw_iald F (sa_66 hst) b100 b101 dX12_take_48 (fun h11 => ?_)
          obtain ⟨⟨b120, b121⟩, hf⟩ := hf
          obtain ⟨v13, e14⟩ : ∃ z : Int, z = (s_21 66 ((260 + (260 * x1)) + x2_21)) := ⟨_, rfl⟩
          have hf := hf v13 e14
          refine gw_nmI e14 ?_
          obtain ⟨s15, e16⟩ : ∃ z : sg_M, z = sg_up s_21 66 x2_21 v13 := ⟨_, rfl⟩
          have hf := hf s15 e16
          refine gw_iast F (sa_66 hst) b120 b121 (e14 ▸ h11) e16 dX12_take_49 ?_
          refine gw_iinc F (z := (x2_21 + 1)) 2 rfl (by omega) (by decide) rfl dX12_take_50 ?_
          refine gw_goto F (tgt := 21) dX12_take_53 (by decide) ?_
          obtain ⟨g17, hf⟩ := hf
          refine gw_sub [1, 2, 0] rfl ?_
          exact ih s15 (x2_21 + 1) g17 hf
    obtain ⟨n18, hf⟩ := hf
    refine gw_sub [1, 2, 0] rfl ?_
    refine L21   n18 s3 0 (by decide) hf
  · have hf := hf.2 c6
    refine gw_iconst F dX12_take_17 ?_
    exact gr_HZ F (by decide) hf (by decide) (by decide) dX12_take_18

theorem dX12_piece_0 : decode cX12_piece 0 = .ok (.aload_n 0, 1) := by decide +kernel
theorem dX12_piece_1 : decode cX12_piece 1 = .ok (.invokevirtual 175, 3) := by decide +kernel
theorem dX12_piece_4 : decode cX12_piece 4 = .ok (.iload_n 1, 1) := by decide +kernel
theorem dX12_piece_5 : decode cX12_piece 5 = .ok (.ifCond .lt 20, 3) := by decide +kernel
theorem dX12_piece_8 : decode cX12_piece 8 = .ok (.iload_n 1, 1) := by decide +kernel
theorem dX12_piece_9 : decode cX12_piece 9 = .ok (.aload_n 0, 1) := by decide +kernel
theorem dX12_piece_10 : decode cX12_piece 10 = .ok (.invokevirtual 202, 3) := by decide +kernel
theorem dX12_piece_13 : decode cX12_piece 13 = .ok (.if_icmp .ge 12, 3) := by decide +kernel
theorem dX12_piece_16 : decode cX12_piece 16 = .ok (.iload_n 2, 1) := by decide +kernel
theorem dX12_piece_17 : decode cX12_piece 17 = .ok (.iconst 0, 1) := by decide +kernel
theorem dX12_piece_18 : decode cX12_piece 18 = .ok (.iconst 4, 1) := by decide +kernel
theorem dX12_piece_19 : decode cX12_piece 19 = .ok (.invokestatic 155, 3) := by decide +kernel
theorem dX12_piece_22 : decode cX12_piece 22 = .ok (.ifCond .ne 8, 3) := by decide +kernel
theorem dX12_piece_25 : decode cX12_piece 25 = .ok (.aload_n 0, 1) := by decide +kernel
theorem dX12_piece_26 : decode cX12_piece 26 = .ok (.invokevirtual 205, 3) := by decide +kernel
theorem dX12_piece_29 : decode cX12_piece 29 = .ok (.ireturn, 1) := by decide +kernel
theorem dX12_piece_30 : decode cX12_piece 30 = .ok (.aload_n 0, 1) := by decide +kernel
theorem dX12_piece_31 : decode cX12_piece 31 = .ok (.iconst 0, 1) := by decide +kernel
theorem dX12_piece_32 : decode cX12_piece 32 = .ok (.putfield 84, 3) := by decide +kernel
theorem dX12_piece_35 : decode cX12_piece 35 = .ok (.bipush 10, 2) := by decide +kernel
theorem dX12_piece_37 : decode cX12_piece 37 = .ok (.iconst 4, 1) := by decide +kernel
theorem dX12_piece_38 : decode cX12_piece 38 = .ok (.iload_n 1, 1) := by decide +kernel
theorem dX12_piece_39 : decode cX12_piece 39 = .ok (.imul, 1) := by decide +kernel
theorem dX12_piece_40 : decode cX12_piece 40 = .ok (.iadd, 1) := by decide +kernel
theorem dX12_piece_41 : decode cX12_piece 41 = .ok (.istore_n 3, 1) := by decide +kernel
theorem dX12_piece_42 : decode cX12_piece 42 = .ok (.iload_n 2, 1) := by decide +kernel
theorem dX12_piece_43 : decode cX12_piece 43 = .ok (.iconst 4, 1) := by decide +kernel
theorem dX12_piece_44 : decode cX12_piece 44 = .ok (.if_icmp .ge 14, 3) := by decide +kernel
theorem dX12_piece_47 : decode cX12_piece 47 = .ok (.aload_n 0, 1) := by decide +kernel
theorem dX12_piece_48 : decode cX12_piece 48 = .ok (.getfield 13, 3) := by decide +kernel
theorem dX12_piece_51 : decode cX12_piece 51 = .ok (.iload_n 3, 1) := by decide +kernel
theorem dX12_piece_52 : decode cX12_piece 52 = .ok (.iload_n 2, 1) := by decide +kernel
theorem dX12_piece_53 : decode cX12_piece 53 = .ok (.iadd, 1) := by decide +kernel
theorem dX12_piece_54 : decode cX12_piece 54 = .ok (.iaload, 1) := by decide +kernel
theorem dX12_piece_55 : decode cX12_piece 55 = .ok (.goto 17, 3) := by decide +kernel
theorem dX12_piece_58 : decode cX12_piece 58 = .ok (.aload_n 0, 1) := by decide +kernel
theorem dX12_piece_59 : decode cX12_piece 59 = .ok (.iconst 0, 1) := by decide +kernel
theorem dX12_piece_60 : decode cX12_piece 60 = .ok (.iload_n 1, 1) := by decide +kernel
theorem dX12_piece_61 : decode cX12_piece 61 = .ok (.aload_n 0, 1) := by decide +kernel
theorem dX12_piece_62 : decode cX12_piece 62 = .ok (.getfield 13, 3) := by decide +kernel
theorem dX12_piece_65 : decode cX12_piece 65 = .ok (.iload_n 3, 1) := by decide +kernel
theorem dX12_piece_66 : decode cX12_piece 66 = .ok (.iconst 1, 1) := by decide +kernel
theorem dX12_piece_67 : decode cX12_piece 67 = .ok (.iadd, 1) := by decide +kernel
theorem dX12_piece_68 : decode cX12_piece 68 = .ok (.iaload, 1) := by decide +kernel
theorem dX12_piece_69 : decode cX12_piece 69 = .ok (.invokevirtual 208, 3) := by decide +kernel
theorem dX12_piece_72 : decode cX12_piece 72 = .ok (.ireturn, 1) := by decide +kernel
theorem hcX12_piece : yX12_piece.cls ≠ "java/lang/invoke/MethodHandle" ∧ yX12_piece.cls ≠ "java/lang/invoke/VarHandle" ∧ (parseMethodDescriptor yX12_piece.desc).map (fun d => d.parameters.length) = some 2 := ⟨by decide +kernel, by decide +kernel, by decide +kernel⟩
def fX12_piece (s0 : sg_M) (x1 : Int) (x2 : Int) (Q : Int → sg_M → Prop) : Prop := fX12_lay s0 (fun s1 => ((x1 < 0 → fX12_refuse s1 (fun u3 s5 => Q u3 s5)) ∧ (¬ (x1 < 0) → fX12_pieces s1 (fun u6 => ((u6 ≤ x1 → fX12_refuse s1 (fun u9 s11 => Q u9 s11)) ∧ (¬ (u6 ≤ x1) → fX12_isIn x2 0 4 (fun u12 => ((u12 ≠ 0 → ∀ s15 : sg_M, s15 = sg_up s1 64 0 0 → ((4 ≤ x2 → (0 ≤ ((10 + (4 * x1)) + 1) ∧ ((10 + (4 * x1)) + 1) < 2040) ∧ fX12_stiffness s15 0 x1 (s15 66 ((10 + (4 * x1)) + 1)) (fun u21 => Q u21 s15)) ∧ (¬ (4 ≤ x2) → (0 ≤ ((10 + (4 * x1)) + x2) ∧ ((10 + (4 * x1)) + x2) < 2040) ∧ Q (s15 66 ((10 + (4 * x1)) + x2)) s15))) ∧ (u12 = 0 → fX12_refuse s1 (fun u26 s28 => Q u26 s28))))))))))
set_option maxHeartbeats 4000000 in
set_option maxRecDepth 100000 in
theorem CX12_piece {l : Launch} {G : sg_G} {La : sg_L} {s0 : sg_M} (hst : sg_St La) {x1 : Int} (r1 : sg_R x1) {x2 : Int} (r2 : sg_R x2) {Q : Int → sg_M → Prop} (hf : fX12_piece s0 x1 x2 Q) : sg_C l G yX12_piece cX12_piece 4 (some .int) 2 0 0 La s0 [sg_r 64, sg_i x1, sg_i x2] (sg_HI La Q) := by
  refine sg_body (by decide +kernel) (Nat.le_of_ble_eq_true rfl) ?_
  intro p e s m args below meth c F hnm
  unfold fX12_piece at hf
  show sg_W p l e (sg_rm 2 0 0) s m args below meth c (MQ below (sg_Q (some .int) G La s.heap.size (sg_HI La Q)) args s 0 0 (sg_A La s.heap.size)) 4 G (sg_A La s.heap.size) La s0 0 0 0 [(0, sg_r 64), (1, sg_i x1), (2, sg_i x2)] []
  refine gw_aload_n F 0 rfl rfl (by decide) dX12_piece_0 ?_
  refine gk_HV F (gc_V F (S := []) (As := []) (T := TX12) (N := 62) (CX12_lay hst hf) (so_64 hst) (by decide) rfl kw_1034 kw_103 kw_1032 kw_1033 kw_41 hcX12_lay ⟨by decide, by decide⟩ rfl rfl (Nat.le_of_ble_eq_true rfl) ⟨by decide, by decide⟩ dX12_piece_1) (fun s1 hf => ?_)
  refine gw_iload_n F 1 rfl rfl dX12_piece_4 ?_
  refine gw_if_lt F (tgt := 25) dX12_piece_5 (by decide) r1 (fun c2 => ?_) (fun c2 => ?_)
  · have hf := hf.1 c2
    refine gw_aload_n F 0 rfl rfl (by decide) dX12_piece_25 ?_
    refine gk_HI F (gc_V F (S := []) (As := []) (T := TX12) (N := 62) (CX12_refuse hst hf) (so_64 hst) (by decide) rfl kw_1098 kw_103 kw_1096 kw_1097 kw_53 hcX12_refuse ⟨by decide, by decide⟩ rfl rfl (Nat.le_of_ble_eq_true rfl) ⟨by decide, by decide⟩ dX12_piece_26) (fun u3 s5 h4 hf => ?_)
    exact gr_HI F h4 hf (by decide) (by decide) dX12_piece_29
  · have hf := hf.2 c2
    refine gw_iload_n F 1 rfl rfl dX12_piece_8 ?_
    refine gw_aload_n F 0 rfl rfl (by decide) dX12_piece_9 ?_
    refine gk_PI F (gc_V F (S := [sg_i x1]) (As := []) (T := TX12) (N := 62) (CX12_pieces hst hf) (so_64 hst) (by decide) rfl kw_1095 kw_103 kw_1093 kw_1094 kw_52 hcX12_pieces ⟨by decide, by decide⟩ rfl rfl (Nat.le_of_ble_eq_true rfl) ⟨by decide, by decide⟩ dX12_piece_10) (fun u6 h7 hf => ?_)
    refine gw_icmp_ge F (tgt := 25) dX12_piece_13 (by decide) r1 h7 (fun c8 => ?_) (fun c8 => ?_)
    · have hf := hf.1 c8
      refine gw_aload_n F 0 rfl rfl (by decide) dX12_piece_25 ?_
      refine gk_HI F (gc_V F (S := []) (As := []) (T := TX12) (N := 62) (CX12_refuse hst hf) (so_64 hst) (by decide) rfl kw_1098 kw_103 kw_1096 kw_1097 kw_53 hcX12_refuse ⟨by decide, by decide⟩ rfl rfl (Nat.le_of_ble_eq_true rfl) ⟨by decide, by decide⟩ dX12_piece_26) (fun u9 s11 h10 hf => ?_)
      exact gr_HI F h10 hf (by decide) (by decide) dX12_piece_29
    · have hf := hf.2 c8
      refine gw_iload_n F 2 rfl rfl dX12_piece_16 ?_
      refine gw_iconst F dX12_piece_17 ?_
      refine gw_iconst F dX12_piece_18 ?_
      refine gk_PZ F (gc_S F (S := []) (As := [sg_i x2, sg_i 0, sg_i 4]) (CX12_isIn r2 (by decide) (by decide) hf) kw_1075 kw_103 kw_1073 kw_1074 hcX12_isIn ⟨by decide, by decide⟩ rfl rfl (Nat.le_of_ble_eq_true rfl) ⟨by decide, by decide⟩ dX12_piece_19) (fun u12 h13 hf => ?_)
      refine gw_if_ne F (tgt := 30) dX12_piece_22 (by decide) (sg_B_R h13) (fun c14 => ?_) (fun c14 => ?_)
      · have hf := hf.1 c14
        refine gw_aload_n F 0 rfl rfl (by decide) dX12_piece_30 ?_
        refine gw_iconst F dX12_piece_31 ?_
        obtain ⟨s15, e16⟩ : ∃ z : sg_M, z = sg_up s1 64 0 0 := ⟨_, rfl⟩
        have hf := hf s15 e16
        refine gw_put0 F (so_64 hst) (by decide) rfl sg_lay_RX12 (j := 0) (by decide) (by decide) e16 tyX12_ok nmX12 rfl (tyX12_ok 0 (by decide)) rfl (host := "") (.inl kw_947) dX12_piece_32 ?_
        refine gw_bipush F rfl dX12_piece_35 ?_
        refine gw_iconst F dX12_piece_37 ?_
        refine gw_iload_n F 1 rfl rfl dX12_piece_38 ?_
        refine gw_imul F rfl dX12_piece_39 ?_
        refine gw_iadd F rfl dX12_piece_40 ?_
        refine gw_istore_n F rfl (by decide) rfl dX12_piece_41 ?_
        refine gw_iload_n F 3 rfl rfl dX12_piece_42 ?_
        refine gw_iconst F dX12_piece_43 ?_
        refine gw_icmp_ge F (tgt := 58) dX12_piece_44 (by decide) r2 (by decide) (fun c17 => ?_) (fun c17 => ?_)
        · have hf := hf.1 c17
          refine gw_aload_n F 1 rfl rfl (by decide) dX12_piece_58 ?_
          refine gw_iconst F dX12_piece_59 ?_
          refine gw_iload_n F 2 rfl rfl dX12_piece_60 ?_
          refine gw_aload_n F 1 rfl rfl (by decide) dX12_piece_61 ?_
          refine gw_get7 F (so_64 hst) (by decide) rfl sg_lay_RX12 (j := 14) (by decide) (o1 := 66) (by first | rfl | omega) rfl (host := "") (.inl kw_961) dX12_piece_62 (fun h18 => ?_)
          refine gw_iload_n F 0 rfl rfl dX12_piece_65 ?_
          refine gw_iconst F dX12_piece_66 ?_
          refine gw_iadd F rfl dX12_piece_67 ?_
          obtain ⟨⟨b190, b191⟩, hf⟩ := hf
          refine gw_iald F (sa_66 hst) b190 b191 dX12_piece_68 (fun h20 => ?_)
          refine gk_PI F (gc_V F (S := []) (As := [sg_i 0, sg_i x1, sg_i (s15 66 ((10 + (4 * x1)) + 1))]) (T := TX12) (N := 62) (CX12_stiffness hst (by decide) r1 h20 hf) (so_64 hst) (by decide) rfl kw_1101 kw_103 kw_1099 kw_1100 kw_54 hcX12_stiffness ⟨by decide, by decide⟩ rfl rfl (Nat.le_of_ble_eq_true rfl) ⟨by decide, by decide⟩ dX12_piece_69) (fun u21 h22 hf => ?_)
          exact gr_HI F h22 hf (by decide) (by decide) dX12_piece_72
        · have hf := hf.2 c17
          refine gw_aload_n F 1 rfl rfl (by decide) dX12_piece_47 ?_
          refine gw_get7 F (so_64 hst) (by decide) rfl sg_lay_RX12 (j := 14) (by decide) (o1 := 66) (by first | rfl | omega) rfl (host := "") (.inl kw_961) dX12_piece_48 (fun h23 => ?_)
          refine gw_iload_n F 0 rfl rfl dX12_piece_51 ?_
          refine gw_iload_n F 3 rfl rfl dX12_piece_52 ?_
          refine gw_iadd F rfl dX12_piece_53 ?_
          obtain ⟨⟨b240, b241⟩, hf⟩ := hf
          refine gw_iald F (sa_66 hst) b240 b241 dX12_piece_54 (fun h25 => ?_)
          refine gw_goto F (tgt := 72) dX12_piece_55 (by decide) ?_
          exact gr_HI F h25 hf (by decide) (by decide) dX12_piece_72
      · have hf := hf.2 c14
        refine gw_aload_n F 0 rfl rfl (by decide) dX12_piece_25 ?_
        refine gk_HI F (gc_V F (S := []) (As := []) (T := TX12) (N := 62) (CX12_refuse hst hf) (so_64 hst) (by decide) rfl kw_1098 kw_103 kw_1096 kw_1097 kw_53 hcX12_refuse ⟨by decide, by decide⟩ rfl rfl (Nat.le_of_ble_eq_true rfl) ⟨by decide, by decide⟩ dX12_piece_26) (fun u26 s28 h27 hf => ?_)
        exact gr_HI F h27 hf (by decide) (by decide) dX12_piece_29

theorem dX12_where_0 : decode cX12_where 0 = .ok (.aload_n 0, 1) := by decide +kernel
theorem dX12_where_1 : decode cX12_where 1 = .ok (.iconst 0, 1) := by decide +kernel
theorem dX12_where_2 : decode cX12_where 2 = .ok (.putfield 84, 3) := by decide +kernel
theorem dX12_where_5 : decode cX12_where 5 = .ok (.aload_n 0, 1) := by decide +kernel
theorem dX12_where_6 : decode cX12_where 6 = .ok (.invokevirtual 175, 3) := by decide +kernel
theorem dX12_where_9 : decode cX12_where 9 = .ok (.iload_n 1, 1) := by decide +kernel
theorem dX12_where_10 : decode cX12_where 10 = .ok (.iload_n 2, 1) := by decide +kernel
theorem dX12_where_11 : decode cX12_where 11 = .ok (.invokestatic 232, 3) := by decide +kernel
theorem dX12_where_14 : decode cX12_where 14 = .ok (.ifCond .eq 27, 3) := by decide +kernel
theorem dX12_where_17 : decode cX12_where 17 = .ok (.iload 4, 2) := by decide +kernel
theorem dX12_where_19 : decode cX12_where 19 = .ok (.iconst 0, 1) := by decide +kernel
theorem dX12_where_20 : decode cX12_where 20 = .ok (.iconst 5, 1) := by decide +kernel
theorem dX12_where_21 : decode cX12_where 21 = .ok (.invokestatic 155, 3) := by decide +kernel
theorem dX12_where_24 : decode cX12_where 24 = .ok (.ifCond .eq 17, 3) := by decide +kernel
theorem dX12_where_27 : decode cX12_where 27 = .ok (.iload 5, 2) := by decide +kernel
theorem dX12_where_29 : decode cX12_where 29 = .ok (.iconst 0, 1) := by decide +kernel
theorem dX12_where_30 : decode cX12_where 30 = .ok (.iconst 5, 1) := by decide +kernel
theorem dX12_where_31 : decode cX12_where 31 = .ok (.invokestatic 155, 3) := by decide +kernel
theorem dX12_where_34 : decode cX12_where 34 = .ok (.ifCond .eq 7, 3) := by decide +kernel
theorem dX12_where_37 : decode cX12_where 37 = .ok (.iload_n 3, 1) := by decide +kernel
theorem dX12_where_38 : decode cX12_where 38 = .ok (.ifCond .ge 5, 3) := by decide +kernel
theorem dX12_where_41 : decode cX12_where 41 = .ok (.iconst (-1), 1) := by decide +kernel
theorem dX12_where_42 : decode cX12_where 42 = .ok (.ireturn, 1) := by decide +kernel
theorem dX12_where_43 : decode cX12_where 43 = .ok (.aload_n 0, 1) := by decide +kernel
theorem dX12_where_44 : decode cX12_where 44 = .ok (.iconst 0, 1) := by decide +kernel
theorem dX12_where_45 : decode cX12_where 45 = .ok (.iload_n 1, 1) := by decide +kernel
theorem dX12_where_46 : decode cX12_where 46 = .ok (.iload_n 2, 1) := by decide +kernel
theorem dX12_where_47 : decode cX12_where 47 = .ok (.iconst 0, 1) := by decide +kernel
theorem dX12_where_48 : decode cX12_where 48 = .ok (.iconst 0, 1) := by decide +kernel
theorem dX12_where_49 : decode cX12_where 49 = .ok (.invokevirtual 235, 3) := by decide +kernel
theorem dX12_where_52 : decode cX12_where 52 = .ok (.iload_n 3, 1) := by decide +kernel
theorem dX12_where_53 : decode cX12_where 53 = .ok (.aload_n 0, 1) := by decide +kernel
theorem dX12_where_54 : decode cX12_where 54 = .ok (.getfield 226, 3) := by decide +kernel
theorem dX12_where_57 : decode cX12_where 57 = .ok (.if_icmp .lt 5, 3) := by decide +kernel
theorem dX12_where_60 : decode cX12_where 60 = .ok (.iconst (-1), 1) := by decide +kernel
theorem dX12_where_61 : decode cX12_where 61 = .ok (.ireturn, 1) := by decide +kernel
theorem dX12_where_62 : decode cX12_where 62 = .ok (.aload_n 0, 1) := by decide +kernel
theorem dX12_where_63 : decode cX12_where 63 = .ok (.aload_n 0, 1) := by decide +kernel
theorem dX12_where_64 : decode cX12_where 64 = .ok (.getfield 41, 3) := by decide +kernel
theorem dX12_where_67 : decode cX12_where 67 = .ok (.iload_n 3, 1) := by decide +kernel
theorem dX12_where_68 : decode cX12_where 68 = .ok (.iaload, 1) := by decide +kernel
theorem dX12_where_69 : decode cX12_where 69 = .ok (.iload 5, 2) := by decide +kernel
theorem dX12_where_71 : decode cX12_where 71 = .ok (.invokevirtual 255, 3) := by decide +kernel
theorem dX12_where_74 : decode cX12_where 74 = .ok (.istore 6, 2) := by decide +kernel
theorem dX12_where_76 : decode cX12_where 76 = .ok (.iload 6, 2) := by decide +kernel
theorem dX12_where_78 : decode cX12_where 78 = .ok (.iconst (-1), 1) := by decide +kernel
theorem dX12_where_79 : decode cX12_where 79 = .ok (.if_icmp .ne 5, 3) := by decide +kernel
theorem dX12_where_82 : decode cX12_where 82 = .ok (.iconst (-1), 1) := by decide +kernel
theorem dX12_where_83 : decode cX12_where 83 = .ok (.ireturn, 1) := by decide +kernel
theorem dX12_where_84 : decode cX12_where 84 = .ok (.iconst 0, 1) := by decide +kernel
theorem dX12_where_85 : decode cX12_where 85 = .ok (.istore 7, 2) := by decide +kernel
theorem dX12_where_87 : decode cX12_where 87 = .ok (.iload 7, 2) := by decide +kernel
theorem dX12_where_89 : decode cX12_where 89 = .ok (.aload_n 0, 1) := by decide +kernel
theorem dX12_where_90 : decode cX12_where 90 = .ok (.getfield 212, 3) := by decide +kernel
theorem dX12_where_93 : decode cX12_where 93 = .ok (.if_icmp .ge 24, 3) := by decide +kernel
theorem dX12_where_96 : decode cX12_where 96 = .ok (.aload_n 0, 1) := by decide +kernel
theorem dX12_where_97 : decode cX12_where 97 = .ok (.getfield 53, 3) := by decide +kernel
theorem dX12_where_100 : decode cX12_where 100 = .ok (.iload 7, 2) := by decide +kernel
theorem dX12_where_102 : decode cX12_where 102 = .ok (.aload_n 0, 1) := by decide +kernel
theorem dX12_where_103 : decode cX12_where 103 = .ok (.iload 7, 2) := by decide +kernel
theorem dX12_where_105 : decode cX12_where 105 = .ok (.iload 6, 2) := by decide +kernel
theorem dX12_where_107 : decode cX12_where 107 = .ok (.invokevirtual 267, 3) := by decide +kernel
theorem dX12_where_110 : decode cX12_where 110 = .ok (.iastore, 1) := by decide +kernel
theorem dX12_where_111 : decode cX12_where 111 = .ok (.iinc 7 1, 3) := by decide +kernel
theorem dX12_where_114 : decode cX12_where 114 = .ok (.goto (-27), 3) := by decide +kernel
theorem dX12_where_117 : decode cX12_where 117 = .ok (.aload_n 0, 1) := by decide +kernel
theorem dX12_where_118 : decode cX12_where 118 = .ok (.aload_n 0, 1) := by decide +kernel
theorem dX12_where_119 : decode cX12_where 119 = .ok (.getfield 41, 3) := by decide +kernel
theorem dX12_where_122 : decode cX12_where 122 = .ok (.iload_n 3, 1) := by decide +kernel
theorem dX12_where_123 : decode cX12_where 123 = .ok (.iaload, 1) := by decide +kernel
theorem dX12_where_124 : decode cX12_where 124 = .ok (.iload 4, 2) := by decide +kernel
theorem dX12_where_126 : decode cX12_where 126 = .ok (.invokevirtual 255, 3) := by decide +kernel
theorem dX12_where_129 : decode cX12_where 129 = .ok (.istore 7, 2) := by decide +kernel
theorem dX12_where_131 : decode cX12_where 131 = .ok (.iload 7, 2) := by decide +kernel
theorem dX12_where_133 : decode cX12_where 133 = .ok (.iconst (-1), 1) := by decide +kernel
theorem dX12_where_134 : decode cX12_where 134 = .ok (.if_icmp .ne 5, 3) := by decide +kernel
theorem dX12_where_137 : decode cX12_where 137 = .ok (.iconst (-1), 1) := by decide +kernel
theorem dX12_where_138 : decode cX12_where 138 = .ok (.ireturn, 1) := by decide +kernel
theorem dX12_where_139 : decode cX12_where 139 = .ok (.iconst 0, 1) := by decide +kernel
theorem dX12_where_140 : decode cX12_where 140 = .ok (.istore 8, 2) := by decide +kernel
theorem dX12_where_142 : decode cX12_where 142 = .ok (.iconst 1, 1) := by decide +kernel
theorem dX12_where_143 : decode cX12_where 143 = .ok (.istore 9, 2) := by decide +kernel
theorem dX12_where_145 : decode cX12_where 145 = .ok (.iload 9, 2) := by decide +kernel
theorem dX12_where_147 : decode cX12_where 147 = .ok (.aload_n 0, 1) := by decide +kernel
theorem dX12_where_148 : decode cX12_where 148 = .ok (.getfield 212, 3) := by decide +kernel
theorem dX12_where_151 : decode cX12_where 151 = .ok (.if_icmp .ge 48, 3) := by decide +kernel
theorem dX12_where_154 : decode cX12_where 154 = .ok (.aload_n 0, 1) := by decide +kernel
theorem dX12_where_155 : decode cX12_where 155 = .ok (.iload 9, 2) := by decide +kernel
theorem dX12_where_157 : decode cX12_where 157 = .ok (.iload 7, 2) := by decide +kernel
theorem dX12_where_159 : decode cX12_where 159 = .ok (.invokevirtual 267, 3) := by decide +kernel
theorem dX12_where_162 : decode cX12_where 162 = .ok (.aload_n 0, 1) := by decide +kernel
theorem dX12_where_163 : decode cX12_where 163 = .ok (.getfield 53, 3) := by decide +kernel
theorem dX12_where_166 : decode cX12_where 166 = .ok (.iload 9, 2) := by decide +kernel
theorem dX12_where_168 : decode cX12_where 168 = .ok (.iaload, 1) := by decide +kernel
theorem dX12_where_169 : decode cX12_where 169 = .ok (.isub, 1) := by decide +kernel
theorem dX12_where_170 : decode cX12_where 170 = .ok (.aload_n 0, 1) := by decide +kernel
theorem dX12_where_171 : decode cX12_where 171 = .ok (.iload 8, 2) := by decide +kernel
theorem dX12_where_173 : decode cX12_where 173 = .ok (.iload 7, 2) := by decide +kernel
theorem dX12_where_175 : decode cX12_where 175 = .ok (.invokevirtual 267, 3) := by decide +kernel
theorem dX12_where_178 : decode cX12_where 178 = .ok (.aload_n 0, 1) := by decide +kernel
theorem dX12_where_179 : decode cX12_where 179 = .ok (.getfield 53, 3) := by decide +kernel
theorem dX12_where_182 : decode cX12_where 182 = .ok (.iload 8, 2) := by decide +kernel
theorem dX12_where_184 : decode cX12_where 184 = .ok (.iaload, 1) := by decide +kernel
theorem dX12_where_185 : decode cX12_where 185 = .ok (.isub, 1) := by decide +kernel
theorem dX12_where_186 : decode cX12_where 186 = .ok (.if_icmp .le 7, 3) := by decide +kernel
theorem dX12_where_189 : decode cX12_where 189 = .ok (.iload 9, 2) := by decide +kernel
theorem dX12_where_191 : decode cX12_where 191 = .ok (.istore 8, 2) := by decide +kernel
theorem dX12_where_193 : decode cX12_where 193 = .ok (.iinc 9 1, 3) := by decide +kernel
theorem dX12_where_196 : decode cX12_where 196 = .ok (.goto (-51), 3) := by decide +kernel
theorem dX12_where_199 : decode cX12_where 199 = .ok (.aload_n 0, 1) := by decide +kernel
theorem dX12_where_200 : decode cX12_where 200 = .ok (.aload_n 0, 1) := by decide +kernel
theorem dX12_where_201 : decode cX12_where 201 = .ok (.iload 8, 2) := by decide +kernel
theorem dX12_where_203 : decode cX12_where 203 = .ok (.iload 7, 2) := by decide +kernel
theorem dX12_where_205 : decode cX12_where 205 = .ok (.invokevirtual 267, 3) := by decide +kernel
theorem dX12_where_208 : decode cX12_where 208 = .ok (.aload_n 0, 1) := by decide +kernel
theorem dX12_where_209 : decode cX12_where 209 = .ok (.getfield 53, 3) := by decide +kernel
theorem dX12_where_212 : decode cX12_where 212 = .ok (.iload 8, 2) := by decide +kernel
theorem dX12_where_214 : decode cX12_where 214 = .ok (.iaload, 1) := by decide +kernel
theorem dX12_where_215 : decode cX12_where 215 = .ok (.isub, 1) := by decide +kernel
theorem dX12_where_216 : decode cX12_where 216 = .ok (.putfield 270, 3) := by decide +kernel
theorem dX12_where_219 : decode cX12_where 219 = .ok (.iload 8, 2) := by decide +kernel
theorem dX12_where_221 : decode cX12_where 221 = .ok (.ireturn, 1) := by decide +kernel
theorem hcX12_where : yX12_where.cls ≠ "java/lang/invoke/MethodHandle" ∧ yX12_where.cls ≠ "java/lang/invoke/VarHandle" ∧ (parseMethodDescriptor yX12_where.desc).map (fun d => d.parameters.length) = some 5 := ⟨by decide +kernel, by decide +kernel, by decide +kernel⟩
def fX12_where_L87 (u20 : Int) (k117 : sg_M → Prop) : Nat → sg_M → Int → Prop
  | 0, _, _ => False
  | n_87 + 1, s_87, x7_87 => (((s_87 64 27) ≤ x7_87 → k117 s_87) ∧ (¬ ((s_87 64 27) ≤ x7_87) → fX12_strengthAt s_87 x7_87 u20 (fun u27 => (0 ≤ x7_87 ∧ x7_87 < 60) ∧ ∀ s30 : sg_M, s30 = sg_up s_87 79 x7_87 u27 → sg_R (x7_87 + 1) ∧ (fX12_where_L87 u20 k117 n_87) s30 (x7_87 + 1))))
def fX12_where_j193 (x9_145 : Int) (k145 : Int → Int → Prop) (x8_193 : Int) : Prop := sg_R (x9_145 + 1) ∧ k145 x8_193 (x9_145 + 1)
def fX12_where_L145 (u37 : Int) (s39 : sg_M) (Q : Int → sg_M → Prop) : Nat → Int → Int → Prop
  | 0, _, _ => False
  | n_145 + 1, x8_145, x9_145 => (((s39 64 27) ≤ x9_145 → fX12_strengthAt s39 x8_145 u37 (fun u43 => (0 ≤ x8_145 ∧ x8_145 < 60) ∧ sg_R (u43 - (s39 79 x8_145)) ∧ ∀ s49 : sg_M, s49 = sg_up s39 64 38 (u43 - (s39 79 x8_145)) → Q x8_145 s49)) ∧ (¬ ((s39 64 27) ≤ x9_145) → fX12_strengthAt s39 x9_145 u37 (fun u51 => (0 ≤ x9_145 ∧ x9_145 < 60) ∧ fX12_strengthAt s39 x8_145 u37 (fun u56 => (0 ≤ x8_145 ∧ x8_145 < 60) ∧ sg_R (u51 - (s39 79 x9_145)) ∧ sg_R (u56 - (s39 79 x8_145)) ∧ (((u51 - (s39 79 x9_145)) ≤ (u56 - (s39 79 x8_145)) → (fX12_where_j193 x9_145 (fX12_where_L145 u37 s39 Q n_145)) x8_145) ∧ (¬ ((u51 - (s39 79 x9_145)) ≤ (u56 - (s39 79 x8_145))) → (fX12_where_j193 x9_145 (fX12_where_L145 u37 s39 Q n_145)) x9_145))))))
def fX12_where (s0 : sg_M) (x1 : Int) (x2 : Int) (x3 : Int) (x4 : Int) (x5 : Int) (Q : Int → sg_M → Prop) : Prop := ∀ s1 : sg_M, s1 = sg_up s0 64 0 0 → fX12_lay s1 (fun s3 => fX12_isBend x1 x2 (fun u4 => ((u4 = 0 → Q (-1) s3) ∧ (¬ (u4 = 0) → fX12_isIn x4 0 5 (fun u7 => ((u7 = 0 → Q (-1) s3) ∧ (¬ (u7 = 0) → fX12_isIn x5 0 5 (fun u10 => ((u10 = 0 → Q (-1) s3) ∧ (¬ (u10 = 0) → ((0 ≤ x3 → fX12_layBend s3 0 x1 x2 0 0 (fun s14 => ((x3 < (s14 64 29) → (0 ≤ x3 ∧ x3 < 60) ∧ fX12_toneOf s14 (s14 75 x3) x5 (fun u20 s22 => ((u20 ≠ (-1) → (∃ n33 : Nat, fX12_where_L87 u20 (fun s_117e87 => (0 ≤ x3 ∧ x3 < 60) ∧ fX12_toneOf s_117e87 (s_117e87 75 x3) x4 (fun u37 s39 => ((u37 ≠ (-1) → (∃ n65 : Nat, fX12_where_L145 u37 s39 Q n65 0 1)) ∧ (u37 = (-1) → Q (-1) s39)))) n33 s22 0)) ∧ (u20 = (-1) → Q (-1) s22)))) ∧ (¬ (x3 < (s14 64 29)) → Q (-1) s14)))) ∧ (¬ (0 ≤ x3) → Q (-1) s3))))))))))))
set_option maxHeartbeats 4000000 in
set_option maxRecDepth 100000 in
theorem CX12_where {l : Launch} {G : sg_G} {La : sg_L} {s0 : sg_M} (hst : sg_St La) {x1 : Int} (r1 : sg_R x1) {x2 : Int} (r2 : sg_R x2) {x3 : Int} (r3 : sg_R x3) {x4 : Int} (r4 : sg_R x4) {x5 : Int} (r5 : sg_R x5) {Q : Int → sg_M → Prop} (hf : fX12_where s0 x1 x2 x3 x4 x5 Q) : sg_C l G yX12_where cX12_where 10 (some .int) 4 0 0 La s0 [sg_r 64, sg_i x1, sg_i x2, sg_i x3, sg_i x4, sg_i x5] (sg_HI La Q) := by
  refine sg_body (by decide +kernel) (Nat.le_of_ble_eq_true rfl) ?_
  intro p e s m args below meth c F hnm
  unfold fX12_where at hf
  show sg_W p l e (sg_rm 4 0 0) s m args below meth c (MQ below (sg_Q (some .int) G La s.heap.size (sg_HI La Q)) args s 0 0 (sg_A La s.heap.size)) 10 G (sg_A La s.heap.size) La s0 0 0 0 [(0, sg_r 64), (1, sg_i x1), (2, sg_i x2), (3, sg_i x3), (4, sg_i x4), (5, sg_i x5)] []
  refine gw_aload_n F 0 rfl rfl (by decide) dX12_where_0 ?_
  refine gw_iconst F dX12_where_1 ?_
  obtain ⟨s1, e2⟩ : ∃ z : sg_M, z = sg_up s0 64 0 0 := ⟨_, rfl⟩
  have hf := hf s1 e2
  refine gw_put0 F (so_64 hst) (by decide) rfl sg_lay_RX12 (j := 0) (by decide) (by decide) e2 tyX12_ok nmX12 rfl (tyX12_ok 0 (by decide)) rfl (host := "") (.inl kw_947) dX12_where_2 ?_
  refine gw_aload_n F 0 rfl rfl (by decide) dX12_where_5 ?_
  refine gk_HV F (gc_V F (S := []) (As := []) (T := TX12) (N := 62) (CX12_lay hst hf) (so_64 hst) (by decide) rfl kw_1034 kw_103 kw_1032 kw_1033 kw_41 hcX12_lay ⟨by decide, by decide⟩ rfl rfl (Nat.le_of_ble_eq_true rfl) ⟨by decide, by decide⟩ dX12_where_6) (fun s3 hf => ?_)
  refine gw_iload_n F 1 rfl rfl dX12_where_9 ?_
  refine gw_iload_n F 2 rfl rfl dX12_where_10 ?_
  refine gk_PZ F (gc_S F (S := []) (As := [sg_i x1, sg_i x2]) (CX12_isBend r1 r2 hf) kw_1108 kw_103 kw_1106 kw_1107 hcX12_isBend ⟨by decide, by decide⟩ rfl rfl (Nat.le_of_ble_eq_true rfl) ⟨by decide, by decide⟩ dX12_where_11) (fun u4 h5 hf => ?_)
  refine gw_if_eq F (tgt := 41) dX12_where_14 (by decide) (sg_B_R h5) (fun c6 => ?_) (fun c6 => ?_)
  · have hf := hf.1 c6
    refine gw_iconst F dX12_where_41 ?_
    exact gr_HI F (by decide) hf (by decide) (by decide) dX12_where_42
  · have hf := hf.2 c6
    refine gw_iload F 4 rfl dX12_where_17 ?_
    refine gw_iconst F dX12_where_19 ?_
    refine gw_iconst F dX12_where_20 ?_
    refine gk_PZ F (gc_S F (S := []) (As := [sg_i x4, sg_i 0, sg_i 5]) (CX12_isIn r4 (by decide) (by decide) hf) kw_1075 kw_103 kw_1073 kw_1074 hcX12_isIn ⟨by decide, by decide⟩ rfl rfl (Nat.le_of_ble_eq_true rfl) ⟨by decide, by decide⟩ dX12_where_21) (fun u7 h8 hf => ?_)
    refine gw_if_eq F (tgt := 41) dX12_where_24 (by decide) (sg_B_R h8) (fun c9 => ?_) (fun c9 => ?_)
    · have hf := hf.1 c9
      refine gw_iconst F dX12_where_41 ?_
      exact gr_HI F (by decide) hf (by decide) (by decide) dX12_where_42
    · have hf := hf.2 c9
      refine gw_iload F 5 rfl dX12_where_27 ?_
      refine gw_iconst F dX12_where_29 ?_
      refine gw_iconst F dX12_where_30 ?_
      refine gk_PZ F (gc_S F (S := []) (As := [sg_i x5, sg_i 0, sg_i 5]) (CX12_isIn r5 (by decide) (by decide) hf) kw_1075 kw_103 kw_1073 kw_1074 hcX12_isIn ⟨by decide, by decide⟩ rfl rfl (Nat.le_of_ble_eq_true rfl) ⟨by decide, by decide⟩ dX12_where_31) (fun u10 h11 hf => ?_)
      refine gw_if_eq F (tgt := 41) dX12_where_34 (by decide) (sg_B_R h11) (fun c12 => ?_) (fun c12 => ?_)
      · have hf := hf.1 c12
        refine gw_iconst F dX12_where_41 ?_
        exact gr_HI F (by decide) hf (by decide) (by decide) dX12_where_42
      · have hf := hf.2 c12
        refine gw_iload_n F 3 rfl rfl dX12_where_37 ?_
        refine gw_if_ge F (tgt := 43) dX12_where_38 (by decide) r3 (fun c13 => ?_) (fun c13 => ?_)
        · have hf := hf.1 c13
          refine gw_aload_n F 0 rfl rfl (by decide) dX12_where_43 ?_
          refine gw_iconst F dX12_where_44 ?_
          refine gw_iload_n F 1 rfl rfl dX12_where_45 ?_
          refine gw_iload_n F 2 rfl rfl dX12_where_46 ?_
          refine gw_iconst F dX12_where_47 ?_
          refine gw_iconst F dX12_where_48 ?_
          refine gk_HV F (gc_V F (S := []) (As := [sg_i 0, sg_i x1, sg_i x2, sg_i 0, sg_i 0]) (T := TX12) (N := 62) (CX12_layBend hst (by decide) r1 r2 (by decide) (by decide) hf) (so_64 hst) (by decide) rfl kw_1111 kw_103 kw_1109 kw_1110 kw_55 hcX12_layBend ⟨by decide, by decide⟩ rfl rfl (Nat.le_of_ble_eq_true rfl) ⟨by decide, by decide⟩ dX12_where_49) (fun s14 hf => ?_)
          refine gw_iload_n F 3 rfl rfl dX12_where_52 ?_
          refine gw_aload_n F 0 rfl rfl (by decide) dX12_where_53 ?_
          refine gw_get0 F (so_64 hst) (by decide) rfl sg_lay_RX12 (j := 29) (by decide) rfl (host := "") (.inl kw_976) dX12_where_54 (fun h15 => ?_)
          refine gw_icmp_lt F (tgt := 62) dX12_where_57 (by decide) r3 h15 (fun c16 => ?_) (fun c16 => ?_)
          · have hf := hf.1 c16
            refine gw_aload_n F 0 rfl rfl (by decide) dX12_where_62 ?_
            refine gw_aload_n F 0 rfl rfl (by decide) dX12_where_63 ?_
            refine gw_get7 F (so_64 hst) (by decide) rfl sg_lay_RX12 (j := 25) (by decide) (o1 := 75) (by first | rfl | omega) rfl (host := "") (.inl kw_972) dX12_where_64 (fun h17 => ?_)
            refine gw_iload_n F 3 rfl rfl dX12_where_67 ?_
            obtain ⟨⟨b180, b181⟩, hf⟩ := hf
            refine gw_iald F (sa_75 hst) b180 b181 dX12_where_68 (fun h19 => ?_)
            refine gw_iload F 5 rfl dX12_where_69 ?_
            refine gk_HI F (gc_V F (S := []) (As := [sg_i (s14 75 x3), sg_i x5]) (T := TX12) (N := 62) (CX12_toneOf hst h19 r5 hf) (so_64 hst) (by decide) rfl kw_1130 kw_103 kw_1128 kw_1129 kw_57 hcX12_toneOf ⟨by decide, by decide⟩ rfl rfl (Nat.le_of_ble_eq_true rfl) ⟨by decide, by decide⟩ dX12_where_71) (fun u20 s22 h21 hf => ?_)
            refine gw_istore F (by decide) rfl dX12_where_74 ?_
            refine gw_iload F 0 rfl dX12_where_76 ?_
            refine gw_iconst F dX12_where_78 ?_
            refine gw_icmp_ne F (tgt := 84) dX12_where_79 (by decide) h21 (by decide) (fun c23 => ?_) (fun c23 => ?_)
            · have hf := hf.1 c23
              refine gw_iconst F dX12_where_84 ?_
              refine gw_istore F (by decide) rfl dX12_where_85 ?_
              have L87 : ∀ (k117 : sg_M → Prop) (hk117 : ∀ (s_117e87 : sg_M), k117 s_117e87 → sg_W p l e (sg_rm 4 0 0) s m args below meth c (MQ below (sg_Q (some .int) G La s.heap.size (sg_HI La Q)) args s 0 0 (sg_A La s.heap.size)) 10 G (sg_A La s.heap.size) La s_117e87 0 0 117 [(0, sg_r 64), (3, sg_i x3), (4, sg_i x4)] []), ∀ n_87 : Nat, ∀ (s_87 : sg_M) (x7_87 : Int), sg_R x7_87 → fX12_where_L87 u20 k117 n_87 s_87 x7_87 → sg_W p l e (sg_rm 4 0 0) s m args below meth c (MQ below (sg_Q (some .int) G La s.heap.size (sg_HI La Q)) args s 0 0 (sg_A La s.heap.size)) 10 G (sg_A La s.heap.size) La s_87 0 0 87 [(0, sg_r 64), (3, sg_i x3), (4, sg_i x4), (6, sg_i u20), (7, sg_i x7_87)] [] := by
                intro k117 hk117 n_87
                induction n_87 with
                | zero => intro s_87 x7_87 r7_87 hf; exact hf.elim
                | succ n_87 ih =>
                  intro s_87 x7_87 r7_87 hf
                  unfold fX12_where_L87 at hf
                  refine gw_iload F 4 rfl dX12_where_87 ?_
                  refine gw_aload_n F 0 rfl rfl (by decide) dX12_where_89 ?_
                  refine gw_get0 F (so_64 hst) (by decide) rfl sg_lay_RX12 (j := 27) (by decide) rfl (host := "") (.inl kw_974) dX12_where_90 (fun h24 => ?_)
                  refine gw_icmp_ge F (tgt := 117) dX12_where_93 (by decide) r7_87 h24 (fun c25 => ?_) (fun c25 => ?_)
                  · have hf := hf.1 c25
                    refine gw_sub [0, 1, 2] rfl ?_
                    exact hk117 s_87 hf
                  · have hf := hf.2 c25
                    refine gw_aload_n F 0 rfl rfl (by decide) dX12_where_96 ?_
                    refine gw_get7 F (so_64 hst) (by decide) rfl sg_lay_RX12 (j := 36) (by decide) (o1 := 79) (by first | rfl | omega) rfl (host := "") (.inl kw_983) dX12_where_97 (fun h26 => ?_)
                    refine gw_iload F 4 rfl dX12_where_100 ?_
                    refine gw_aload_n F 0 rfl rfl (by decide) dX12_where_102 ?_
                    refine gw_iload F 4 rfl dX12_where_103 ?_
                    refine gw_iload F 3 rfl dX12_where_105 ?_
                    refine gk_PI F (gc_V F (S := [sg_i x7_87, sg_r 79]) (As := [sg_i x7_87, sg_i u20]) (T := TX12) (N := 62) (CX12_strengthAt hst r7_87 h21 hf) (so_64 hst) (by decide) rfl kw_1148 kw_103 kw_1146 kw_1147 kw_62 hcX12_strengthAt ⟨by decide, by decide⟩ rfl rfl (Nat.le_of_ble_eq_true rfl) ⟨by decide, by decide⟩ dX12_where_107) (fun u27 h28 hf => ?_)
                    obtain ⟨⟨b290, b291⟩, hf⟩ := hf
                    obtain ⟨s30, e31⟩ : ∃ z : sg_M, z = sg_up s_87 79 x7_87 u27 := ⟨_, rfl⟩
                    have hf := hf s30 e31
                    refine gw_iast F (sa_79 hst) b290 b291 h28 e31 dX12_where_110 ?_
                    refine gw_iinc F (z := (x7_87 + 1)) 4 rfl (by omega) (by decide) rfl dX12_where_111 ?_
                    refine gw_goto F (tgt := 87) dX12_where_114 (by decide) ?_
                    obtain ⟨g32, hf⟩ := hf
                    refine gw_sub [1, 2, 3, 4, 0] rfl ?_
                    exact ih s30 (x7_87 + 1) g32 hf
              obtain ⟨n33, hf⟩ := hf
              refine gw_sub [2, 5, 6, 1, 0] rfl ?_
              refine L87 _ (fun s_117e87 hf => ?_) n33 s22 0 (by decide) hf
              refine gw_aload_n F 0 rfl rfl (by decide) dX12_where_117 ?_
              refine gw_aload_n F 0 rfl rfl (by decide) dX12_where_118 ?_
              refine gw_get7 F (so_64 hst) (by decide) rfl sg_lay_RX12 (j := 25) (by decide) (o1 := 75) (by first | rfl | omega) rfl (host := "") (.inl kw_972) dX12_where_119 (fun h34 => ?_)
              refine gw_iload_n F 1 rfl rfl dX12_where_122 ?_
              obtain ⟨⟨b350, b351⟩, hf⟩ := hf
              refine gw_iald F (sa_75 hst) b350 b351 dX12_where_123 (fun h36 => ?_)
              refine gw_iload F 2 rfl dX12_where_124 ?_
              refine gk_HI F (gc_V F (S := []) (As := [sg_i (s_117e87 75 x3), sg_i x4]) (T := TX12) (N := 62) (CX12_toneOf hst h36 r4 hf) (so_64 hst) (by decide) rfl kw_1130 kw_103 kw_1128 kw_1129 kw_57 hcX12_toneOf ⟨by decide, by decide⟩ rfl rfl (Nat.le_of_ble_eq_true rfl) ⟨by decide, by decide⟩ dX12_where_126) (fun u37 s39 h38 hf => ?_)
              refine gw_istore F (by decide) rfl dX12_where_129 ?_
              refine gw_iload F 0 rfl dX12_where_131 ?_
              refine gw_iconst F dX12_where_133 ?_
              refine gw_icmp_ne F (tgt := 139) dX12_where_134 (by decide) h38 (by decide) (fun c40 => ?_) (fun c40 => ?_)
              · have hf := hf.1 c40
                refine gw_iconst F dX12_where_139 ?_
                refine gw_istore F (by decide) rfl dX12_where_140 ?_
                refine gw_iconst F dX12_where_142 ?_
                refine gw_istore F (by decide) rfl dX12_where_143 ?_
                have L145 : ∀ n_145 : Nat, ∀ (x8_145 : Int) (x9_145 : Int), sg_R x8_145 → sg_R x9_145 → fX12_where_L145 u37 s39 Q n_145 x8_145 x9_145 → sg_W p l e (sg_rm 4 0 0) s m args below meth c (MQ below (sg_Q (some .int) G La s.heap.size (sg_HI La Q)) args s 0 0 (sg_A La s.heap.size)) 10 G (sg_A La s.heap.size) La s39 0 0 145 [(0, sg_r 64), (7, sg_i u37), (8, sg_i x8_145), (9, sg_i x9_145)] [] := by
                  intro n_145
                  induction n_145 with
                  | zero => intro x8_145 x9_145 r8_145 r9_145 hf; exact hf.elim
                  | succ n_145 ih =>
                    intro x8_145 x9_145 r8_145 r9_145 hf
                    unfold fX12_where_L145 at hf
                    refine gw_iload F 3 rfl dX12_where_145 ?_
                    refine gw_aload_n F 0 rfl rfl (by decide) dX12_where_147 ?_
                    refine gw_get0 F (so_64 hst) (by decide) rfl sg_lay_RX12 (j := 27) (by decide) rfl (host := "") (.inl kw_974) dX12_where_148 (fun h41 => ?_)
                    refine gw_icmp_ge F (tgt := 199) dX12_where_151 (by decide) r9_145 h41 (fun c42 => ?_) (fun c42 => ?_)
                    · have hf := hf.1 c42
                      refine gw_aload_n F 0 rfl rfl (by decide) dX12_where_199 ?_
                      refine gw_aload_n F 0 rfl rfl (by decide) dX12_where_200 ?_
                      refine gw_iload F 2 rfl dX12_where_201 ?_
                      refine gw_iload F 1 rfl dX12_where_203 ?_
                      refine gk_PI F (gc_V F (S := [sg_r 64]) (As := [sg_i x8_145, sg_i u37]) (T := TX12) (N := 62) (CX12_strengthAt hst r8_145 h38 hf) (so_64 hst) (by decide) rfl kw_1148 kw_103 kw_1146 kw_1147 kw_62 hcX12_strengthAt ⟨by decide, by decide⟩ rfl rfl (Nat.le_of_ble_eq_true rfl) ⟨by decide, by decide⟩ dX12_where_205) (fun u43 h44 hf => ?_)
                      refine gw_aload_n F 0 rfl rfl (by decide) dX12_where_208 ?_
                      refine gw_get7 F (so_64 hst) (by decide) rfl sg_lay_RX12 (j := 36) (by decide) (o1 := 79) (by first | rfl | omega) rfl (host := "") (.inl kw_983) dX12_where_209 (fun h45 => ?_)
                      refine gw_iload F 2 rfl dX12_where_212 ?_
                      obtain ⟨⟨b460, b461⟩, hf⟩ := hf
                      refine gw_iald F (sa_79 hst) b460 b461 dX12_where_214 (fun h47 => ?_)
                      refine gw_isub F rfl dX12_where_215 ?_
                      obtain ⟨g48, hf⟩ := hf
                      obtain ⟨s49, e50⟩ : ∃ z : sg_M, z = sg_up s39 64 38 (u43 - (s39 79 x8_145)) := ⟨_, rfl⟩
                      have hf := hf s49 e50
                      refine gw_put0 F (so_64 hst) (by decide) rfl sg_lay_RX12 (j := 38) (by decide) g48 e50 tyX12_ok nmX12 rfl (tyX12_ok 38 (by decide)) rfl (host := "") (.inl kw_985) dX12_where_216 ?_
                      refine gw_iload F 2 rfl dX12_where_219 ?_
                      exact gr_HI F r8_145 hf (by decide) (by decide) dX12_where_221
                    · have hf := hf.2 c42
                      refine gw_aload_n F 0 rfl rfl (by decide) dX12_where_154 ?_
                      refine gw_iload F 3 rfl dX12_where_155 ?_
                      refine gw_iload F 1 rfl dX12_where_157 ?_
                      refine gk_PI F (gc_V F (S := []) (As := [sg_i x9_145, sg_i u37]) (T := TX12) (N := 62) (CX12_strengthAt hst r9_145 h38 hf) (so_64 hst) (by decide) rfl kw_1148 kw_103 kw_1146 kw_1147 kw_62 hcX12_strengthAt ⟨by decide, by decide⟩ rfl rfl (Nat.le_of_ble_eq_true rfl) ⟨by decide, by decide⟩ dX12_where_159) (fun u51 h52 hf => ?_)
                      refine gw_aload_n F 0 rfl rfl (by decide) dX12_where_162 ?_
                      refine gw_get7 F (so_64 hst) (by decide) rfl sg_lay_RX12 (j := 36) (by decide) (o1 := 79) (by first | rfl | omega) rfl (host := "") (.inl kw_983) dX12_where_163 (fun h53 => ?_)
                      refine gw_iload F 3 rfl dX12_where_166 ?_
                      obtain ⟨⟨b540, b541⟩, hf⟩ := hf
                      refine gw_iald F (sa_79 hst) b540 b541 dX12_where_168 (fun h55 => ?_)
                      refine gw_isub F rfl dX12_where_169 ?_
                      refine gw_aload_n F 0 rfl rfl (by decide) dX12_where_170 ?_
                      refine gw_iload F 2 rfl dX12_where_171 ?_
                      refine gw_iload F 1 rfl dX12_where_173 ?_
                      refine gk_PI F (gc_V F (S := [sg_i (u51 - (s39 79 x9_145))]) (As := [sg_i x8_145, sg_i u37]) (T := TX12) (N := 62) (CX12_strengthAt hst r8_145 h38 hf) (so_64 hst) (by decide) rfl kw_1148 kw_103 kw_1146 kw_1147 kw_62 hcX12_strengthAt ⟨by decide, by decide⟩ rfl rfl (Nat.le_of_ble_eq_true rfl) ⟨by decide, by decide⟩ dX12_where_175) (fun u56 h57 hf => ?_)
                      refine gw_aload_n F 0 rfl rfl (by decide) dX12_where_178 ?_
                      refine gw_get7 F (so_64 hst) (by decide) rfl sg_lay_RX12 (j := 36) (by decide) (o1 := 79) (by first | rfl | omega) rfl (host := "") (.inl kw_983) dX12_where_179 (fun h58 => ?_)
                      refine gw_iload F 2 rfl dX12_where_182 ?_
                      obtain ⟨⟨b590, b591⟩, hf⟩ := hf
                      refine gw_iald F (sa_79 hst) b590 b591 dX12_where_184 (fun h60 => ?_)
                      refine gw_isub F rfl dX12_where_185 ?_
                      have J193 : ∀ (x8_193 : Int), sg_R x8_193 → (fX12_where_j193 x9_145 (fX12_where_L145 u37 s39 Q n_145)) x8_193 → sg_W p l e (sg_rm 4 0 0) s m args below meth c (MQ below (sg_Q (some .int) G La s.heap.size (sg_HI La Q)) args s 0 0 (sg_A La s.heap.size)) 10 G (sg_A La s.heap.size) La s39 0 0 193 [(0, sg_r 64), (7, sg_i u37), (8, sg_i x8_193), (9, sg_i x9_145)] [] := by
                        intro x8_193 r8_193 hf
                        unfold fX12_where_j193 at hf
                        refine gw_iinc F (z := (x9_145 + 1)) 3 rfl (by omega) (by decide) rfl dX12_where_193 ?_
                        refine gw_goto F (tgt := 145) dX12_where_196 (by decide) ?_
                        obtain ⟨g61, hf⟩ := hf
                        refine gw_sub [1, 2, 3, 0] rfl ?_
                        exact ih x8_193 (x9_145 + 1) r8_193 g61 hf
                      obtain ⟨g62, hf⟩ := hf
                      obtain ⟨g63, hf⟩ := hf
                      refine gw_icmp_le F (tgt := 193) dX12_where_186 (by decide) g62 g63 (fun c64 => ?_) (fun c64 => ?_)
                      · have hf := hf.1 c64
                        refine gw_sub [0, 1, 2, 3] rfl ?_
                        exact J193 x8_145 r8_145 hf
                      · have hf := hf.2 c64
                        refine gw_iload F 3 rfl dX12_where_189 ?_
                        refine gw_istore F (by decide) rfl dX12_where_191 ?_
                        refine gw_sub [1, 2, 0, 3] rfl ?_
                        exact J193 x9_145 r9_145 hf
                obtain ⟨n65, hf⟩ := hf
                refine gw_sub [3, 2, 1, 0] rfl ?_
                refine L145   n65 0 1 (by decide) (by decide) hf
              · have hf := hf.2 c40
                refine gw_iconst F dX12_where_137 ?_
                exact gr_HI F (by decide) hf (by decide) (by decide) dX12_where_138
            · have hf := hf.2 c23
              refine gw_iconst F dX12_where_82 ?_
              exact gr_HI F (by decide) hf (by decide) (by decide) dX12_where_83
          · have hf := hf.2 c16
            refine gw_iconst F dX12_where_60 ?_
            exact gr_HI F (by decide) hf (by decide) (by decide) dX12_where_61
        · have hf := hf.2 c13
          refine gw_iconst F dX12_where_41 ?_
          exact gr_HI F (by decide) hf (by decide) (by decide) dX12_where_42
