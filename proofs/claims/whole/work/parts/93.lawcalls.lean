section SGLC
theorem dL_piece_0 : decode cL_piece 0 = .ok (.aload_n 3, 1) := by decide +kernel
theorem dL_piece_1 : decode cL_piece 1 = .ok (.iconst 0, 1) := by decide +kernel
theorem dL_piece_2 : decode cL_piece 2 = .ok (.aload_n 0, 1) := by decide +kernel
theorem dL_piece_3 : decode cL_piece 3 = .ok (.iload_n 1, 1) := by decide +kernel
theorem dL_piece_4 : decode cL_piece 4 = .ok (.iload_n 2, 1) := by decide +kernel
theorem dL_piece_5 : decode cL_piece 5 = .ok (.invokevirtual 7, 3) := by decide +kernel
theorem dL_piece_8 : decode cL_piece 8 = .ok (.i2l, 1) := by decide +kernel
theorem dL_piece_9 : decode cL_piece 9 = .ok (.lastore, 1) := by decide +kernel
theorem dL_piece_10 : decode cL_piece 10 = .ok (.goto 7, 3) := by decide +kernel
theorem dL_piece_13 : decode cL_piece 13 = .ok (.astore 4, 2) := by decide +kernel
theorem dL_piece_15 : decode cL_piece 15 = .ok (.iconst 1, 1) := by decide +kernel
theorem dL_piece_16 : decode cL_piece 16 = .ok (.ireturn, 1) := by decide +kernel
theorem dL_piece_17 : decode cL_piece 17 = .ok (.iconst 0, 1) := by decide +kernel
theorem dL_piece_18 : decode cL_piece 18 = .ok (.ireturn, 1) := by decide +kernel
theorem wL_piece : Cond.codeWith yL_piece cL_piece 5 (some .int) [(0, 10, 13, 13)] ∈ sg_W0 := sg_m5 (List.mem_of_getElem? (i := 65) rfl) rfl
theorem CL_piece {l : Launch} {G : sg_G} {La : sg_L} {s0 : sg_M} (hl0 : l.stackTraces = false) (hst : sg_St La) (t88 : sg_O La 88 50001) {x1 : Int} (r1 : sg_R x1) {x2 : Int} (r2 : sg_R x2) {Q : Int → sg_M → Prop} (hf : fX11_piece s0 x1 x2 (Q 1 s0) (fun u => Q 0 (sg_up s0 88 0 u))) : ∀ sz : Nat, Met l yL_piece (.codeWith yL_piece cL_piece 5 (some .int) [(0, 10, 13, 13)] :: sg_W0) (sg_rm 7 1 6) (sg_Pc G La s0 sz [sg_r 0, sg_i x1, sg_i x2, sg_r 88]) (sg_Q (some .int) G La sz (sg_HI La Q)) 1 6 (sg_A La sz) := by
  refine sg_bodyH (by decide +kernel) (Nat.le_of_ble_eq_true rfl) ?_
  intro p e s m args below meth c F htab
  show sg_W p l e (sg_rm 7 1 6) s m args below meth c (MQ below (sg_Q (some .int) G La s.heap.size (sg_HI La Q)) args s 1 6 (sg_A La s.heap.size)) 5 G (sg_A La s.heap.size) La s0 0 0 0 [(0, sg_r 0), (1, sg_i x1), (2, sg_i x2), (3, sg_r 88)] []
  refine gw_aload_n F 3 rfl rfl (by decide) dL_piece_0 ?_
  refine gw_iconst F dL_piece_1 ?_
  refine gw_aload_n F 0 rfl rfl (by decide) dL_piece_2 ?_
  refine gw_iload_n F 1 rfl rfl dL_piece_3 ?_
  refine gw_iload_n F 2 rfl rfl dL_piece_4 ?_
  refine gx_call F (S := [sg_i 0, sg_r 88]) (As := [sg_i x1, sg_i x2]) (Tb := TX11) (N := 19) (CX11_piece hl0 hst r1 r2 hf) (so_0 hst) (by decide) rfl kw_887 kw_90 kw_884 kw_885 kw_886 hcX11_piece ⟨by decide, by decide⟩ rfl rfl (Nat.le_of_ble_eq_true rfl) ⟨by decide, by decide⟩ dL_piece_5 (fun v La1 s1 h => h.1) (x := ⟨0, 10, 13, 13⟩) htab (by decide) (by decide) kw_883 (fun hT q => ?_) (fun v s1 hv => ?_)
  · refine gw_astorea F (by decide) rfl dL_piece_13 ?_
    refine gw_iconst F dL_piece_15 ?_
    exact gr_HI F (by decide) hT (by decide) (by decide) dL_piece_16
  · obtain ⟨-, e1, r, rfl, hr, hq⟩ := hv
    subst e1
    refine gw_i2l F hr dL_piece_8 ?_
    refine gw_last F (kd := 50001) (n := 1) t88 (by decide) (by decide) (by decide) (by decide) (by decide) (sg_R_64 hr) rfl dL_piece_9 ?_
    refine gw_goto F (tgt := 17) dL_piece_10 (by decide) ?_
    refine gw_iconst F dL_piece_17 ?_
    exact gr_HI F (by decide) hq (by decide) (by decide) dL_piece_18
theorem hcL_piece : yL_piece.cls ≠ "java/lang/invoke/MethodHandle" ∧ yL_piece.cls ≠ "java/lang/invoke/VarHandle" ∧ (parseMethodDescriptor yL_piece.desc).map (fun d => d.parameters.length) = some 4 := ⟨by decide +kernel, by decide +kernel, by decide +kernel⟩
theorem dL_bend_0 : decode cL_bend 0 = .ok (.aload 5, 2) := by decide +kernel
theorem dL_bend_2 : decode cL_bend 2 = .ok (.iconst 0, 1) := by decide +kernel
theorem dL_bend_3 : decode cL_bend 3 = .ok (.aload_n 0, 1) := by decide +kernel
theorem dL_bend_4 : decode cL_bend 4 = .ok (.iload_n 1, 1) := by decide +kernel
theorem dL_bend_5 : decode cL_bend 5 = .ok (.iload_n 2, 1) := by decide +kernel
theorem dL_bend_6 : decode cL_bend 6 = .ok (.iload_n 3, 1) := by decide +kernel
theorem dL_bend_7 : decode cL_bend 7 = .ok (.iload 4, 2) := by decide +kernel
theorem dL_bend_9 : decode cL_bend 9 = .ok (.invokevirtual 15, 3) := by decide +kernel
theorem dL_bend_12 : decode cL_bend 12 = .ok (.i2l, 1) := by decide +kernel
theorem dL_bend_13 : decode cL_bend 13 = .ok (.lastore, 1) := by decide +kernel
theorem dL_bend_14 : decode cL_bend 14 = .ok (.goto 7, 3) := by decide +kernel
theorem dL_bend_17 : decode cL_bend 17 = .ok (.astore 6, 2) := by decide +kernel
theorem dL_bend_19 : decode cL_bend 19 = .ok (.iconst 1, 1) := by decide +kernel
theorem dL_bend_20 : decode cL_bend 20 = .ok (.ireturn, 1) := by decide +kernel
theorem dL_bend_21 : decode cL_bend 21 = .ok (.iconst 0, 1) := by decide +kernel
theorem dL_bend_22 : decode cL_bend 22 = .ok (.ireturn, 1) := by decide +kernel
theorem wL_bend : Cond.codeWith yL_bend cL_bend 7 (some .int) [(0, 14, 17, 13)] ∈ sg_W0 := sg_m5 (List.mem_of_getElem? (i := 143) rfl) rfl
theorem CL_bend {l : Launch} {G : sg_G} {La : sg_L} {s0 : sg_M} (hl0 : l.stackTraces = false) (hst : sg_St La) (t88 : sg_O La 88 50001) {x1 : Int} (r1 : sg_R x1) {x2 : Int} (r2 : sg_R x2) {x3 : Int} (r3 : sg_R x3) {x4 : Int} (r4 : sg_R x4) {Q : Int → sg_M → Prop} (hf : fX11_bend s0 x1 x2 x3 x4 (Q 1 s0) (fun u => Q 0 (sg_up s0 88 0 u))) : ∀ sz : Nat, Met l yL_bend (.codeWith yL_bend cL_bend 7 (some .int) [(0, 14, 17, 13)] :: sg_W0) (sg_rm 7 1 6) (sg_Pc G La s0 sz [sg_r 0, sg_i x1, sg_i x2, sg_i x3, sg_i x4, sg_r 88]) (sg_Q (some .int) G La sz (sg_HI La Q)) 1 6 (sg_A La sz) := by
  refine sg_bodyH (by decide +kernel) (Nat.le_of_ble_eq_true rfl) ?_
  intro p e s m args below meth c F htab
  show sg_W p l e (sg_rm 7 1 6) s m args below meth c (MQ below (sg_Q (some .int) G La s.heap.size (sg_HI La Q)) args s 1 6 (sg_A La s.heap.size)) 7 G (sg_A La s.heap.size) La s0 0 0 0 [(0, sg_r 0), (1, sg_i x1), (2, sg_i x2), (3, sg_i x3), (4, sg_i x4), (5, sg_r 88)] []
  refine gw_aload F 5 rfl (by decide) dL_bend_0 ?_
  refine gw_iconst F dL_bend_2 ?_
  refine gw_aload_n F 0 rfl rfl (by decide) dL_bend_3 ?_
  refine gw_iload_n F 1 rfl rfl dL_bend_4 ?_
  refine gw_iload_n F 2 rfl rfl dL_bend_5 ?_
  refine gw_iload_n F 3 rfl rfl dL_bend_6 ?_
  refine gw_iload F 4 rfl dL_bend_7 ?_
  refine gx_call F (S := [sg_i 0, sg_r 88]) (As := [sg_i x1, sg_i x2, sg_i x3, sg_i x4]) (Tb := TX11) (N := 19) (CX11_bend hl0 hst r1 r2 r3 r4 hf) (so_0 hst) (by decide) rfl kw_936 kw_90 kw_933 kw_934 kw_935 hcX11_bend ⟨by decide, by decide⟩ rfl rfl (Nat.le_of_ble_eq_true rfl) ⟨by decide, by decide⟩ dL_bend_9 (fun v La1 s1 h => h.1) (x := ⟨0, 14, 17, 13⟩) htab (by decide) (by decide) kw_883 (fun hT q => ?_) (fun v s1 hv => ?_)
  · refine gw_astorea F (by decide) rfl dL_bend_17 ?_
    refine gw_iconst F dL_bend_19 ?_
    exact gr_HI F (by decide) hT (by decide) (by decide) dL_bend_20
  · obtain ⟨-, e1, r, rfl, hr, hq⟩ := hv
    subst e1
    refine gw_i2l F hr dL_bend_12 ?_
    refine gw_last F (kd := 50001) (n := 1) t88 (by decide) (by decide) (by decide) (by decide) (by decide) (sg_R_64 hr) rfl dL_bend_13 ?_
    refine gw_goto F (tgt := 21) dL_bend_14 (by decide) ?_
    refine gw_iconst F dL_bend_21 ?_
    exact gr_HI F (by decide) hq (by decide) (by decide) dL_bend_22
theorem hcL_bend : yL_bend.cls ≠ "java/lang/invoke/MethodHandle" ∧ yL_bend.cls ≠ "java/lang/invoke/VarHandle" ∧ (parseMethodDescriptor yL_bend.desc).map (fun d => d.parameters.length) = some 6 := ⟨by decide +kernel, by decide +kernel, by decide +kernel⟩
theorem dL_tick_0 : decode cL_tick 0 = .ok (.aload_n 3, 1) := by decide +kernel
theorem dL_tick_1 : decode cL_tick 1 = .ok (.iconst 0, 1) := by decide +kernel
theorem dL_tick_2 : decode cL_tick 2 = .ok (.aload_n 0, 1) := by decide +kernel
theorem dL_tick_3 : decode cL_tick 3 = .ok (.iload_n 1, 1) := by decide +kernel
theorem dL_tick_4 : decode cL_tick 4 = .ok (.iload_n 2, 1) := by decide +kernel
theorem dL_tick_5 : decode cL_tick 5 = .ok (.invokevirtual 19, 3) := by decide +kernel
theorem dL_tick_8 : decode cL_tick 8 = .ok (.i2l, 1) := by decide +kernel
theorem dL_tick_9 : decode cL_tick 9 = .ok (.lastore, 1) := by decide +kernel
theorem dL_tick_10 : decode cL_tick 10 = .ok (.goto 7, 3) := by decide +kernel
theorem dL_tick_13 : decode cL_tick 13 = .ok (.astore 4, 2) := by decide +kernel
theorem dL_tick_15 : decode cL_tick 15 = .ok (.iconst 1, 1) := by decide +kernel
theorem dL_tick_16 : decode cL_tick 16 = .ok (.ireturn, 1) := by decide +kernel
theorem dL_tick_17 : decode cL_tick 17 = .ok (.iconst 0, 1) := by decide +kernel
theorem dL_tick_18 : decode cL_tick 18 = .ok (.ireturn, 1) := by decide +kernel
theorem wL_tick : Cond.codeWith yL_tick cL_tick 5 (some .int) [(0, 10, 13, 13)] ∈ sg_W0 := sg_m5 (List.mem_of_getElem? (i := 158) rfl) rfl
theorem CL_tick {l : Launch} {G : sg_G} {La : sg_L} {s0 : sg_M} (hl0 : l.stackTraces = false) (hst : sg_St La) (t88 : sg_O La 88 50001) {x1 : Int} (r1 : sg_R x1) {x2 : Int} (r2 : sg_R x2) {Q : Int → sg_M → Prop} (hf : fX11_tick La s0 x1 x2 (Q 1 s0) (fun u t => Q 0 (sg_up t 88 0 u))) : ∀ sz : Nat, Met l yL_tick (.codeWith yL_tick cL_tick 5 (some .int) [(0, 10, 13, 13)] :: sg_W0) (sg_rm 7 1 6) (sg_Pc G La s0 sz [sg_r 0, sg_i x1, sg_i x2, sg_r 88]) (sg_Q (some .int) G La sz (sg_HI La Q)) 1 6 (sg_A La sz) := by
  refine sg_bodyH (by decide +kernel) (Nat.le_of_ble_eq_true rfl) ?_
  intro p e s m args below meth c F htab
  show sg_W p l e (sg_rm 7 1 6) s m args below meth c (MQ below (sg_Q (some .int) G La s.heap.size (sg_HI La Q)) args s 1 6 (sg_A La s.heap.size)) 5 G (sg_A La s.heap.size) La s0 0 0 0 [(0, sg_r 0), (1, sg_i x1), (2, sg_i x2), (3, sg_r 88)] []
  refine gw_aload_n F 3 rfl rfl (by decide) dL_tick_0 ?_
  refine gw_iconst F dL_tick_1 ?_
  refine gw_aload_n F 0 rfl rfl (by decide) dL_tick_2 ?_
  refine gw_iload_n F 1 rfl rfl dL_tick_3 ?_
  refine gw_iload_n F 2 rfl rfl dL_tick_4 ?_
  refine gx_call F (S := [sg_i 0, sg_r 88]) (As := [sg_i x1, sg_i x2]) (Tb := TX11) (N := 19) (CX11_tick hl0 hst r1 r2 hf) (so_0 hst) (by decide) rfl kw_949 kw_90 kw_946 kw_947 kw_948 hcX11_tick ⟨by decide, by decide⟩ rfl rfl (Nat.le_of_ble_eq_true rfl) ⟨by decide, by decide⟩ dL_tick_5 (fun v La1 s1 h => h.1) (x := ⟨0, 10, 13, 13⟩) htab (by decide) (by decide) kw_883 (fun hT q => ?_) (fun v s1 hv => ?_)
  · refine gw_astorea F (by decide) rfl dL_tick_13 ?_
    refine gw_iconst F dL_tick_15 ?_
    exact gr_HI F (by decide) hT (by decide) (by decide) dL_tick_16
  · obtain ⟨-, r, rfl, hr, hq⟩ := hv
    refine gw_i2l F hr dL_tick_8 ?_
    refine gw_last F (kd := 50001) (n := 1) t88 (by decide) (by decide) (by decide) (by decide) (by decide) (sg_R_64 hr) rfl dL_tick_9 ?_
    refine gw_goto F (tgt := 17) dL_tick_10 (by decide) ?_
    refine gw_iconst F dL_tick_17 ?_
    exact gr_HI F (by decide) hq (by decide) (by decide) dL_tick_18
theorem hcL_tick : yL_tick.cls ≠ "java/lang/invoke/MethodHandle" ∧ yL_tick.cls ≠ "java/lang/invoke/VarHandle" ∧ (parseMethodDescriptor yL_tick.desc).map (fun d => d.parameters.length) = some 4 := ⟨by decide +kernel, by decide +kernel, by decide +kernel⟩
end SGLC
