section SGXT
theorem dX11_piece_0 : decode cX11_piece 0 = .ok (.aload_n 0, 1) := by decide +kernel
theorem dX11_piece_1 : decode cX11_piece 1 = .ok (.getfield 39, 3) := by decide +kernel
theorem dX11_piece_4 : decode cX11_piece 4 = .ok (.getfield 112, 3) := by decide +kernel
theorem dX11_piece_7 : decode cX11_piece 7 = .ok (.iload_n 1, 1) := by decide +kernel
theorem dX11_piece_8 : decode cX11_piece 8 = .ok (.invokevirtual 143, 3) := by decide +kernel
theorem dX11_piece_11 : decode cX11_piece 11 = .ok (.ifCond .eq 12, 3) := by decide +kernel
theorem dX11_piece_14 : decode cX11_piece 14 = .ok (.iload_n 2, 1) := by decide +kernel
theorem dX11_piece_15 : decode cX11_piece 15 = .ok (.ifCond .lt 8, 3) := by decide +kernel
theorem dX11_piece_18 : decode cX11_piece 18 = .ok (.iload_n 2, 1) := by decide +kernel
theorem dX11_piece_19 : decode cX11_piece 19 = .ok (.iconst 4, 1) := by decide +kernel
theorem dX11_piece_20 : decode cX11_piece 20 = .ok (.if_icmp .le 13, 3) := by decide +kernel
theorem dX11_piece_23 : decode cX11_piece 23 = .ok (.new 147, 3) := by decide +kernel
theorem dX11_piece_26 : decode cX11_piece 26 = .ok (.dup, 1) := by decide +kernel
theorem dX11_piece_27 : decode cX11_piece 27 = .ok (.ldc 149, 2) := by decide +kernel
theorem dX11_piece_29 : decode cX11_piece 29 = .ok (.invokespecial 151, 3) := by decide +kernel
theorem dX11_piece_32 : decode cX11_piece 32 = .ok (.athrow, 1) := by decide +kernel
theorem dX11_piece_33 : decode cX11_piece 33 = .ok (.aload_n 0, 1) := by decide +kernel
theorem dX11_piece_34 : decode cX11_piece 34 = .ok (.getfield 39, 3) := by decide +kernel
theorem dX11_piece_37 : decode cX11_piece 37 = .ok (.getfield 112, 3) := by decide +kernel
theorem dX11_piece_40 : decode cX11_piece 40 = .ok (.iload_n 1, 1) := by decide +kernel
theorem dX11_piece_41 : decode cX11_piece 41 = .ok (.iload_n 2, 1) := by decide +kernel
theorem dX11_piece_42 : decode cX11_piece 42 = .ok (.invokevirtual 154, 3) := by decide +kernel
theorem dX11_piece_45 : decode cX11_piece 45 = .ok (.ireturn, 1) := by decide +kernel
theorem hcX11_piece : yX11_piece.cls ≠ "java/lang/invoke/MethodHandle" ∧ yX11_piece.cls ≠ "java/lang/invoke/VarHandle" ∧ (parseMethodDescriptor yX11_piece.desc).map (fun d => d.parameters.length) = some 2 := ⟨by decide +kernel, by decide +kernel, by decide +kernel⟩
def fX11_piece_j23 (T : Prop)  : Prop := T
def fX11_piece (s0 : sg_M) (x1 : Int) (x2 : Int) (T : Prop) (Q : Int → Prop) : Prop := (0 ≤ (s0 4 0)) ∧ fX1_has s0 (s0 4 0) x1 (fun u5 => ((u5 = 0 → (fX11_piece_j23 T)) ∧ (¬ (u5 = 0) → ((x2 < 0 → (fX11_piece_j23 T)) ∧ (¬ (x2 < 0) → ((x2 ≤ 4 → (0 ≤ (s0 4 0)) ∧ fX1_told s0 (s0 4 0) x1 x2 (fun u14 => Q u14)) ∧ (¬ (x2 ≤ 4) → (fX11_piece_j23 T))))))))
set_option maxHeartbeats 4000000 in
set_option maxRecDepth 100000 in
theorem CX11_piece {l : Launch} {G : sg_G} {La : sg_L} {s0 : sg_M} (hl0 : l.stackTraces = false) (hst : sg_St La) {x1 : Int} (r1 : sg_R x1) {x2 : Int} (r2 : sg_R x2) {T : Prop} {Q : Int → Prop} (hf : fX11_piece s0 x1 x2 T Q) : sg_CX l G yX11_piece cX11_piece 3 (some .int) 6 1 6 La s0 [sg_r 0, sg_i x1, sg_i x2] (sg_PI La s0 Q) T := by
  refine sg_bodyX (by decide +kernel) (Nat.le_of_ble_eq_true rfl) ?_
  intro p e s m args below meth c F htab
  unfold fX11_piece at hf
  show sg_W p l e (sg_rm 6 1 6) s m args below meth c (vx_MQ below (sg_Q (some .int) G La s.heap.size (sg_PI La s0 Q)) (sg_XC G La s0 s.heap.size T) args s 1 6 (sg_A La s.heap.size)) 3 G (sg_A La s.heap.size) La s0 0 0 0 [(0, sg_r 0), (1, sg_i x1), (2, sg_i x2)] []
  refine gw_aload_n F 0 rfl rfl (by decide) dX11_piece_0 ?_
  refine gw_get7 F (so_0 hst) (by decide) rfl sg_lay_RX11 (j := 2) (by decide) (o1 := 4) (by first | rfl | omega) rfl (host := "") (.inl kw_328) dX11_piece_1 (fun h1 => ?_)
  refine gw_get4 F (so_4 hst) (by decide) rfl sg_lay_RX7 (j := 0) (by decide) rfl (.inr kw_234) dX11_piece_4 (fun h2 => ?_)
  refine gw_iload_n F 1 rfl rfl dX11_piece_7 ?_
  obtain ⟨g3, hf⟩ := hf
  have t4 := sg_nn h2 g3
  refine gk_PZ F (gc_V F (S := []) (As := [sg_i x1]) (T := TX1) (N := 7) (CX1_has t4 r1 hf) t4 (by decide) rfl kw_518 kw_94 kw_888 kw_516 kw_517 hcX1_has ⟨by decide, by decide⟩ rfl rfl (Nat.le_of_ble_eq_true rfl) ⟨by decide, by decide⟩ dX11_piece_8) (fun u5 h6 hf => ?_)
  have J23 : (fX11_piece_j23 T) → sg_W p l e (sg_rm 6 1 6) s m args below meth c (vx_MQ below (sg_Q (some .int) G La s.heap.size (sg_PI La s0 Q)) (sg_XC G La s0 s.heap.size T) args s 1 6 (sg_A La s.heap.size)) 3 G (sg_A La s.heap.size) La s0 0 0 23 [] [] := by
    intro hf
    unfold fX11_piece_j23 at hf
    exact gx_throw F hl0 htab (i := 22) rfl kw_889 kw_111 dX11_piece_23 dX11_piece_26 dX11_piece_27 dX11_piece_29 dX11_piece_32 (by decide) ⟨by decide, by decide⟩ (by decide) (by decide) (by decide) (by decide) hf
  refine gw_if_eq F (tgt := 23) dX11_piece_11 (by decide) (sg_B_R h6) (fun c7 => ?_) (fun c7 => ?_)
  · have hf := hf.1 c7
    refine gw_sub [] rfl ?_
    exact J23  hf
  · have hf := hf.2 c7
    refine gw_iload_n F 2 rfl rfl dX11_piece_14 ?_
    refine gw_if_lt F (tgt := 23) dX11_piece_15 (by decide) r2 (fun c8 => ?_) (fun c8 => ?_)
    · have hf := hf.1 c8
      refine gw_sub [] rfl ?_
      exact J23  hf
    · have hf := hf.2 c8
      refine gw_iload_n F 2 rfl rfl dX11_piece_18 ?_
      refine gw_iconst F dX11_piece_19 ?_
      refine gw_icmp_le F (tgt := 33) dX11_piece_20 (by decide) r2 (by decide) (fun c9 => ?_) (fun c9 => ?_)
      · have hf := hf.1 c9
        refine gw_aload_n F 0 rfl rfl (by decide) dX11_piece_33 ?_
        refine gw_get7 F (so_0 hst) (by decide) rfl sg_lay_RX11 (j := 2) (by decide) (o1 := 4) (by first | rfl | omega) rfl (host := "") (.inl kw_328) dX11_piece_34 (fun h10 => ?_)
        refine gw_get4 F (so_4 hst) (by decide) rfl sg_lay_RX7 (j := 0) (by decide) rfl (.inr kw_234) dX11_piece_37 (fun h11 => ?_)
        refine gw_iload_n F 1 rfl rfl dX11_piece_40 ?_
        refine gw_iload_n F 2 rfl rfl dX11_piece_41 ?_
        obtain ⟨g12, hf⟩ := hf
        have t13 := sg_nn h11 g12
        refine gk_PI F (gc_V F (S := []) (As := [sg_i x1, sg_i x2]) (T := TX1) (N := 7) (CX1_told t13 r1 r2 hf) t13 (by decide) rfl kw_930 kw_94 kw_927 kw_928 kw_929 hcX1_told ⟨by decide, by decide⟩ rfl rfl (Nat.le_of_ble_eq_true rfl) ⟨by decide, by decide⟩ dX11_piece_42) (fun u14 h15 hf => ?_)
        refine gx_ret ?_
        exact gr_PI F h15 hf (by decide) (by decide) dX11_piece_45
      · have hf := hf.2 c9
        refine gw_sub [] rfl ?_
        exact J23  hf
theorem dX11_bend_0 : decode cX11_bend 0 = .ok (.iload_n 1, 1) := by decide +kernel
theorem dX11_bend_1 : decode cX11_bend 1 = .ok (.iload_n 2, 1) := by decide +kernel
theorem dX11_bend_2 : decode cX11_bend 2 = .ok (.invokestatic 158, 3) := by decide +kernel
theorem dX11_bend_5 : decode cX11_bend 5 = .ok (.ifCond .eq 28, 3) := by decide +kernel
theorem dX11_bend_8 : decode cX11_bend 8 = .ok (.aload_n 0, 1) := by decide +kernel
theorem dX11_bend_9 : decode cX11_bend 9 = .ok (.getfield 39, 3) := by decide +kernel
theorem dX11_bend_12 : decode cX11_bend 12 = .ok (.getfield 112, 3) := by decide +kernel
theorem dX11_bend_15 : decode cX11_bend 15 = .ok (.iload_n 3, 1) := by decide +kernel
theorem dX11_bend_16 : decode cX11_bend 16 = .ok (.invokevirtual 143, 3) := by decide +kernel
theorem dX11_bend_19 : decode cX11_bend 19 = .ok (.ifCond .eq 14, 3) := by decide +kernel
theorem dX11_bend_22 : decode cX11_bend 22 = .ok (.iload 4, 2) := by decide +kernel
theorem dX11_bend_24 : decode cX11_bend 24 = .ok (.ifCond .lt 9, 3) := by decide +kernel
theorem dX11_bend_27 : decode cX11_bend 27 = .ok (.iload 4, 2) := by decide +kernel
theorem dX11_bend_29 : decode cX11_bend 29 = .ok (.iconst 1, 1) := by decide +kernel
theorem dX11_bend_30 : decode cX11_bend 30 = .ok (.if_icmp .le 13, 3) := by decide +kernel
theorem dX11_bend_33 : decode cX11_bend 33 = .ok (.new 147, 3) := by decide +kernel
theorem dX11_bend_36 : decode cX11_bend 36 = .ok (.dup, 1) := by decide +kernel
theorem dX11_bend_37 : decode cX11_bend 37 = .ok (.ldc 162, 2) := by decide +kernel
theorem dX11_bend_39 : decode cX11_bend 39 = .ok (.invokespecial 151, 3) := by decide +kernel
theorem dX11_bend_42 : decode cX11_bend 42 = .ok (.athrow, 1) := by decide +kernel
theorem dX11_bend_43 : decode cX11_bend 43 = .ok (.iload 4, 2) := by decide +kernel
theorem dX11_bend_45 : decode cX11_bend 45 = .ok (.ifCond .ne 19, 3) := by decide +kernel
theorem dX11_bend_48 : decode cX11_bend 48 = .ok (.aload_n 0, 1) := by decide +kernel
theorem dX11_bend_49 : decode cX11_bend 49 = .ok (.getfield 39, 3) := by decide +kernel
theorem dX11_bend_52 : decode cX11_bend 52 = .ok (.getfield 112, 3) := by decide +kernel
theorem dX11_bend_55 : decode cX11_bend 55 = .ok (.iload_n 1, 1) := by decide +kernel
theorem dX11_bend_56 : decode cX11_bend 56 = .ok (.iload_n 2, 1) := by decide +kernel
theorem dX11_bend_57 : decode cX11_bend 57 = .ok (.iload_n 3, 1) := by decide +kernel
theorem dX11_bend_58 : decode cX11_bend 58 = .ok (.invokevirtual 164, 3) := by decide +kernel
theorem dX11_bend_61 : decode cX11_bend 61 = .ok (.goto 16, 3) := by decide +kernel
theorem dX11_bend_64 : decode cX11_bend 64 = .ok (.aload_n 0, 1) := by decide +kernel
theorem dX11_bend_65 : decode cX11_bend 65 = .ok (.getfield 39, 3) := by decide +kernel
theorem dX11_bend_68 : decode cX11_bend 68 = .ok (.getfield 112, 3) := by decide +kernel
theorem dX11_bend_71 : decode cX11_bend 71 = .ok (.iload_n 1, 1) := by decide +kernel
theorem dX11_bend_72 : decode cX11_bend 72 = .ok (.iload_n 2, 1) := by decide +kernel
theorem dX11_bend_73 : decode cX11_bend 73 = .ok (.iload_n 3, 1) := by decide +kernel
theorem dX11_bend_74 : decode cX11_bend 74 = .ok (.invokevirtual 168, 3) := by decide +kernel
theorem dX11_bend_77 : decode cX11_bend 77 = .ok (.ireturn, 1) := by decide +kernel
theorem hcX11_bend : yX11_bend.cls ≠ "java/lang/invoke/MethodHandle" ∧ yX11_bend.cls ≠ "java/lang/invoke/VarHandle" ∧ (parseMethodDescriptor yX11_bend.desc).map (fun d => d.parameters.length) = some 4 := ⟨by decide +kernel, by decide +kernel, by decide +kernel⟩
def fX11_bend_j33 (T : Prop)  : Prop := T
def fX11_bend (s0 : sg_M) (x1 : Int) (x2 : Int) (x3 : Int) (x4 : Int) (T : Prop) (Q : Int → Prop) : Prop := fX11_isBend x1 x2 (fun u1 => ((u1 = 0 → (fX11_bend_j33 T)) ∧ (¬ (u1 = 0) → (0 ≤ (s0 4 0)) ∧ fX1_has s0 (s0 4 0) x3 (fun u8 => ((u8 = 0 → (fX11_bend_j33 T)) ∧ (¬ (u8 = 0) → ((x4 < 0 → (fX11_bend_j33 T)) ∧ (¬ (x4 < 0) → ((x4 ≤ 1 → ((x4 ≠ 0 → (0 ≤ (s0 4 0)) ∧ fX1_strain s0 (s0 4 0) x1 x2 x3 (fun u18 => Q u18)) ∧ (x4 = 0 → (0 ≤ (s0 4 0)) ∧ fX1_curve s0 (s0 4 0) x1 x2 x3 (fun u24 => Q u24)))) ∧ (¬ (x4 ≤ 1) → (fX11_bend_j33 T)))))))))))
set_option maxHeartbeats 4000000 in
set_option maxRecDepth 100000 in
theorem CX11_bend {l : Launch} {G : sg_G} {La : sg_L} {s0 : sg_M} (hl0 : l.stackTraces = false) (hst : sg_St La) {x1 : Int} (r1 : sg_R x1) {x2 : Int} (r2 : sg_R x2) {x3 : Int} (r3 : sg_R x3) {x4 : Int} (r4 : sg_R x4) {T : Prop} {Q : Int → Prop} (hf : fX11_bend s0 x1 x2 x3 x4 T Q) : sg_CX l G yX11_bend cX11_bend 5 (some .int) 6 1 6 La s0 [sg_r 0, sg_i x1, sg_i x2, sg_i x3, sg_i x4] (sg_PI La s0 Q) T := by
  refine sg_bodyX (by decide +kernel) (Nat.le_of_ble_eq_true rfl) ?_
  intro p e s m args below meth c F htab
  unfold fX11_bend at hf
  show sg_W p l e (sg_rm 6 1 6) s m args below meth c (vx_MQ below (sg_Q (some .int) G La s.heap.size (sg_PI La s0 Q)) (sg_XC G La s0 s.heap.size T) args s 1 6 (sg_A La s.heap.size)) 5 G (sg_A La s.heap.size) La s0 0 0 0 [(0, sg_r 0), (1, sg_i x1), (2, sg_i x2), (3, sg_i x3), (4, sg_i x4)] []
  refine gw_iload_n F 1 rfl rfl dX11_bend_0 ?_
  refine gw_iload_n F 2 rfl rfl dX11_bend_1 ?_
  refine gk_PZ F (gc_S F (S := []) (As := [sg_i x1, sg_i x2]) (CX11_isBend r1 r2 hf) kw_502 kw_90 kw_500 kw_501 hcX11_isBend ⟨by decide, by decide⟩ rfl rfl (Nat.le_of_ble_eq_true rfl) ⟨by decide, by decide⟩ dX11_bend_2) (fun u1 h2 hf => ?_)
  have J33 : (fX11_bend_j33 T) → sg_W p l e (sg_rm 6 1 6) s m args below meth c (vx_MQ below (sg_Q (some .int) G La s.heap.size (sg_PI La s0 Q)) (sg_XC G La s0 s.heap.size T) args s 1 6 (sg_A La s.heap.size)) 5 G (sg_A La s.heap.size) La s0 0 0 33 [] [] := by
    intro hf
    unfold fX11_bend_j33 at hf
    exact gx_throw F hl0 htab (i := 23) rfl kw_889 kw_111 dX11_bend_33 dX11_bend_36 dX11_bend_37 dX11_bend_39 dX11_bend_42 (by decide) ⟨by decide, by decide⟩ (by decide) (by decide) (by decide) (by decide) hf
  refine gw_if_eq F (tgt := 33) dX11_bend_5 (by decide) (sg_B_R h2) (fun c3 => ?_) (fun c3 => ?_)
  · have hf := hf.1 c3
    refine gw_sub [] rfl ?_
    exact J33  hf
  · have hf := hf.2 c3
    refine gw_aload_n F 0 rfl rfl (by decide) dX11_bend_8 ?_
    refine gw_get7 F (so_0 hst) (by decide) rfl sg_lay_RX11 (j := 2) (by decide) (o1 := 4) (by first | rfl | omega) rfl (host := "") (.inl kw_328) dX11_bend_9 (fun h4 => ?_)
    refine gw_get4 F (so_4 hst) (by decide) rfl sg_lay_RX7 (j := 0) (by decide) rfl (.inr kw_234) dX11_bend_12 (fun h5 => ?_)
    refine gw_iload_n F 3 rfl rfl dX11_bend_15 ?_
    obtain ⟨g6, hf⟩ := hf
    have t7 := sg_nn h5 g6
    refine gk_PZ F (gc_V F (S := []) (As := [sg_i x3]) (T := TX1) (N := 7) (CX1_has t7 r3 hf) t7 (by decide) rfl kw_518 kw_94 kw_888 kw_516 kw_517 hcX1_has ⟨by decide, by decide⟩ rfl rfl (Nat.le_of_ble_eq_true rfl) ⟨by decide, by decide⟩ dX11_bend_16) (fun u8 h9 hf => ?_)
    refine gw_if_eq F (tgt := 33) dX11_bend_19 (by decide) (sg_B_R h9) (fun c10 => ?_) (fun c10 => ?_)
    · have hf := hf.1 c10
      refine gw_sub [] rfl ?_
      exact J33  hf
    · have hf := hf.2 c10
      refine gw_iload F 4 rfl dX11_bend_22 ?_
      refine gw_if_lt F (tgt := 33) dX11_bend_24 (by decide) r4 (fun c11 => ?_) (fun c11 => ?_)
      · have hf := hf.1 c11
        refine gw_sub [] rfl ?_
        exact J33  hf
      · have hf := hf.2 c11
        refine gw_iload F 4 rfl dX11_bend_27 ?_
        refine gw_iconst F dX11_bend_29 ?_
        refine gw_icmp_le F (tgt := 43) dX11_bend_30 (by decide) r4 (by decide) (fun c12 => ?_) (fun c12 => ?_)
        · have hf := hf.1 c12
          refine gw_iload F 4 rfl dX11_bend_43 ?_
          refine gw_if_ne F (tgt := 64) dX11_bend_45 (by decide) r4 (fun c13 => ?_) (fun c13 => ?_)
          · have hf := hf.1 c13
            refine gw_aload_n F 0 rfl rfl (by decide) dX11_bend_64 ?_
            refine gw_get7 F (so_0 hst) (by decide) rfl sg_lay_RX11 (j := 2) (by decide) (o1 := 4) (by first | rfl | omega) rfl (host := "") (.inl kw_328) dX11_bend_65 (fun h14 => ?_)
            refine gw_get4 F (so_4 hst) (by decide) rfl sg_lay_RX7 (j := 0) (by decide) rfl (.inr kw_234) dX11_bend_68 (fun h15 => ?_)
            refine gw_iload_n F 1 rfl rfl dX11_bend_71 ?_
            refine gw_iload_n F 2 rfl rfl dX11_bend_72 ?_
            refine gw_iload_n F 3 rfl rfl dX11_bend_73 ?_
            obtain ⟨g16, hf⟩ := hf
            have t17 := sg_nn h15 g16
            refine gk_PI F (gc_V F (S := []) (As := [sg_i x1, sg_i x2, sg_i x3]) (T := TX1) (N := 7) (CX1_strain t17 r1 r2 r3 hf) t17 (by decide) rfl kw_941 kw_94 kw_938 kw_939 kw_940 hcX1_strain ⟨by decide, by decide⟩ rfl rfl (Nat.le_of_ble_eq_true rfl) ⟨by decide, by decide⟩ dX11_bend_74) (fun u18 h19 hf => ?_)
            refine gx_ret ?_
            exact gr_PI F h19 hf (by decide) (by decide) dX11_bend_77
          · have hf := hf.2 c13
            refine gw_aload_n F 0 rfl rfl (by decide) dX11_bend_48 ?_
            refine gw_get7 F (so_0 hst) (by decide) rfl sg_lay_RX11 (j := 2) (by decide) (o1 := 4) (by first | rfl | omega) rfl (host := "") (.inl kw_328) dX11_bend_49 (fun h20 => ?_)
            refine gw_get4 F (so_4 hst) (by decide) rfl sg_lay_RX7 (j := 0) (by decide) rfl (.inr kw_234) dX11_bend_52 (fun h21 => ?_)
            refine gw_iload_n F 1 rfl rfl dX11_bend_55 ?_
            refine gw_iload_n F 2 rfl rfl dX11_bend_56 ?_
            refine gw_iload_n F 3 rfl rfl dX11_bend_57 ?_
            obtain ⟨g22, hf⟩ := hf
            have t23 := sg_nn h21 g22
            refine gk_PI F (gc_V F (S := []) (As := [sg_i x1, sg_i x2, sg_i x3]) (T := TX1) (N := 7) (CX1_curve t23 r1 r2 r3 hf) t23 (by decide) rfl kw_511 kw_94 kw_937 kw_509 kw_510 hcX1_curve ⟨by decide, by decide⟩ rfl rfl (Nat.le_of_ble_eq_true rfl) ⟨by decide, by decide⟩ dX11_bend_58) (fun u24 h25 hf => ?_)
            refine gw_goto F (tgt := 77) dX11_bend_61 (by decide) ?_
            refine gx_ret ?_
            exact gr_PI F h25 hf (by decide) (by decide) dX11_bend_77
        · have hf := hf.2 c12
          refine gw_sub [] rfl ?_
          exact J33  hf
theorem dX11_tick_0 : decode cX11_tick 0 = .ok (.iload_n 1, 1) := by decide +kernel
theorem dX11_tick_1 : decode cX11_tick 1 = .ok (.iconst 1, 1) := by decide +kernel
theorem dX11_tick_2 : decode cX11_tick 2 = .ok (.if_icmp .lt 26, 3) := by decide +kernel
theorem dX11_tick_5 : decode cX11_tick 5 = .ok (.iload_n 1, 1) := by decide +kernel
theorem dX11_tick_6 : decode cX11_tick 6 = .ok (.aload_n 0, 1) := by decide +kernel
theorem dX11_tick_7 : decode cX11_tick 7 = .ok (.getfield 39, 3) := by decide +kernel
theorem dX11_tick_10 : decode cX11_tick 10 = .ok (.getfield 212, 3) := by decide +kernel
theorem dX11_tick_13 : decode cX11_tick 13 = .ok (.getfield 216, 3) := by decide +kernel
theorem dX11_tick_16 : decode cX11_tick 16 = .ok (.if_icmp .gt 12, 3) := by decide +kernel
theorem dX11_tick_19 : decode cX11_tick 19 = .ok (.iload_n 2, 1) := by decide +kernel
theorem dX11_tick_20 : decode cX11_tick 20 = .ok (.ifCond .lt 8, 3) := by decide +kernel
theorem dX11_tick_23 : decode cX11_tick 23 = .ok (.iload_n 2, 1) := by decide +kernel
theorem dX11_tick_24 : decode cX11_tick 24 = .ok (.iconst 4, 1) := by decide +kernel
theorem dX11_tick_25 : decode cX11_tick 25 = .ok (.if_icmp .le 13, 3) := by decide +kernel
theorem dX11_tick_28 : decode cX11_tick 28 = .ok (.new 147, 3) := by decide +kernel
theorem dX11_tick_31 : decode cX11_tick 31 = .ok (.dup, 1) := by decide +kernel
theorem dX11_tick_32 : decode cX11_tick 32 = .ok (.ldc 217, 2) := by decide +kernel
theorem dX11_tick_34 : decode cX11_tick 34 = .ok (.invokespecial 151, 3) := by decide +kernel
theorem dX11_tick_37 : decode cX11_tick 37 = .ok (.athrow, 1) := by decide +kernel
theorem dX11_tick_38 : decode cX11_tick 38 = .ok (.aload_n 0, 1) := by decide +kernel
theorem dX11_tick_39 : decode cX11_tick 39 = .ok (.getfield 39, 3) := by decide +kernel
theorem dX11_tick_42 : decode cX11_tick 42 = .ok (.getfield 212, 3) := by decide +kernel
theorem dX11_tick_45 : decode cX11_tick 45 = .ok (.iload_n 1, 1) := by decide +kernel
theorem dX11_tick_46 : decode cX11_tick 46 = .ok (.invokevirtual 219, 3) := by decide +kernel
theorem dX11_tick_49 : decode cX11_tick 49 = .ok (.istore_n 3, 1) := by decide +kernel
theorem dX11_tick_50 : decode cX11_tick 50 = .ok (.aload_n 0, 1) := by decide +kernel
theorem dX11_tick_51 : decode cX11_tick 51 = .ok (.getfield 39, 3) := by decide +kernel
theorem dX11_tick_54 : decode cX11_tick 54 = .ok (.getfield 212, 3) := by decide +kernel
theorem dX11_tick_57 : decode cX11_tick 57 = .ok (.iload_n 1, 1) := by decide +kernel
theorem dX11_tick_58 : decode cX11_tick 58 = .ok (.invokevirtual 222, 3) := by decide +kernel
theorem dX11_tick_61 : decode cX11_tick 61 = .ok (.istore 4, 2) := by decide +kernel
theorem dX11_tick_63 : decode cX11_tick 63 = .ok (.iload_n 2, 1) := by decide +kernel
theorem dX11_tick_64 : decode cX11_tick 64 = .ok (.iconst 2, 1) := by decide +kernel
theorem dX11_tick_65 : decode cX11_tick 65 = .ok (.if_icmp .ge 14, 3) := by decide +kernel
theorem dX11_tick_68 : decode cX11_tick 68 = .ok (.iload_n 2, 1) := by decide +kernel
theorem dX11_tick_69 : decode cX11_tick 69 = .ok (.ifCond .ne 7, 3) := by decide +kernel
theorem dX11_tick_72 : decode cX11_tick 72 = .ok (.iload_n 3, 1) := by decide +kernel
theorem dX11_tick_73 : decode cX11_tick 73 = .ok (.goto 5, 3) := by decide +kernel
theorem dX11_tick_76 : decode cX11_tick 76 = .ok (.iload 4, 2) := by decide +kernel
theorem dX11_tick_78 : decode cX11_tick 78 = .ok (.ireturn, 1) := by decide +kernel
theorem dX11_tick_79 : decode cX11_tick 79 = .ok (.aload_n 0, 1) := by decide +kernel
theorem dX11_tick_80 : decode cX11_tick 80 = .ok (.aload_n 0, 1) := by decide +kernel
theorem dX11_tick_81 : decode cX11_tick 81 = .ok (.getfield 39, 3) := by decide +kernel
theorem dX11_tick_84 : decode cX11_tick 84 = .ok (.getfield 112, 3) := by decide +kernel
theorem dX11_tick_87 : decode cX11_tick 87 = .ok (.iload_n 3, 1) := by decide +kernel
theorem dX11_tick_88 : decode cX11_tick 88 = .ok (.iload 4, 2) := by decide +kernel
theorem dX11_tick_90 : decode cX11_tick 90 = .ok (.invokevirtual 225, 3) := by decide +kernel
theorem dX11_tick_93 : decode cX11_tick 93 = .ok (.iload_n 2, 1) := by decide +kernel
theorem dX11_tick_94 : decode cX11_tick 94 = .ok (.iconst 2, 1) := by decide +kernel
theorem dX11_tick_95 : decode cX11_tick 95 = .ok (.if_icmp .ne 11, 3) := by decide +kernel
theorem dX11_tick_98 : decode cX11_tick 98 = .ok (.aload_n 0, 1) := by decide +kernel
theorem dX11_tick_99 : decode cX11_tick 99 = .ok (.getfield 54, 3) := by decide +kernel
theorem dX11_tick_102 : decode cX11_tick 102 = .ok (.getfield 228, 3) := by decide +kernel
theorem dX11_tick_105 : decode cX11_tick 105 = .ok (.ireturn, 1) := by decide +kernel
theorem dX11_tick_106 : decode cX11_tick 106 = .ok (.iload_n 2, 1) := by decide +kernel
theorem dX11_tick_107 : decode cX11_tick 107 = .ok (.iconst 3, 1) := by decide +kernel
theorem dX11_tick_108 : decode cX11_tick 108 = .ok (.if_icmp .ne 13, 3) := by decide +kernel
theorem dX11_tick_111 : decode cX11_tick 111 = .ok (.aload_n 0, 1) := by decide +kernel
theorem dX11_tick_112 : decode cX11_tick 112 = .ok (.getfield 54, 3) := by decide +kernel
theorem dX11_tick_115 : decode cX11_tick 115 = .ok (.getfield 231, 3) := by decide +kernel
theorem dX11_tick_118 : decode cX11_tick 118 = .ok (.goto 10, 3) := by decide +kernel
theorem dX11_tick_121 : decode cX11_tick 121 = .ok (.aload_n 0, 1) := by decide +kernel
theorem dX11_tick_122 : decode cX11_tick 122 = .ok (.getfield 54, 3) := by decide +kernel
theorem dX11_tick_125 : decode cX11_tick 125 = .ok (.getfield 234, 3) := by decide +kernel
theorem dX11_tick_128 : decode cX11_tick 128 = .ok (.ireturn, 1) := by decide +kernel
theorem hcX11_tick : yX11_tick.cls ≠ "java/lang/invoke/MethodHandle" ∧ yX11_tick.cls ≠ "java/lang/invoke/VarHandle" ∧ (parseMethodDescriptor yX11_tick.desc).map (fun d => d.parameters.length) = some 2 := ⟨by decide +kernel, by decide +kernel, by decide +kernel⟩
def fX11_tick_j28 (T : Prop)  : Prop := T
def fX11_tick (La : sg_L) (s0 : sg_M) (x1 : Int) (x2 : Int) (T : Prop) (Q : Int → sg_M → Prop) : Prop := ((x1 < 1 → (fX11_tick_j28 T)) ∧ (¬ (x1 < 1) → (0 ≤ (s0 4 1)) ∧ (((s0 (s0 4 1) 2) < x1 → (fX11_tick_j28 T)) ∧ (¬ ((s0 (s0 4 1) 2) < x1) → ((x2 < 0 → (fX11_tick_j28 T)) ∧ (¬ (x2 < 0) → ((x2 ≤ 4 → (0 ≤ (s0 4 1)) ∧ fX3_knee s0 (s0 4 1) x1 (fun u14 => (0 ≤ (s0 4 1)) ∧ fX3_tip s0 (s0 4 1) x1 (fun u20 => ((2 ≤ x2 → (0 ≤ (s0 4 0)) ∧ fX11_listenTo La s0 (s0 4 0) u14 u20 (fun s27 => ((x2 ≠ 2 → ((x2 ≠ 3 → Q (s27 32 9) s27) ∧ (x2 = 3 → Q (s27 32 8) s27))) ∧ (x2 = 2 → Q (s27 32 7) s27)))) ∧ (¬ (2 ≤ x2) → ((x2 ≠ 0 → Q u20 s0) ∧ (x2 = 0 → Q u14 s0))))))) ∧ (¬ (x2 ≤ 4) → (fX11_tick_j28 T)))))))))
set_option maxHeartbeats 4000000 in
set_option maxRecDepth 100000 in
theorem CX11_tick {l : Launch} {G : sg_G} {La : sg_L} {s0 : sg_M} (hl0 : l.stackTraces = false) (hst : sg_St La) {x1 : Int} (r1 : sg_R x1) {x2 : Int} (r2 : sg_R x2) {T : Prop} {Q : Int → sg_M → Prop} (hf : fX11_tick La s0 x1 x2 T Q) : sg_CX l G yX11_tick cX11_tick 5 (some .int) 6 1 6 La s0 [sg_r 0, sg_i x1, sg_i x2] (sg_HI La Q) T := by
  refine sg_bodyX (by decide +kernel) (Nat.le_of_ble_eq_true rfl) ?_
  intro p e s m args below meth c F htab
  unfold fX11_tick at hf
  show sg_W p l e (sg_rm 6 1 6) s m args below meth c (vx_MQ below (sg_Q (some .int) G La s.heap.size (sg_HI La Q)) (sg_XC G La s0 s.heap.size T) args s 1 6 (sg_A La s.heap.size)) 5 G (sg_A La s.heap.size) La s0 0 0 0 [(0, sg_r 0), (1, sg_i x1), (2, sg_i x2)] []
  refine gw_iload_n F 1 rfl rfl dX11_tick_0 ?_
  refine gw_iconst F dX11_tick_1 ?_
  have J28 : (fX11_tick_j28 T) → sg_W p l e (sg_rm 6 1 6) s m args below meth c (vx_MQ below (sg_Q (some .int) G La s.heap.size (sg_HI La Q)) (sg_XC G La s0 s.heap.size T) args s 1 6 (sg_A La s.heap.size)) 5 G (sg_A La s.heap.size) La s0 0 0 28 [] [] := by
    intro hf
    unfold fX11_tick_j28 at hf
    exact gx_throw F hl0 htab (i := 24) rfl kw_889 kw_111 dX11_tick_28 dX11_tick_31 dX11_tick_32 dX11_tick_34 dX11_tick_37 (by decide) ⟨by decide, by decide⟩ (by decide) (by decide) (by decide) (by decide) hf
  refine gw_icmp_lt F (tgt := 28) dX11_tick_2 (by decide) r1 (by decide) (fun c1 => ?_) (fun c1 => ?_)
  · have hf := hf.1 c1
    refine gw_sub [] rfl ?_
    exact J28  hf
  · have hf := hf.2 c1
    refine gw_iload_n F 1 rfl rfl dX11_tick_5 ?_
    refine gw_aload_n F 0 rfl rfl (by decide) dX11_tick_6 ?_
    refine gw_get7 F (so_0 hst) (by decide) rfl sg_lay_RX11 (j := 2) (by decide) (o1 := 4) (by first | rfl | omega) rfl (host := "") (.inl kw_328) dX11_tick_7 (fun h2 => ?_)
    refine gw_get4 F (so_4 hst) (by decide) rfl sg_lay_RX7 (j := 1) (by decide) rfl (.inr kw_236) dX11_tick_10 (fun h3 => ?_)
    obtain ⟨g4, hf⟩ := hf
    have t5 := sg_nn h3 g4
    refine gw_get0 F t5 (by decide) rfl sg_lay_RX3 (j := 2) (by decide) rfl (.inr kw_181) dX11_tick_13 (fun h6 => ?_)
    refine gw_icmp_gt F (tgt := 28) dX11_tick_16 (by decide) r1 h6 (fun c7 => ?_) (fun c7 => ?_)
    · have hf := hf.1 c7
      refine gw_sub [] rfl ?_
      exact J28  hf
    · have hf := hf.2 c7
      refine gw_iload_n F 2 rfl rfl dX11_tick_19 ?_
      refine gw_if_lt F (tgt := 28) dX11_tick_20 (by decide) r2 (fun c8 => ?_) (fun c8 => ?_)
      · have hf := hf.1 c8
        refine gw_sub [] rfl ?_
        exact J28  hf
      · have hf := hf.2 c8
        refine gw_iload_n F 2 rfl rfl dX11_tick_23 ?_
        refine gw_iconst F dX11_tick_24 ?_
        refine gw_icmp_le F (tgt := 38) dX11_tick_25 (by decide) r2 (by decide) (fun c9 => ?_) (fun c9 => ?_)
        · have hf := hf.1 c9
          refine gw_aload_n F 0 rfl rfl (by decide) dX11_tick_38 ?_
          refine gw_get7 F (so_0 hst) (by decide) rfl sg_lay_RX11 (j := 2) (by decide) (o1 := 4) (by first | rfl | omega) rfl (host := "") (.inl kw_328) dX11_tick_39 (fun h10 => ?_)
          refine gw_get4 F (so_4 hst) (by decide) rfl sg_lay_RX7 (j := 1) (by decide) rfl (.inr kw_236) dX11_tick_42 (fun h11 => ?_)
          refine gw_iload_n F 1 rfl rfl dX11_tick_45 ?_
          obtain ⟨g12, hf⟩ := hf
          have t13 := sg_nn h11 g12
          refine gk_PI F (gc_V F (S := []) (As := [sg_i x1]) (T := TX3) (N := 5) (CX3_knee t13 r1 hf) t13 (by decide) rfl kw_838 kw_95 kw_835 kw_836 kw_837 hcX3_knee ⟨by decide, by decide⟩ rfl rfl (Nat.le_of_ble_eq_true rfl) ⟨by decide, by decide⟩ dX11_tick_46) (fun u14 h15 hf => ?_)
          refine gw_istore_n F rfl (by decide) rfl dX11_tick_49 ?_
          refine gw_aload_n F 1 rfl rfl (by decide) dX11_tick_50 ?_
          refine gw_get7 F (so_0 hst) (by decide) rfl sg_lay_RX11 (j := 2) (by decide) (o1 := 4) (by first | rfl | omega) rfl (host := "") (.inl kw_328) dX11_tick_51 (fun h16 => ?_)
          refine gw_get4 F (so_4 hst) (by decide) rfl sg_lay_RX7 (j := 1) (by decide) rfl (.inr kw_236) dX11_tick_54 (fun h17 => ?_)
          refine gw_iload_n F 2 rfl rfl dX11_tick_57 ?_
          obtain ⟨g18, hf⟩ := hf
          have t19 := sg_nn h17 g18
          refine gk_PI F (gc_V F (S := []) (As := [sg_i x1]) (T := TX3) (N := 5) (CX3_tip t19 r1 hf) t19 (by decide) rfl kw_842 kw_95 kw_839 kw_840 kw_841 hcX3_tip ⟨by decide, by decide⟩ rfl rfl (Nat.le_of_ble_eq_true rfl) ⟨by decide, by decide⟩ dX11_tick_58) (fun u20 h21 hf => ?_)
          refine gw_istore F (by decide) rfl dX11_tick_61 ?_
          refine gw_iload_n F 4 rfl rfl dX11_tick_63 ?_
          refine gw_iconst F dX11_tick_64 ?_
          refine gw_icmp_ge F (tgt := 79) dX11_tick_65 (by decide) r2 (by decide) (fun c22 => ?_) (fun c22 => ?_)
          · have hf := hf.1 c22
            refine gw_aload_n F 2 rfl rfl (by decide) dX11_tick_79 ?_
            refine gw_aload_n F 2 rfl rfl (by decide) dX11_tick_80 ?_
            refine gw_get7 F (so_0 hst) (by decide) rfl sg_lay_RX11 (j := 2) (by decide) (o1 := 4) (by first | rfl | omega) rfl (host := "") (.inl kw_328) dX11_tick_81 (fun h23 => ?_)
            refine gw_get4 F (so_4 hst) (by decide) rfl sg_lay_RX7 (j := 0) (by decide) rfl (.inr kw_234) dX11_tick_84 (fun h24 => ?_)
            refine gw_iload_n F 1 rfl rfl dX11_tick_87 ?_
            refine gw_iload F 0 rfl dX11_tick_88 ?_
            obtain ⟨g25, hf⟩ := hf
            have t26 := sg_nn h24 g25
            refine gk_HV F (gc_V F (S := []) (As := [sg_r (s0 4 0), sg_i u14, sg_i u20]) (T := TX11) (N := 19) (CX11_listenTo hst t26 h15 h21 hf) (so_0 hst) (by decide) rfl kw_655 kw_90 kw_653 kw_654 kw_20 hcX11_listenTo ⟨by decide, by decide⟩ rfl rfl (Nat.le_of_ble_eq_true rfl) ⟨by decide, by decide⟩ dX11_tick_90) (fun s27 hf => ?_)
            refine gw_iload_n F 4 rfl rfl dX11_tick_93 ?_
            refine gw_iconst F dX11_tick_94 ?_
            refine gw_icmp_ne F (tgt := 106) dX11_tick_95 (by decide) r2 (by decide) (fun c28 => ?_) (fun c28 => ?_)
            · have hf := hf.1 c28
              refine gw_iload_n F 4 rfl rfl dX11_tick_106 ?_
              refine gw_iconst F dX11_tick_107 ?_
              refine gw_icmp_ne F (tgt := 121) dX11_tick_108 (by decide) r2 (by decide) (fun c29 => ?_) (fun c29 => ?_)
              · have hf := hf.1 c29
                refine gw_aload_n F 2 rfl rfl (by decide) dX11_tick_121 ?_
                refine gw_get7 F (so_0 hst) (by decide) rfl sg_lay_RX11 (j := 5) (by decide) (o1 := 32) (by first | rfl | omega) rfl (host := "") (.inl kw_331) dX11_tick_122 (fun h30 => ?_)
                refine gw_get0 F (so_32 hst) (by decide) rfl sg_lay_RX0 (j := 9) (by decide) rfl (.inr kw_272) dX11_tick_125 (fun h31 => ?_)
                refine gx_ret ?_
                exact gr_HI F h31 hf (by decide) (by decide) dX11_tick_128
              · have hf := hf.2 c29
                refine gw_aload_n F 2 rfl rfl (by decide) dX11_tick_111 ?_
                refine gw_get7 F (so_0 hst) (by decide) rfl sg_lay_RX11 (j := 5) (by decide) (o1 := 32) (by first | rfl | omega) rfl (host := "") (.inl kw_331) dX11_tick_112 (fun h32 => ?_)
                refine gw_get0 F (so_32 hst) (by decide) rfl sg_lay_RX0 (j := 8) (by decide) rfl (.inr kw_269) dX11_tick_115 (fun h33 => ?_)
                refine gw_goto F (tgt := 128) dX11_tick_118 (by decide) ?_
                refine gx_ret ?_
                exact gr_HI F h33 hf (by decide) (by decide) dX11_tick_128
            · have hf := hf.2 c28
              refine gw_aload_n F 2 rfl rfl (by decide) dX11_tick_98 ?_
              refine gw_get7 F (so_0 hst) (by decide) rfl sg_lay_RX11 (j := 5) (by decide) (o1 := 32) (by first | rfl | omega) rfl (host := "") (.inl kw_331) dX11_tick_99 (fun h34 => ?_)
              refine gw_get0 F (so_32 hst) (by decide) rfl sg_lay_RX0 (j := 7) (by decide) rfl (.inr kw_266) dX11_tick_102 (fun h35 => ?_)
              refine gx_ret ?_
              exact gr_HI F h35 hf (by decide) (by decide) dX11_tick_105
          · have hf := hf.2 c22
            refine gw_iload_n F 4 rfl rfl dX11_tick_68 ?_
            refine gw_if_ne F (tgt := 76) dX11_tick_69 (by decide) r2 (fun c36 => ?_) (fun c36 => ?_)
            · have hf := hf.1 c36
              refine gw_iload F 0 rfl dX11_tick_76 ?_
              refine gx_ret ?_
              exact gr_HI F h21 hf (by decide) (by decide) dX11_tick_78
            · have hf := hf.2 c36
              refine gw_iload_n F 1 rfl rfl dX11_tick_72 ?_
              refine gw_goto F (tgt := 78) dX11_tick_73 (by decide) ?_
              refine gx_ret ?_
              exact gr_HI F h15 hf (by decide) (by decide) dX11_tick_78
        · have hf := hf.2 c9
          refine gw_sub [] rfl ?_
          exact J28  hf
end SGXT
