theorem dX12_tick_0 : decode cX12_tick 0 = .ok (.aload_n 0, 1) := by decide +kernel
theorem dX12_tick_1 : decode cX12_tick 1 = .ok (.invokevirtual 175, 3) := by decide +kernel
theorem dX12_tick_4 : decode cX12_tick 4 = .ok (.iload_n 1, 1) := by decide +kernel
theorem dX12_tick_5 : decode cX12_tick 5 = .ok (.iconst 1, 1) := by decide +kernel
theorem dX12_tick_6 : decode cX12_tick 6 = .ok (.aload_n 0, 1) := by decide +kernel
theorem dX12_tick_7 : decode cX12_tick 7 = .ok (.getfield 13, 3) := by decide +kernel
theorem dX12_tick_10 : decode cX12_tick 10 = .ok (.sipush 1300, 3) := by decide +kernel
theorem dX12_tick_13 : decode cX12_tick 13 = .ok (.iaload, 1) := by decide +kernel
theorem dX12_tick_14 : decode cX12_tick 14 = .ok (.invokestatic 155, 3) := by decide +kernel
theorem dX12_tick_17 : decode cX12_tick 17 = .ok (.ifCond .eq 12, 3) := by decide +kernel
theorem dX12_tick_20 : decode cX12_tick 20 = .ok (.iload_n 2, 1) := by decide +kernel
theorem dX12_tick_21 : decode cX12_tick 21 = .ok (.iconst 0, 1) := by decide +kernel
theorem dX12_tick_22 : decode cX12_tick 22 = .ok (.iconst 4, 1) := by decide +kernel
theorem dX12_tick_23 : decode cX12_tick 23 = .ok (.invokestatic 155, 3) := by decide +kernel
theorem dX12_tick_26 : decode cX12_tick 26 = .ok (.ifCond .ne 8, 3) := by decide +kernel
theorem dX12_tick_29 : decode cX12_tick 29 = .ok (.aload_n 0, 1) := by decide +kernel
theorem dX12_tick_30 : decode cX12_tick 30 = .ok (.invokevirtual 205, 3) := by decide +kernel
theorem dX12_tick_33 : decode cX12_tick 33 = .ok (.ireturn, 1) := by decide +kernel
theorem dX12_tick_34 : decode cX12_tick 34 = .ok (.aload_n 0, 1) := by decide +kernel
theorem dX12_tick_35 : decode cX12_tick 35 = .ok (.iconst 0, 1) := by decide +kernel
theorem dX12_tick_36 : decode cX12_tick 36 = .ok (.putfield 84, 3) := by decide +kernel
theorem dX12_tick_39 : decode cX12_tick 39 = .ok (.aload_n 0, 1) := by decide +kernel
theorem dX12_tick_40 : decode cX12_tick 40 = .ok (.getfield 13, 3) := by decide +kernel
theorem dX12_tick_43 : decode cX12_tick 43 = .ok (.sipush 1301, 3) := by decide +kernel
theorem dX12_tick_46 : decode cX12_tick 46 = .ok (.iload_n 1, 1) := by decide +kernel
theorem dX12_tick_47 : decode cX12_tick 47 = .ok (.iadd, 1) := by decide +kernel
theorem dX12_tick_48 : decode cX12_tick 48 = .ok (.iconst 1, 1) := by decide +kernel
theorem dX12_tick_49 : decode cX12_tick 49 = .ok (.isub, 1) := by decide +kernel
theorem dX12_tick_50 : decode cX12_tick 50 = .ok (.iaload, 1) := by decide +kernel
theorem dX12_tick_51 : decode cX12_tick 51 = .ok (.istore_n 3, 1) := by decide +kernel
theorem dX12_tick_52 : decode cX12_tick 52 = .ok (.aload_n 0, 1) := by decide +kernel
theorem dX12_tick_53 : decode cX12_tick 53 = .ok (.getfield 13, 3) := by decide +kernel
theorem dX12_tick_56 : decode cX12_tick 56 = .ok (.sipush 1501, 3) := by decide +kernel
theorem dX12_tick_59 : decode cX12_tick 59 = .ok (.iload_n 1, 1) := by decide +kernel
theorem dX12_tick_60 : decode cX12_tick 60 = .ok (.iadd, 1) := by decide +kernel
theorem dX12_tick_61 : decode cX12_tick 61 = .ok (.iconst 1, 1) := by decide +kernel
theorem dX12_tick_62 : decode cX12_tick 62 = .ok (.isub, 1) := by decide +kernel
theorem dX12_tick_63 : decode cX12_tick 63 = .ok (.iaload, 1) := by decide +kernel
theorem dX12_tick_64 : decode cX12_tick 64 = .ok (.istore 4, 2) := by decide +kernel
theorem dX12_tick_66 : decode cX12_tick 66 = .ok (.iload_n 2, 1) := by decide +kernel
theorem dX12_tick_67 : decode cX12_tick 67 = .ok (.iconst 2, 1) := by decide +kernel
theorem dX12_tick_68 : decode cX12_tick 68 = .ok (.if_icmp .ge 14, 3) := by decide +kernel
theorem dX12_tick_71 : decode cX12_tick 71 = .ok (.iload_n 2, 1) := by decide +kernel
theorem dX12_tick_72 : decode cX12_tick 72 = .ok (.ifCond .ne 7, 3) := by decide +kernel
theorem dX12_tick_75 : decode cX12_tick 75 = .ok (.iload_n 3, 1) := by decide +kernel
theorem dX12_tick_76 : decode cX12_tick 76 = .ok (.goto 5, 3) := by decide +kernel
theorem dX12_tick_79 : decode cX12_tick 79 = .ok (.iload 4, 2) := by decide +kernel
theorem dX12_tick_81 : decode cX12_tick 81 = .ok (.ireturn, 1) := by decide +kernel
theorem dX12_tick_82 : decode cX12_tick 82 = .ok (.aload_n 0, 1) := by decide +kernel
theorem dX12_tick_83 : decode cX12_tick 83 = .ok (.iload_n 3, 1) := by decide +kernel
theorem dX12_tick_84 : decode cX12_tick 84 = .ok (.iload 4, 2) := by decide +kernel
theorem dX12_tick_86 : decode cX12_tick 86 = .ok (.invokevirtual 317, 3) := by decide +kernel
theorem dX12_tick_89 : decode cX12_tick 89 = .ok (.pop, 1) := by decide +kernel
theorem dX12_tick_90 : decode cX12_tick 90 = .ok (.iload_n 2, 1) := by decide +kernel
theorem dX12_tick_91 : decode cX12_tick 91 = .ok (.iconst 2, 1) := by decide +kernel
theorem dX12_tick_92 : decode cX12_tick 92 = .ok (.if_icmp .ne 10, 3) := by decide +kernel
theorem dX12_tick_95 : decode cX12_tick 95 = .ok (.aload_n 0, 1) := by decide +kernel
theorem dX12_tick_96 : decode cX12_tick 96 = .ok (.getfield 273, 3) := by decide +kernel
theorem dX12_tick_99 : decode cX12_tick 99 = .ok (.goto 19, 3) := by decide +kernel
theorem dX12_tick_102 : decode cX12_tick 102 = .ok (.iload_n 2, 1) := by decide +kernel
theorem dX12_tick_103 : decode cX12_tick 103 = .ok (.iconst 3, 1) := by decide +kernel
theorem dX12_tick_104 : decode cX12_tick 104 = .ok (.if_icmp .ne 10, 3) := by decide +kernel
theorem dX12_tick_107 : decode cX12_tick 107 = .ok (.aload_n 0, 1) := by decide +kernel
theorem dX12_tick_108 : decode cX12_tick 108 = .ok (.getfield 276, 3) := by decide +kernel
theorem dX12_tick_111 : decode cX12_tick 111 = .ok (.goto 7, 3) := by decide +kernel
theorem dX12_tick_114 : decode cX12_tick 114 = .ok (.aload_n 0, 1) := by decide +kernel
theorem dX12_tick_115 : decode cX12_tick 115 = .ok (.getfield 279, 3) := by decide +kernel
theorem dX12_tick_118 : decode cX12_tick 118 = .ok (.ireturn, 1) := by decide +kernel
theorem hcX12_tick : yX12_tick.cls ≠ "java/lang/invoke/MethodHandle" ∧ yX12_tick.cls ≠ "java/lang/invoke/VarHandle" ∧ (parseMethodDescriptor yX12_tick.desc).map (fun d => d.parameters.length) = some 2 := ⟨by decide +kernel, by decide +kernel, by decide +kernel⟩
def fX12_tick (s0 : sg_M) (x1 : Int) (x2 : Int) (Q : Int → sg_M → Prop) : Prop := fX12_lay s0 (fun s1 => fX12_isIn x1 1 (s1 66 1300) (fun u4 => ((u4 = 0 → fX12_refuse s1 (fun u7 s9 => Q u7 s9)) ∧ (¬ (u4 = 0) → fX12_isIn x2 0 4 (fun u10 => ((u10 ≠ 0 → ∀ s13 : sg_M, s13 = sg_up s1 64 0 0 → (0 ≤ ((1301 + x1) - 1) ∧ ((1301 + x1) - 1) < 2040) ∧ (0 ≤ ((1501 + x1) - 1) ∧ ((1501 + x1) - 1) < 2040) ∧ ((2 ≤ x2 → fX12_voiceOf s13 (s13 66 ((1301 + x1) - 1)) (s13 66 ((1501 + x1) - 1)) (fun u22 s24 => ((x2 ≠ 2 → ((x2 ≠ 3 → Q (s24 64 41) s24) ∧ (x2 = 3 → Q (s24 64 40) s24))) ∧ (x2 = 2 → Q (s24 64 39) s24)))) ∧ (¬ (2 ≤ x2) → ((x2 ≠ 0 → Q (s13 66 ((1501 + x1) - 1)) s13) ∧ (x2 = 0 → Q (s13 66 ((1301 + x1) - 1)) s13))))) ∧ (u10 = 0 → fX12_refuse s1 (fun u31 s33 => Q u31 s33))))))))
set_option maxHeartbeats 4000000 in
set_option maxRecDepth 100000 in
theorem CX12_tick {l : Launch} {G : sg_G} {La : sg_L} {s0 : sg_M} (hst : sg_St La) {x1 : Int} (r1 : sg_R x1) {x2 : Int} (r2 : sg_R x2) {Q : Int → sg_M → Prop} (hf : fX12_tick s0 x1 x2 Q) : sg_C l G yX12_tick cX12_tick 5 (some .int) 6 0 0 La s0 [sg_r 64, sg_i x1, sg_i x2] (sg_HI La Q) := by
  refine sg_body (by decide +kernel) (Nat.le_of_ble_eq_true rfl) ?_
  intro p e s m args below meth c F hnm
  unfold fX12_tick at hf
  show sg_W p l e (sg_rm 6 0 0) s m args below meth c (MQ below (sg_Q (some .int) G La s.heap.size (sg_HI La Q)) args s 0 0 (sg_A La s.heap.size)) 5 G (sg_A La s.heap.size) La s0 0 0 0 [(0, sg_r 64), (1, sg_i x1), (2, sg_i x2)] []
  refine gw_aload_n F 0 rfl rfl (by decide) dX12_tick_0 ?_
  refine gk_HV F (gc_V F (S := []) (As := []) (T := TX12) (N := 62) (CX12_lay hst hf) (so_64 hst) (by decide) rfl kw_1034 kw_103 kw_1032 kw_1033 kw_41 hcX12_lay ⟨by decide, by decide⟩ rfl rfl (Nat.le_of_ble_eq_true rfl) ⟨by decide, by decide⟩ dX12_tick_1) (fun s1 hf => ?_)
  refine gw_iload_n F 1 rfl rfl dX12_tick_4 ?_
  refine gw_iconst F dX12_tick_5 ?_
  refine gw_aload_n F 0 rfl rfl (by decide) dX12_tick_6 ?_
  refine gw_get7 F (so_64 hst) (by decide) rfl sg_lay_RX12 (j := 14) (by decide) (o1 := 66) (by first | rfl | omega) rfl (host := "") (.inl kw_961) dX12_tick_7 (fun h2 => ?_)
  refine gw_sipush F rfl dX12_tick_10 ?_
  refine gw_iald F (sa_66 hst) (by decide) (by decide) dX12_tick_13 (fun h3 => ?_)
  refine gk_PZ F (gc_S F (S := []) (As := [sg_i x1, sg_i 1, sg_i (s1 66 1300)]) (CX12_isIn r1 (by decide) h3 hf) kw_1075 kw_103 kw_1073 kw_1074 hcX12_isIn ⟨by decide, by decide⟩ rfl rfl (Nat.le_of_ble_eq_true rfl) ⟨by decide, by decide⟩ dX12_tick_14) (fun u4 h5 hf => ?_)
  refine gw_if_eq F (tgt := 29) dX12_tick_17 (by decide) (sg_B_R h5) (fun c6 => ?_) (fun c6 => ?_)
  · have hf := hf.1 c6
    refine gw_aload_n F 0 rfl rfl (by decide) dX12_tick_29 ?_
    refine gk_HI F (gc_V F (S := []) (As := []) (T := TX12) (N := 62) (CX12_refuse hst hf) (so_64 hst) (by decide) rfl kw_1098 kw_103 kw_1096 kw_1097 kw_53 hcX12_refuse ⟨by decide, by decide⟩ rfl rfl (Nat.le_of_ble_eq_true rfl) ⟨by decide, by decide⟩ dX12_tick_30) (fun u7 s9 h8 hf => ?_)
    exact gr_HI F h8 hf (by decide) (by decide) dX12_tick_33
  · have hf := hf.2 c6
    refine gw_iload_n F 2 rfl rfl dX12_tick_20 ?_
    refine gw_iconst F dX12_tick_21 ?_
    refine gw_iconst F dX12_tick_22 ?_
    refine gk_PZ F (gc_S F (S := []) (As := [sg_i x2, sg_i 0, sg_i 4]) (CX12_isIn r2 (by decide) (by decide) hf) kw_1075 kw_103 kw_1073 kw_1074 hcX12_isIn ⟨by decide, by decide⟩ rfl rfl (Nat.le_of_ble_eq_true rfl) ⟨by decide, by decide⟩ dX12_tick_23) (fun u10 h11 hf => ?_)
    refine gw_if_ne F (tgt := 34) dX12_tick_26 (by decide) (sg_B_R h11) (fun c12 => ?_) (fun c12 => ?_)
    · have hf := hf.1 c12
      refine gw_aload_n F 0 rfl rfl (by decide) dX12_tick_34 ?_
      refine gw_iconst F dX12_tick_35 ?_
      obtain ⟨s13, e14⟩ : ∃ z : sg_M, z = sg_up s1 64 0 0 := ⟨_, rfl⟩
      have hf := hf s13 e14
      refine gw_put0 F (so_64 hst) (by decide) rfl sg_lay_RX12 (j := 0) (by decide) (by decide) e14 tyX12_ok nmX12 rfl (tyX12_ok 0 (by decide)) rfl (host := "") (.inl kw_947) dX12_tick_36 ?_
      refine gw_aload_n F 0 rfl rfl (by decide) dX12_tick_39 ?_
      refine gw_get7 F (so_64 hst) (by decide) rfl sg_lay_RX12 (j := 14) (by decide) (o1 := 66) (by first | rfl | omega) rfl (host := "") (.inl kw_961) dX12_tick_40 (fun h15 => ?_)
      refine gw_sipush F rfl dX12_tick_43 ?_
      refine gw_iload_n F 1 rfl rfl dX12_tick_46 ?_
      refine gw_iadd F rfl dX12_tick_47 ?_
      refine gw_iconst F dX12_tick_48 ?_
      refine gw_isub F rfl dX12_tick_49 ?_
      obtain ⟨⟨b160, b161⟩, hf⟩ := hf
      refine gw_iald F (sa_66 hst) b160 b161 dX12_tick_50 (fun h17 => ?_)
      refine gw_istore_n F rfl (by decide) rfl dX12_tick_51 ?_
      refine gw_aload_n F 1 rfl rfl (by decide) dX12_tick_52 ?_
      refine gw_get7 F (so_64 hst) (by decide) rfl sg_lay_RX12 (j := 14) (by decide) (o1 := 66) (by first | rfl | omega) rfl (host := "") (.inl kw_961) dX12_tick_53 (fun h18 => ?_)
      refine gw_sipush F rfl dX12_tick_56 ?_
      refine gw_iload_n F 2 rfl rfl dX12_tick_59 ?_
      refine gw_iadd F rfl dX12_tick_60 ?_
      refine gw_iconst F dX12_tick_61 ?_
      refine gw_isub F rfl dX12_tick_62 ?_
      obtain ⟨⟨b190, b191⟩, hf⟩ := hf
      refine gw_iald F (sa_66 hst) b190 b191 dX12_tick_63 (fun h20 => ?_)
      refine gw_istore F (by decide) rfl dX12_tick_64 ?_
      refine gw_iload_n F 4 rfl rfl dX12_tick_66 ?_
      refine gw_iconst F dX12_tick_67 ?_
      refine gw_icmp_ge F (tgt := 82) dX12_tick_68 (by decide) r2 (by decide) (fun c21 => ?_) (fun c21 => ?_)
      · have hf := hf.1 c21
        refine gw_aload_n F 2 rfl rfl (by decide) dX12_tick_82 ?_
        refine gw_iload_n F 1 rfl rfl dX12_tick_83 ?_
        refine gw_iload F 0 rfl dX12_tick_84 ?_
        refine gk_HI F (gc_V F (S := []) (As := [sg_i (s13 66 ((1301 + x1) - 1)), sg_i (s13 66 ((1501 + x1) - 1))]) (T := TX12) (N := 62) (CX12_voiceOf hst h17 h20 hf) (so_64 hst) (by decide) rfl kw_1193 kw_103 kw_1191 kw_1192 kw_68 hcX12_voiceOf ⟨by decide, by decide⟩ rfl rfl (Nat.le_of_ble_eq_true rfl) ⟨by decide, by decide⟩ dX12_tick_86) (fun u22 s24 h23 hf => ?_)
        refine gw_pop F rfl dX12_tick_89 ?_
        refine gw_iload_n F 4 rfl rfl dX12_tick_90 ?_
        refine gw_iconst F dX12_tick_91 ?_
        refine gw_icmp_ne F (tgt := 102) dX12_tick_92 (by decide) r2 (by decide) (fun c25 => ?_) (fun c25 => ?_)
        · have hf := hf.1 c25
          refine gw_iload_n F 4 rfl rfl dX12_tick_102 ?_
          refine gw_iconst F dX12_tick_103 ?_
          refine gw_icmp_ne F (tgt := 114) dX12_tick_104 (by decide) r2 (by decide) (fun c26 => ?_) (fun c26 => ?_)
          · have hf := hf.1 c26
            refine gw_aload_n F 2 rfl rfl (by decide) dX12_tick_114 ?_
            refine gw_get0 F (so_64 hst) (by decide) rfl sg_lay_RX12 (j := 41) (by decide) rfl (host := "") (.inl kw_988) dX12_tick_115 (fun h27 => ?_)
            exact gr_HI F h27 hf (by decide) (by decide) dX12_tick_118
          · have hf := hf.2 c26
            refine gw_aload_n F 2 rfl rfl (by decide) dX12_tick_107 ?_
            refine gw_get0 F (so_64 hst) (by decide) rfl sg_lay_RX12 (j := 40) (by decide) rfl (host := "") (.inl kw_987) dX12_tick_108 (fun h28 => ?_)
            refine gw_goto F (tgt := 118) dX12_tick_111 (by decide) ?_
            exact gr_HI F h28 hf (by decide) (by decide) dX12_tick_118
        · have hf := hf.2 c25
          refine gw_aload_n F 2 rfl rfl (by decide) dX12_tick_95 ?_
          refine gw_get0 F (so_64 hst) (by decide) rfl sg_lay_RX12 (j := 39) (by decide) rfl (host := "") (.inl kw_986) dX12_tick_96 (fun h29 => ?_)
          refine gw_goto F (tgt := 118) dX12_tick_99 (by decide) ?_
          exact gr_HI F h29 hf (by decide) (by decide) dX12_tick_118
      · have hf := hf.2 c21
        refine gw_iload_n F 4 rfl rfl dX12_tick_71 ?_
        refine gw_if_ne F (tgt := 79) dX12_tick_72 (by decide) r2 (fun c30 => ?_) (fun c30 => ?_)
        · have hf := hf.1 c30
          refine gw_iload F 0 rfl dX12_tick_79 ?_
          exact gr_HI F h20 hf (by decide) (by decide) dX12_tick_81
        · have hf := hf.2 c30
          refine gw_iload_n F 1 rfl rfl dX12_tick_75 ?_
          refine gw_goto F (tgt := 81) dX12_tick_76 (by decide) ?_
          exact gr_HI F h17 hf (by decide) (by decide) dX12_tick_81
    · have hf := hf.2 c12
      refine gw_aload_n F 0 rfl rfl (by decide) dX12_tick_29 ?_
      refine gk_HI F (gc_V F (S := []) (As := []) (T := TX12) (N := 62) (CX12_refuse hst hf) (so_64 hst) (by decide) rfl kw_1098 kw_103 kw_1096 kw_1097 kw_53 hcX12_refuse ⟨by decide, by decide⟩ rfl rfl (Nat.le_of_ble_eq_true rfl) ⟨by decide, by decide⟩ dX12_tick_30) (fun u31 s33 h32 hf => ?_)
      exact gr_HI F h32 hf (by decide) (by decide) dX12_tick_33

theorem dX12_thrown_0 : decode cX12_thrown 0 = .ok (.aload_n 0, 1) := by decide +kernel
theorem dX12_thrown_1 : decode cX12_thrown 1 = .ok (.getfield 84, 3) := by decide +kernel
theorem dX12_thrown_4 : decode cX12_thrown 4 = .ok (.ireturn, 1) := by decide +kernel
theorem hcX12_thrown : yX12_thrown.cls ≠ "java/lang/invoke/MethodHandle" ∧ yX12_thrown.cls ≠ "java/lang/invoke/VarHandle" ∧ (parseMethodDescriptor yX12_thrown.desc).map (fun d => d.parameters.length) = some 0 := ⟨by decide +kernel, by decide +kernel, by decide +kernel⟩
def fX12_thrown (s0 : sg_M) (Q : Int → Prop) : Prop := Q (s0 64 0)
set_option maxHeartbeats 4000000 in
set_option maxRecDepth 100000 in
theorem CX12_thrown {l : Launch} {G : sg_G} {La : sg_L} {s0 : sg_M} (hst : sg_St La) {Q : Int → Prop} (hf : fX12_thrown s0 Q) : sg_C l G yX12_thrown cX12_thrown 1 (some .int) 1 0 0 La s0 [sg_r 64] (sg_PI La s0 Q) := by
  refine sg_body (by decide +kernel) (Nat.le_of_ble_eq_true rfl) ?_
  intro p e s m args below meth c F hnm
  unfold fX12_thrown at hf
  show sg_W p l e (sg_rm 1 0 0) s m args below meth c (MQ below (sg_Q (some .int) G La s.heap.size (sg_PI La s0 Q)) args s 0 0 (sg_A La s.heap.size)) 1 G (sg_A La s.heap.size) La s0 0 0 0 [(0, sg_r 64)] []
  refine gw_aload_n F 0 rfl rfl (by decide) dX12_thrown_0 ?_
  refine gw_get0 F (so_64 hst) (by decide) rfl sg_lay_RX12 (j := 0) (by decide) rfl (host := "") (.inl kw_947) dX12_thrown_1 (fun h1 => ?_)
  exact gr_PI F h1 hf (by decide) (by decide) dX12_thrown_4

theorem dX12_breaks_0 : decode cX12_breaks 0 = .ok (.aload_n 0, 1) := by decide +kernel
theorem dX12_breaks_1 : decode cX12_breaks 1 = .ok (.iconst 0, 1) := by decide +kernel
theorem dX12_breaks_2 : decode cX12_breaks 2 = .ok (.putfield 84, 3) := by decide +kernel
theorem dX12_breaks_5 : decode cX12_breaks 5 = .ok (.aload_n 0, 1) := by decide +kernel
theorem dX12_breaks_6 : decode cX12_breaks 6 = .ok (.invokevirtual 175, 3) := by decide +kernel
theorem dX12_breaks_9 : decode cX12_breaks 9 = .ok (.iload_n 1, 1) := by decide +kernel
theorem dX12_breaks_10 : decode cX12_breaks 10 = .ok (.iload_n 2, 1) := by decide +kernel
theorem dX12_breaks_11 : decode cX12_breaks 11 = .ok (.invokestatic 232, 3) := by decide +kernel
theorem dX12_breaks_14 : decode cX12_breaks 14 = .ok (.ifCond .ne 6, 3) := by decide +kernel
theorem dX12_breaks_17 : decode cX12_breaks 17 = .ok (.bipush (-2), 2) := by decide +kernel
theorem dX12_breaks_19 : decode cX12_breaks 19 = .ok (.ireturn, 1) := by decide +kernel
theorem dX12_breaks_20 : decode cX12_breaks 20 = .ok (.aload_n 0, 1) := by decide +kernel
theorem dX12_breaks_21 : decode cX12_breaks 21 = .ok (.iconst 0, 1) := by decide +kernel
theorem dX12_breaks_22 : decode cX12_breaks 22 = .ok (.iload_n 1, 1) := by decide +kernel
theorem dX12_breaks_23 : decode cX12_breaks 23 = .ok (.iload_n 2, 1) := by decide +kernel
theorem dX12_breaks_24 : decode cX12_breaks 24 = .ok (.iconst 0, 1) := by decide +kernel
theorem dX12_breaks_25 : decode cX12_breaks 25 = .ok (.iconst 0, 1) := by decide +kernel
theorem dX12_breaks_26 : decode cX12_breaks 26 = .ok (.invokevirtual 235, 3) := by decide +kernel
theorem dX12_breaks_29 : decode cX12_breaks 29 = .ok (.aload_n 0, 1) := by decide +kernel
theorem dX12_breaks_30 : decode cX12_breaks 30 = .ok (.getfield 218, 3) := by decide +kernel
theorem dX12_breaks_33 : decode cX12_breaks 33 = .ok (.ireturn, 1) := by decide +kernel
theorem hcX12_breaks : yX12_breaks.cls ≠ "java/lang/invoke/MethodHandle" ∧ yX12_breaks.cls ≠ "java/lang/invoke/VarHandle" ∧ (parseMethodDescriptor yX12_breaks.desc).map (fun d => d.parameters.length) = some 2 := ⟨by decide +kernel, by decide +kernel, by decide +kernel⟩
def fX12_breaks (s0 : sg_M) (x1 : Int) (x2 : Int) (Q : Int → sg_M → Prop) : Prop := ∀ s1 : sg_M, s1 = sg_up s0 64 0 0 → fX12_lay s1 (fun s3 => fX12_isBend x1 x2 (fun u4 => ((u4 ≠ 0 → fX12_layBend s3 0 x1 x2 0 0 (fun s7 => Q (s7 64 30) s7)) ∧ (u4 = 0 → Q (-2) s3))))
set_option maxHeartbeats 4000000 in
set_option maxRecDepth 100000 in
theorem CX12_breaks {l : Launch} {G : sg_G} {La : sg_L} {s0 : sg_M} (hst : sg_St La) {x1 : Int} (r1 : sg_R x1) {x2 : Int} (r2 : sg_R x2) {Q : Int → sg_M → Prop} (hf : fX12_breaks s0 x1 x2 Q) : sg_C l G yX12_breaks cX12_breaks 3 (some .int) 3 0 0 La s0 [sg_r 64, sg_i x1, sg_i x2] (sg_HI La Q) := by
  refine sg_body (by decide +kernel) (Nat.le_of_ble_eq_true rfl) ?_
  intro p e s m args below meth c F hnm
  unfold fX12_breaks at hf
  show sg_W p l e (sg_rm 3 0 0) s m args below meth c (MQ below (sg_Q (some .int) G La s.heap.size (sg_HI La Q)) args s 0 0 (sg_A La s.heap.size)) 3 G (sg_A La s.heap.size) La s0 0 0 0 [(0, sg_r 64), (1, sg_i x1), (2, sg_i x2)] []
  refine gw_aload_n F 0 rfl rfl (by decide) dX12_breaks_0 ?_
  refine gw_iconst F dX12_breaks_1 ?_
  obtain ⟨s1, e2⟩ : ∃ z : sg_M, z = sg_up s0 64 0 0 := ⟨_, rfl⟩
  have hf := hf s1 e2
  refine gw_put0 F (so_64 hst) (by decide) rfl sg_lay_RX12 (j := 0) (by decide) (by decide) e2 tyX12_ok nmX12 rfl (tyX12_ok 0 (by decide)) rfl (host := "") (.inl kw_947) dX12_breaks_2 ?_
  refine gw_aload_n F 0 rfl rfl (by decide) dX12_breaks_5 ?_
  refine gk_HV F (gc_V F (S := []) (As := []) (T := TX12) (N := 62) (CX12_lay hst hf) (so_64 hst) (by decide) rfl kw_1034 kw_103 kw_1032 kw_1033 kw_41 hcX12_lay ⟨by decide, by decide⟩ rfl rfl (Nat.le_of_ble_eq_true rfl) ⟨by decide, by decide⟩ dX12_breaks_6) (fun s3 hf => ?_)
  refine gw_iload_n F 1 rfl rfl dX12_breaks_9 ?_
  refine gw_iload_n F 2 rfl rfl dX12_breaks_10 ?_
  refine gk_PZ F (gc_S F (S := []) (As := [sg_i x1, sg_i x2]) (CX12_isBend r1 r2 hf) kw_1108 kw_103 kw_1106 kw_1107 hcX12_isBend ⟨by decide, by decide⟩ rfl rfl (Nat.le_of_ble_eq_true rfl) ⟨by decide, by decide⟩ dX12_breaks_11) (fun u4 h5 hf => ?_)
  refine gw_if_ne F (tgt := 20) dX12_breaks_14 (by decide) (sg_B_R h5) (fun c6 => ?_) (fun c6 => ?_)
  · have hf := hf.1 c6
    refine gw_aload_n F 0 rfl rfl (by decide) dX12_breaks_20 ?_
    refine gw_iconst F dX12_breaks_21 ?_
    refine gw_iload_n F 1 rfl rfl dX12_breaks_22 ?_
    refine gw_iload_n F 2 rfl rfl dX12_breaks_23 ?_
    refine gw_iconst F dX12_breaks_24 ?_
    refine gw_iconst F dX12_breaks_25 ?_
    refine gk_HV F (gc_V F (S := []) (As := [sg_i 0, sg_i x1, sg_i x2, sg_i 0, sg_i 0]) (T := TX12) (N := 62) (CX12_layBend hst (by decide) r1 r2 (by decide) (by decide) hf) (so_64 hst) (by decide) rfl kw_1111 kw_103 kw_1109 kw_1110 kw_55 hcX12_layBend ⟨by decide, by decide⟩ rfl rfl (Nat.le_of_ble_eq_true rfl) ⟨by decide, by decide⟩ dX12_breaks_26) (fun s7 hf => ?_)
    refine gw_aload_n F 0 rfl rfl (by decide) dX12_breaks_29 ?_
    refine gw_get0 F (so_64 hst) (by decide) rfl sg_lay_RX12 (j := 30) (by decide) rfl (host := "") (.inl kw_977) dX12_breaks_30 (fun h8 => ?_)
    exact gr_HI F h8 hf (by decide) (by decide) dX12_breaks_33
  · have hf := hf.2 c6
    refine gw_bipush F rfl dX12_breaks_17 ?_
    exact gr_HI F (by decide) hf (by decide) (by decide) dX12_breaks_19

theorem dX12_readCompare_0 : decode cX12_readCompare 0 = .ok (.aload_n 0, 1) := by decide +kernel
theorem dX12_readCompare_1 : decode cX12_readCompare 1 = .ok (.bipush 60, 2) := by decide +kernel
theorem dX12_readCompare_3 : decode cX12_readCompare 3 = .ok (.invokevirtual 165, 3) := by decide +kernel
theorem dX12_readCompare_6 : decode cX12_readCompare 6 = .ok (.ifCond .ne 27, 3) := by decide +kernel
theorem dX12_readCompare_9 : decode cX12_readCompare 9 = .ok (.aload_n 0, 1) := by decide +kernel
theorem dX12_readCompare_10 : decode cX12_readCompare 10 = .ok (.bipush 61, 2) := by decide +kernel
theorem dX12_readCompare_12 : decode cX12_readCompare 12 = .ok (.invokevirtual 165, 3) := by decide +kernel
theorem dX12_readCompare_15 : decode cX12_readCompare 15 = .ok (.ifCond .ne 18, 3) := by decide +kernel
theorem dX12_readCompare_18 : decode cX12_readCompare 18 = .ok (.aload_n 0, 1) := by decide +kernel
theorem dX12_readCompare_19 : decode cX12_readCompare 19 = .ok (.bipush 62, 2) := by decide +kernel
theorem dX12_readCompare_21 : decode cX12_readCompare 21 = .ok (.invokevirtual 165, 3) := by decide +kernel
theorem dX12_readCompare_24 : decode cX12_readCompare 24 = .ok (.ifCond .ne 9, 3) := by decide +kernel
theorem dX12_readCompare_27 : decode cX12_readCompare 27 = .ok (.aload_n 0, 1) := by decide +kernel
theorem dX12_readCompare_28 : decode cX12_readCompare 28 = .ok (.iconst 1, 1) := by decide +kernel
theorem dX12_readCompare_29 : decode cX12_readCompare 29 = .ok (.invokevirtual 152, 3) := by decide +kernel
theorem dX12_readCompare_32 : decode cX12_readCompare 32 = .ok (.ireturn, 1) := by decide +kernel
theorem dX12_readCompare_33 : decode cX12_readCompare 33 = .ok (.aload_n 0, 1) := by decide +kernel
theorem dX12_readCompare_34 : decode cX12_readCompare 34 = .ok (.getfield 116, 3) := by decide +kernel
theorem dX12_readCompare_37 : decode cX12_readCompare 37 = .ok (.istore_n 2, 1) := by decide +kernel
theorem dX12_readCompare_38 : decode cX12_readCompare 38 = .ok (.aload_n 0, 1) := by decide +kernel
theorem dX12_readCompare_39 : decode cX12_readCompare 39 = .ok (.invokevirtual 162, 3) := by decide +kernel
theorem dX12_readCompare_42 : decode cX12_readCompare 42 = .ok (.aload_n 0, 1) := by decide +kernel
theorem dX12_readCompare_43 : decode cX12_readCompare 43 = .ok (.iconst 0, 1) := by decide +kernel
theorem dX12_readCompare_44 : decode cX12_readCompare 44 = .ok (.sipush 9999, 3) := by decide +kernel
theorem dX12_readCompare_47 : decode cX12_readCompare 47 = .ok (.invokevirtual 168, 3) := by decide +kernel
theorem dX12_readCompare_50 : decode cX12_readCompare 50 = .ok (.ifCond .ne 5, 3) := by decide +kernel
theorem dX12_readCompare_53 : decode cX12_readCompare 53 = .ok (.iconst 0, 1) := by decide +kernel
theorem dX12_readCompare_54 : decode cX12_readCompare 54 = .ok (.ireturn, 1) := by decide +kernel
theorem dX12_readCompare_55 : decode cX12_readCompare 55 = .ok (.aload_n 0, 1) := by decide +kernel
theorem dX12_readCompare_56 : decode cX12_readCompare 56 = .ok (.aload_n 0, 1) := by decide +kernel
theorem dX12_readCompare_57 : decode cX12_readCompare 57 = .ok (.bipush 7, 2) := by decide +kernel
theorem dX12_readCompare_59 : decode cX12_readCompare 59 = .ok (.iload_n 1, 1) := by decide +kernel
theorem dX12_readCompare_60 : decode cX12_readCompare 60 = .ok (.aload_n 0, 1) := by decide +kernel
theorem dX12_readCompare_61 : decode cX12_readCompare 61 = .ok (.getfield 159, 3) := by decide +kernel
theorem dX12_readCompare_64 : decode cX12_readCompare 64 = .ok (.iload_n 2, 1) := by decide +kernel
theorem dX12_readCompare_65 : decode cX12_readCompare 65 = .ok (.invokevirtual 371, 3) := by decide +kernel
theorem dX12_readCompare_68 : decode cX12_readCompare 68 = .ok (.putfield 368, 3) := by decide +kernel
theorem dX12_readCompare_71 : decode cX12_readCompare 71 = .ok (.iconst 1, 1) := by decide +kernel
theorem dX12_readCompare_72 : decode cX12_readCompare 72 = .ok (.ireturn, 1) := by decide +kernel
theorem hcX12_readCompare : yX12_readCompare.cls ≠ "java/lang/invoke/MethodHandle" ∧ yX12_readCompare.cls ≠ "java/lang/invoke/VarHandle" ∧ (parseMethodDescriptor yX12_readCompare.desc).map (fun d => d.parameters.length) = some 1 := ⟨by decide +kernel, by decide +kernel, by decide +kernel⟩
def fX12_readCompare_j33 (s0 : sg_M) (x1 : Int) (Q : Int → sg_M → Prop)  : Prop := fX12_go s0 (fun s4 => fX12_readNumber s4 0 9999 (fun u5 s7 => ((u5 ≠ 0 → fX12_lays s7 7 x1 (s7 64 13) (s0 64 9) (fun u10 s12 => ∀ s13 : sg_M, s13 = sg_up s12 64 61 u10 → Q 1 s13)) ∧ (u5 = 0 → Q 0 s7))))
def fX12_readCompare (s0 : sg_M) (x1 : Int) (Q : Int → sg_M → Prop) : Prop := fX12_isSign s0 60 (fun u1 => ((u1 ≠ 0 → (fX12_readCompare_j33 s0 x1 Q)) ∧ (u1 = 0 → fX12_isSign s0 61 (fun u16 => ((u16 ≠ 0 → (fX12_readCompare_j33 s0 x1 Q)) ∧ (u16 = 0 → fX12_isSign s0 62 (fun u19 => ((u19 ≠ 0 → (fX12_readCompare_j33 s0 x1 Q)) ∧ (u19 = 0 → fX12_bad s0 1 (fun u22 s24 => Q u22 s24))))))))))
set_option maxHeartbeats 4000000 in
set_option maxRecDepth 100000 in
theorem CX12_readCompare {l : Launch} {G : sg_G} {La : sg_L} {s0 : sg_M} (hst : sg_St La) {x1 : Int} (r1 : sg_R x1) {Q : Int → sg_M → Prop} (hf : fX12_readCompare s0 x1 Q) : sg_C l G yX12_readCompare cX12_readCompare 3 (some .boolean) 4 0 0 La s0 [sg_r 64, sg_i x1] (sg_HZ La Q) := by
  refine sg_body (by decide +kernel) (Nat.le_of_ble_eq_true rfl) ?_
  intro p e s m args below meth c F hnm
  unfold fX12_readCompare at hf
  show sg_W p l e (sg_rm 4 0 0) s m args below meth c (MQ below (sg_Q (some .boolean) G La s.heap.size (sg_HZ La Q)) args s 0 0 (sg_A La s.heap.size)) 3 G (sg_A La s.heap.size) La s0 0 0 0 [(0, sg_r 64), (1, sg_i x1)] []
  refine gw_aload_n F 0 rfl rfl (by decide) dX12_readCompare_0 ?_
  refine gw_bipush F rfl dX12_readCompare_1 ?_
  refine gk_PZ F (gc_V F (S := []) (As := [sg_i 60]) (T := TX12) (N := 62) (CX12_isSign hst (by decide) hf) (so_64 hst) (by decide) rfl kw_1081 kw_103 kw_1079 kw_1080 kw_50 hcX12_isSign ⟨by decide, by decide⟩ rfl rfl (Nat.le_of_ble_eq_true rfl) ⟨by decide, by decide⟩ dX12_readCompare_3) (fun u1 h2 hf => ?_)
  have J33 : (fX12_readCompare_j33 s0 x1 Q) → sg_W p l e (sg_rm 4 0 0) s m args below meth c (MQ below (sg_Q (some .boolean) G La s.heap.size (sg_HZ La Q)) args s 0 0 (sg_A La s.heap.size)) 3 G (sg_A La s.heap.size) La s0 0 0 33 [(0, sg_r 64), (1, sg_i x1)] [] := by
    intro hf
    unfold fX12_readCompare_j33 at hf
    refine gw_aload_n F 0 rfl rfl (by decide) dX12_readCompare_33 ?_
    refine gw_get0 F (so_64 hst) (by decide) rfl sg_lay_RX12 (j := 9) (by decide) rfl (host := "") (.inl kw_956) dX12_readCompare_34 (fun h3 => ?_)
    refine gw_istore_n F rfl (by decide) rfl dX12_readCompare_37 ?_
    refine gw_aload_n F 1 rfl rfl (by decide) dX12_readCompare_38 ?_
    refine gk_HV F (gc_V F (S := []) (As := []) (T := TX12) (N := 62) (CX12_go hst hf) (so_64 hst) (by decide) rfl kw_1040 kw_103 kw_1038 kw_1039 kw_43 hcX12_go ⟨by decide, by decide⟩ rfl rfl (Nat.le_of_ble_eq_true rfl) ⟨by decide, by decide⟩ dX12_readCompare_39) (fun s4 hf => ?_)
    refine gw_aload_n F 1 rfl rfl (by decide) dX12_readCompare_42 ?_
    refine gw_iconst F dX12_readCompare_43 ?_
    refine gw_sipush F rfl dX12_readCompare_44 ?_
    refine gk_HZ F (gc_V F (S := []) (As := [sg_i 0, sg_i 9999]) (T := TX12) (N := 62) (CX12_readNumber hst (by decide) (by decide) hf) (so_64 hst) (by decide) rfl kw_1072 kw_103 kw_1070 kw_1071 kw_48 hcX12_readNumber ⟨by decide, by decide⟩ rfl rfl (Nat.le_of_ble_eq_true rfl) ⟨by decide, by decide⟩ dX12_readCompare_47) (fun u5 s7 h6 hf => ?_)
    refine gw_if_ne F (tgt := 55) dX12_readCompare_50 (by decide) (sg_B_R h6) (fun c8 => ?_) (fun c8 => ?_)
    · have hf := hf.1 c8
      refine gw_aload_n F 1 rfl rfl (by decide) dX12_readCompare_55 ?_
      refine gw_aload_n F 1 rfl rfl (by decide) dX12_readCompare_56 ?_
      refine gw_bipush F rfl dX12_readCompare_57 ?_
      refine gw_iload_n F 2 rfl rfl dX12_readCompare_59 ?_
      refine gw_aload_n F 1 rfl rfl (by decide) dX12_readCompare_60 ?_
      refine gw_get0 F (so_64 hst) (by decide) rfl sg_lay_RX12 (j := 13) (by decide) rfl (host := "") (.inl kw_960) dX12_readCompare_61 (fun h9 => ?_)
      refine gw_iload_n F 0 rfl rfl dX12_readCompare_64 ?_
      refine gk_HI F (gc_V F (S := [sg_r 64]) (As := [sg_i 7, sg_i x1, sg_i (s7 64 13), sg_i (s0 64 9)]) (T := TX12) (N := 62) (CX12_lays hst (by decide) r1 h9 h3 hf) (so_64 hst) (by decide) rfl kw_1316 kw_103 kw_1314 kw_1315 kw_85 hcX12_lays ⟨by decide, by decide⟩ rfl rfl (Nat.le_of_ble_eq_true rfl) ⟨by decide, by decide⟩ dX12_readCompare_65) (fun u10 s12 h11 hf => ?_)
      obtain ⟨s13, e14⟩ : ∃ z : sg_M, z = sg_up s12 64 61 u10 := ⟨_, rfl⟩
      have hf := hf s13 e14
      refine gw_put0 F (so_64 hst) (by decide) rfl sg_lay_RX12 (j := 61) (by decide) h11 e14 tyX12_ok nmX12 rfl (tyX12_ok 61 (by decide)) rfl (host := "") (.inl kw_1008) dX12_readCompare_68 ?_
      refine gw_iconst F dX12_readCompare_71 ?_
      exact gr_HZ F (by decide) hf (by decide) (by decide) dX12_readCompare_72
    · have hf := hf.2 c8
      refine gw_iconst F dX12_readCompare_53 ?_
      exact gr_HZ F (by decide) hf (by decide) (by decide) dX12_readCompare_54
  refine gw_if_ne F (tgt := 33) dX12_readCompare_6 (by decide) (sg_B_R h2) (fun c15 => ?_) (fun c15 => ?_)
  · have hf := hf.1 c15
    refine gw_sub [0, 1] rfl ?_
    exact J33  hf
  · have hf := hf.2 c15
    refine gw_aload_n F 0 rfl rfl (by decide) dX12_readCompare_9 ?_
    refine gw_bipush F rfl dX12_readCompare_10 ?_
    refine gk_PZ F (gc_V F (S := []) (As := [sg_i 61]) (T := TX12) (N := 62) (CX12_isSign hst (by decide) hf) (so_64 hst) (by decide) rfl kw_1081 kw_103 kw_1079 kw_1080 kw_50 hcX12_isSign ⟨by decide, by decide⟩ rfl rfl (Nat.le_of_ble_eq_true rfl) ⟨by decide, by decide⟩ dX12_readCompare_12) (fun u16 h17 hf => ?_)
    refine gw_if_ne F (tgt := 33) dX12_readCompare_15 (by decide) (sg_B_R h17) (fun c18 => ?_) (fun c18 => ?_)
    · have hf := hf.1 c18
      refine gw_sub [0, 1] rfl ?_
      exact J33  hf
    · have hf := hf.2 c18
      refine gw_aload_n F 0 rfl rfl (by decide) dX12_readCompare_18 ?_
      refine gw_bipush F rfl dX12_readCompare_19 ?_
      refine gk_PZ F (gc_V F (S := []) (As := [sg_i 62]) (T := TX12) (N := 62) (CX12_isSign hst (by decide) hf) (so_64 hst) (by decide) rfl kw_1081 kw_103 kw_1079 kw_1080 kw_50 hcX12_isSign ⟨by decide, by decide⟩ rfl rfl (Nat.le_of_ble_eq_true rfl) ⟨by decide, by decide⟩ dX12_readCompare_21) (fun u19 h20 hf => ?_)
      refine gw_if_ne F (tgt := 33) dX12_readCompare_24 (by decide) (sg_B_R h20) (fun c21 => ?_) (fun c21 => ?_)
      · have hf := hf.1 c21
        refine gw_sub [0, 1] rfl ?_
        exact J33  hf
      · have hf := hf.2 c21
        refine gw_aload_n F 0 rfl rfl (by decide) dX12_readCompare_27 ?_
        refine gw_iconst F dX12_readCompare_28 ?_
        refine gk_HZ F (gc_V F (S := []) (As := [sg_i 1]) (T := TX12) (N := 62) (CX12_bad hst (by decide) hf) (so_64 hst) (by decide) rfl kw_1069 kw_103 kw_1067 kw_1068 kw_47 hcX12_bad ⟨by decide, by decide⟩ rfl rfl (Nat.le_of_ble_eq_true rfl) ⟨by decide, by decide⟩ dX12_readCompare_29) (fun u22 s24 h23 hf => ?_)
        exact gr_HZ F h23 hf (by decide) (by decide) dX12_readCompare_32

theorem dX12_bend_0 : decode cX12_bend 0 = .ok (.aload_n 0, 1) := by decide +kernel
theorem dX12_bend_1 : decode cX12_bend 1 = .ok (.invokevirtual 175, 3) := by decide +kernel
theorem dX12_bend_4 : decode cX12_bend 4 = .ok (.iload_n 1, 1) := by decide +kernel
theorem dX12_bend_5 : decode cX12_bend 5 = .ok (.iload_n 2, 1) := by decide +kernel
theorem dX12_bend_6 : decode cX12_bend 6 = .ok (.invokestatic 232, 3) := by decide +kernel
theorem dX12_bend_9 : decode cX12_bend 9 = .ok (.ifCond .eq 25, 3) := by decide +kernel
theorem dX12_bend_12 : decode cX12_bend 12 = .ok (.iload_n 3, 1) := by decide +kernel
theorem dX12_bend_13 : decode cX12_bend 13 = .ok (.ifCond .lt 21, 3) := by decide +kernel
theorem dX12_bend_16 : decode cX12_bend 16 = .ok (.iload_n 3, 1) := by decide +kernel
theorem dX12_bend_17 : decode cX12_bend 17 = .ok (.aload_n 0, 1) := by decide +kernel
theorem dX12_bend_18 : decode cX12_bend 18 = .ok (.invokevirtual 202, 3) := by decide +kernel
theorem dX12_bend_21 : decode cX12_bend 21 = .ok (.if_icmp .ge 13, 3) := by decide +kernel
theorem dX12_bend_24 : decode cX12_bend 24 = .ok (.iload 4, 2) := by decide +kernel
theorem dX12_bend_26 : decode cX12_bend 26 = .ok (.iconst 0, 1) := by decide +kernel
theorem dX12_bend_27 : decode cX12_bend 27 = .ok (.iconst 1, 1) := by decide +kernel
theorem dX12_bend_28 : decode cX12_bend 28 = .ok (.invokestatic 155, 3) := by decide +kernel
theorem dX12_bend_31 : decode cX12_bend 31 = .ok (.ifCond .ne 8, 3) := by decide +kernel
theorem dX12_bend_34 : decode cX12_bend 34 = .ok (.aload_n 0, 1) := by decide +kernel
theorem dX12_bend_35 : decode cX12_bend 35 = .ok (.invokevirtual 205, 3) := by decide +kernel
theorem dX12_bend_38 : decode cX12_bend 38 = .ok (.ireturn, 1) := by decide +kernel
theorem dX12_bend_39 : decode cX12_bend 39 = .ok (.aload_n 0, 1) := by decide +kernel
theorem dX12_bend_40 : decode cX12_bend 40 = .ok (.iconst 0, 1) := by decide +kernel
theorem dX12_bend_41 : decode cX12_bend 41 = .ok (.putfield 84, 3) := by decide +kernel
theorem dX12_bend_44 : decode cX12_bend 44 = .ok (.aload_n 0, 1) := by decide +kernel
theorem dX12_bend_45 : decode cX12_bend 45 = .ok (.iconst 0, 1) := by decide +kernel
theorem dX12_bend_46 : decode cX12_bend 46 = .ok (.iload_n 1, 1) := by decide +kernel
theorem dX12_bend_47 : decode cX12_bend 47 = .ok (.iload_n 2, 1) := by decide +kernel
theorem dX12_bend_48 : decode cX12_bend 48 = .ok (.iconst 0, 1) := by decide +kernel
theorem dX12_bend_49 : decode cX12_bend 49 = .ok (.iconst 0, 1) := by decide +kernel
theorem dX12_bend_50 : decode cX12_bend 50 = .ok (.invokevirtual 235, 3) := by decide +kernel
theorem dX12_bend_53 : decode cX12_bend 53 = .ok (.iload 4, 2) := by decide +kernel
theorem dX12_bend_55 : decode cX12_bend 55 = .ok (.ifCond .ne 12, 3) := by decide +kernel
theorem dX12_bend_58 : decode cX12_bend 58 = .ok (.aload_n 0, 1) := by decide +kernel
theorem dX12_bend_59 : decode cX12_bend 59 = .ok (.getfield 32, 3) := by decide +kernel
theorem dX12_bend_62 : decode cX12_bend 62 = .ok (.iload_n 3, 1) := by decide +kernel
theorem dX12_bend_63 : decode cX12_bend 63 = .ok (.iaload, 1) := by decide +kernel
theorem dX12_bend_64 : decode cX12_bend 64 = .ok (.goto 9, 3) := by decide +kernel
theorem dX12_bend_67 : decode cX12_bend 67 = .ok (.aload_n 0, 1) := by decide +kernel
theorem dX12_bend_68 : decode cX12_bend 68 = .ok (.getfield 38, 3) := by decide +kernel
theorem dX12_bend_71 : decode cX12_bend 71 = .ok (.iload_n 3, 1) := by decide +kernel
theorem dX12_bend_72 : decode cX12_bend 72 = .ok (.iaload, 1) := by decide +kernel
theorem dX12_bend_73 : decode cX12_bend 73 = .ok (.ireturn, 1) := by decide +kernel
theorem hcX12_bend : yX12_bend.cls ≠ "java/lang/invoke/MethodHandle" ∧ yX12_bend.cls ≠ "java/lang/invoke/VarHandle" ∧ (parseMethodDescriptor yX12_bend.desc).map (fun d => d.parameters.length) = some 4 := ⟨by decide +kernel, by decide +kernel, by decide +kernel⟩
def fX12_bend (s0 : sg_M) (x1 : Int) (x2 : Int) (x3 : Int) (x4 : Int) (Q : Int → sg_M → Prop) : Prop := fX12_lay s0 (fun s1 => fX12_isBend x1 x2 (fun u2 => ((u2 = 0 → fX12_refuse s1 (fun u5 s7 => Q u5 s7)) ∧ (¬ (u2 = 0) → ((x3 < 0 → fX12_refuse s1 (fun u9 s11 => Q u9 s11)) ∧ (¬ (x3 < 0) → fX12_pieces s1 (fun u12 => ((u12 ≤ x3 → fX12_refuse s1 (fun u15 s17 => Q u15 s17)) ∧ (¬ (u12 ≤ x3) → fX12_isIn x4 0 1 (fun u18 => ((u18 ≠ 0 → ∀ s21 : sg_M, s21 = sg_up s1 64 0 0 → fX12_layBend s21 0 x1 x2 0 0 (fun s23 => ((x4 ≠ 0 → (0 ≤ x3 ∧ x3 < 60) ∧ Q (s23 74 x3) s23) ∧ (x4 = 0 → (0 ≤ x3 ∧ x3 < 60) ∧ Q (s23 72 x3) s23)))) ∧ (u18 = 0 → fX12_refuse s1 (fun u31 s33 => Q u31 s33)))))))))))))
set_option maxHeartbeats 4000000 in
set_option maxRecDepth 100000 in
theorem CX12_bend {l : Launch} {G : sg_G} {La : sg_L} {s0 : sg_M} (hst : sg_St La) {x1 : Int} (r1 : sg_R x1) {x2 : Int} (r2 : sg_R x2) {x3 : Int} (r3 : sg_R x3) {x4 : Int} (r4 : sg_R x4) {Q : Int → sg_M → Prop} (hf : fX12_bend s0 x1 x2 x3 x4 Q) : sg_C l G yX12_bend cX12_bend 5 (some .int) 3 0 0 La s0 [sg_r 64, sg_i x1, sg_i x2, sg_i x3, sg_i x4] (sg_HI La Q) := by
  refine sg_body (by decide +kernel) (Nat.le_of_ble_eq_true rfl) ?_
  intro p e s m args below meth c F hnm
  unfold fX12_bend at hf
  show sg_W p l e (sg_rm 3 0 0) s m args below meth c (MQ below (sg_Q (some .int) G La s.heap.size (sg_HI La Q)) args s 0 0 (sg_A La s.heap.size)) 5 G (sg_A La s.heap.size) La s0 0 0 0 [(0, sg_r 64), (1, sg_i x1), (2, sg_i x2), (3, sg_i x3), (4, sg_i x4)] []
  refine gw_aload_n F 0 rfl rfl (by decide) dX12_bend_0 ?_
  refine gk_HV F (gc_V F (S := []) (As := []) (T := TX12) (N := 62) (CX12_lay hst hf) (so_64 hst) (by decide) rfl kw_1034 kw_103 kw_1032 kw_1033 kw_41 hcX12_lay ⟨by decide, by decide⟩ rfl rfl (Nat.le_of_ble_eq_true rfl) ⟨by decide, by decide⟩ dX12_bend_1) (fun s1 hf => ?_)
  refine gw_iload_n F 1 rfl rfl dX12_bend_4 ?_
  refine gw_iload_n F 2 rfl rfl dX12_bend_5 ?_
  refine gk_PZ F (gc_S F (S := []) (As := [sg_i x1, sg_i x2]) (CX12_isBend r1 r2 hf) kw_1108 kw_103 kw_1106 kw_1107 hcX12_isBend ⟨by decide, by decide⟩ rfl rfl (Nat.le_of_ble_eq_true rfl) ⟨by decide, by decide⟩ dX12_bend_6) (fun u2 h3 hf => ?_)
  refine gw_if_eq F (tgt := 34) dX12_bend_9 (by decide) (sg_B_R h3) (fun c4 => ?_) (fun c4 => ?_)
  · have hf := hf.1 c4
    refine gw_aload_n F 0 rfl rfl (by decide) dX12_bend_34 ?_
    refine gk_HI F (gc_V F (S := []) (As := []) (T := TX12) (N := 62) (CX12_refuse hst hf) (so_64 hst) (by decide) rfl kw_1098 kw_103 kw_1096 kw_1097 kw_53 hcX12_refuse ⟨by decide, by decide⟩ rfl rfl (Nat.le_of_ble_eq_true rfl) ⟨by decide, by decide⟩ dX12_bend_35) (fun u5 s7 h6 hf => ?_)
    exact gr_HI F h6 hf (by decide) (by decide) dX12_bend_38
  · have hf := hf.2 c4
    refine gw_iload_n F 3 rfl rfl dX12_bend_12 ?_
    refine gw_if_lt F (tgt := 34) dX12_bend_13 (by decide) r3 (fun c8 => ?_) (fun c8 => ?_)
    · have hf := hf.1 c8
      refine gw_aload_n F 0 rfl rfl (by decide) dX12_bend_34 ?_
      refine gk_HI F (gc_V F (S := []) (As := []) (T := TX12) (N := 62) (CX12_refuse hst hf) (so_64 hst) (by decide) rfl kw_1098 kw_103 kw_1096 kw_1097 kw_53 hcX12_refuse ⟨by decide, by decide⟩ rfl rfl (Nat.le_of_ble_eq_true rfl) ⟨by decide, by decide⟩ dX12_bend_35) (fun u9 s11 h10 hf => ?_)
      exact gr_HI F h10 hf (by decide) (by decide) dX12_bend_38
    · have hf := hf.2 c8
      refine gw_iload_n F 3 rfl rfl dX12_bend_16 ?_
      refine gw_aload_n F 0 rfl rfl (by decide) dX12_bend_17 ?_
      refine gk_PI F (gc_V F (S := [sg_i x3]) (As := []) (T := TX12) (N := 62) (CX12_pieces hst hf) (so_64 hst) (by decide) rfl kw_1095 kw_103 kw_1093 kw_1094 kw_52 hcX12_pieces ⟨by decide, by decide⟩ rfl rfl (Nat.le_of_ble_eq_true rfl) ⟨by decide, by decide⟩ dX12_bend_18) (fun u12 h13 hf => ?_)
      refine gw_icmp_ge F (tgt := 34) dX12_bend_21 (by decide) r3 h13 (fun c14 => ?_) (fun c14 => ?_)
      · have hf := hf.1 c14
        refine gw_aload_n F 0 rfl rfl (by decide) dX12_bend_34 ?_
        refine gk_HI F (gc_V F (S := []) (As := []) (T := TX12) (N := 62) (CX12_refuse hst hf) (so_64 hst) (by decide) rfl kw_1098 kw_103 kw_1096 kw_1097 kw_53 hcX12_refuse ⟨by decide, by decide⟩ rfl rfl (Nat.le_of_ble_eq_true rfl) ⟨by decide, by decide⟩ dX12_bend_35) (fun u15 s17 h16 hf => ?_)
        exact gr_HI F h16 hf (by decide) (by decide) dX12_bend_38
      · have hf := hf.2 c14
        refine gw_iload F 4 rfl dX12_bend_24 ?_
        refine gw_iconst F dX12_bend_26 ?_
        refine gw_iconst F dX12_bend_27 ?_
        refine gk_PZ F (gc_S F (S := []) (As := [sg_i x4, sg_i 0, sg_i 1]) (CX12_isIn r4 (by decide) (by decide) hf) kw_1075 kw_103 kw_1073 kw_1074 hcX12_isIn ⟨by decide, by decide⟩ rfl rfl (Nat.le_of_ble_eq_true rfl) ⟨by decide, by decide⟩ dX12_bend_28) (fun u18 h19 hf => ?_)
        refine gw_if_ne F (tgt := 39) dX12_bend_31 (by decide) (sg_B_R h19) (fun c20 => ?_) (fun c20 => ?_)
        · have hf := hf.1 c20
          refine gw_aload_n F 0 rfl rfl (by decide) dX12_bend_39 ?_
          refine gw_iconst F dX12_bend_40 ?_
          obtain ⟨s21, e22⟩ : ∃ z : sg_M, z = sg_up s1 64 0 0 := ⟨_, rfl⟩
          have hf := hf s21 e22
          refine gw_put0 F (so_64 hst) (by decide) rfl sg_lay_RX12 (j := 0) (by decide) (by decide) e22 tyX12_ok nmX12 rfl (tyX12_ok 0 (by decide)) rfl (host := "") (.inl kw_947) dX12_bend_41 ?_
          refine gw_aload_n F 0 rfl rfl (by decide) dX12_bend_44 ?_
          refine gw_iconst F dX12_bend_45 ?_
          refine gw_iload_n F 1 rfl rfl dX12_bend_46 ?_
          refine gw_iload_n F 2 rfl rfl dX12_bend_47 ?_
          refine gw_iconst F dX12_bend_48 ?_
          refine gw_iconst F dX12_bend_49 ?_
          refine gk_HV F (gc_V F (S := []) (As := [sg_i 0, sg_i x1, sg_i x2, sg_i 0, sg_i 0]) (T := TX12) (N := 62) (CX12_layBend hst (by decide) r1 r2 (by decide) (by decide) hf) (so_64 hst) (by decide) rfl kw_1111 kw_103 kw_1109 kw_1110 kw_55 hcX12_layBend ⟨by decide, by decide⟩ rfl rfl (Nat.le_of_ble_eq_true rfl) ⟨by decide, by decide⟩ dX12_bend_50) (fun s23 hf => ?_)
          refine gw_iload F 4 rfl dX12_bend_53 ?_
          refine gw_if_ne F (tgt := 67) dX12_bend_55 (by decide) r4 (fun c24 => ?_) (fun c24 => ?_)
          · have hf := hf.1 c24
            refine gw_aload_n F 0 rfl rfl (by decide) dX12_bend_67 ?_
            refine gw_get7 F (so_64 hst) (by decide) rfl sg_lay_RX12 (j := 24) (by decide) (o1 := 74) (by first | rfl | omega) rfl (host := "") (.inl kw_971) dX12_bend_68 (fun h25 => ?_)
            refine gw_iload_n F 3 rfl rfl dX12_bend_71 ?_
            obtain ⟨⟨b260, b261⟩, hf⟩ := hf
            refine gw_iald F (sa_74 hst) b260 b261 dX12_bend_72 (fun h27 => ?_)
            exact gr_HI F h27 hf (by decide) (by decide) dX12_bend_73
          · have hf := hf.2 c24
            refine gw_aload_n F 0 rfl rfl (by decide) dX12_bend_58 ?_
            refine gw_get7 F (so_64 hst) (by decide) rfl sg_lay_RX12 (j := 22) (by decide) (o1 := 72) (by first | rfl | omega) rfl (host := "") (.inl kw_969) dX12_bend_59 (fun h28 => ?_)
            refine gw_iload_n F 3 rfl rfl dX12_bend_62 ?_
            obtain ⟨⟨b290, b291⟩, hf⟩ := hf
            refine gw_iald F (sa_72 hst) b290 b291 dX12_bend_63 (fun h30 => ?_)
            refine gw_goto F (tgt := 73) dX12_bend_64 (by decide) ?_
            exact gr_HI F h30 hf (by decide) (by decide) dX12_bend_73
        · have hf := hf.2 c20
          refine gw_aload_n F 0 rfl rfl (by decide) dX12_bend_34 ?_
          refine gk_HI F (gc_V F (S := []) (As := []) (T := TX12) (N := 62) (CX12_refuse hst hf) (so_64 hst) (by decide) rfl kw_1098 kw_103 kw_1096 kw_1097 kw_53 hcX12_refuse ⟨by decide, by decide⟩ rfl rfl (Nat.le_of_ble_eq_true rfl) ⟨by decide, by decide⟩ dX12_bend_35) (fun u31 s33 h32 hf => ?_)
          exact gr_HI F h32 hf (by decide) (by decide) dX12_bend_38
