theorem dX12_isWritten_0 : decode cX12_isWritten 0 = .ok (.iload_n 1, 1) := by decide +kernel
theorem dX12_isWritten_1 : decode cX12_isWritten 1 = .ok (.ifCond .lt 15, 3) := by decide +kernel
theorem dX12_isWritten_4 : decode cX12_isWritten 4 = .ok (.iload_n 1, 1) := by decide +kernel
theorem dX12_isWritten_5 : decode cX12_isWritten 5 = .ok (.aload_n 0, 1) := by decide +kernel
theorem dX12_isWritten_6 : decode cX12_isWritten 6 = .ok (.invokevirtual 320, 3) := by decide +kernel
theorem dX12_isWritten_9 : decode cX12_isWritten 9 = .ok (.if_icmp .ge 7, 3) := by decide +kernel
theorem dX12_isWritten_12 : decode cX12_isWritten 12 = .ok (.iconst 1, 1) := by decide +kernel
theorem dX12_isWritten_13 : decode cX12_isWritten 13 = .ok (.goto 4, 3) := by decide +kernel
theorem dX12_isWritten_16 : decode cX12_isWritten 16 = .ok (.iconst 0, 1) := by decide +kernel
theorem dX12_isWritten_17 : decode cX12_isWritten 17 = .ok (.ireturn, 1) := by decide +kernel
theorem hcX12_isWritten : yX12_isWritten.cls ≠ "java/lang/invoke/MethodHandle" ∧ yX12_isWritten.cls ≠ "java/lang/invoke/VarHandle" ∧ (parseMethodDescriptor yX12_isWritten.desc).map (fun d => d.parameters.length) = some 1 := ⟨by decide +kernel, by decide +kernel, by decide +kernel⟩
def fX12_isWritten (s0 : sg_M) (x1 : Int) (Q : Int → Prop) : Prop := ((x1 < 0 → Q 0) ∧ (¬ (x1 < 0) → fX12_bends s0 (fun u2 => ((u2 ≤ x1 → Q 0) ∧ (¬ (u2 ≤ x1) → Q 1)))))
set_option maxHeartbeats 4000000 in
set_option maxRecDepth 100000 in
theorem CX12_isWritten {l : Launch} {G : sg_G} {La : sg_L} {s0 : sg_M} (hst : sg_St La) {x1 : Int} (r1 : sg_R x1) {Q : Int → Prop} (hf : fX12_isWritten s0 x1 Q) : sg_C l G yX12_isWritten cX12_isWritten 2 (some .boolean) 2 0 0 La s0 [sg_r 64, sg_i x1] (sg_PZ La s0 Q) := by
  refine sg_body (by decide +kernel) (Nat.le_of_ble_eq_true rfl) ?_
  intro p e s m args below meth c F hnm
  unfold fX12_isWritten at hf
  show sg_W p l e (sg_rm 2 0 0) s m args below meth c (MQ below (sg_Q (some .boolean) G La s.heap.size (sg_PZ La s0 Q)) args s 0 0 (sg_A La s.heap.size)) 2 G (sg_A La s.heap.size) La s0 0 0 0 [(0, sg_r 64), (1, sg_i x1)] []
  refine gw_iload_n F 1 rfl rfl dX12_isWritten_0 ?_
  refine gw_if_lt F (tgt := 16) dX12_isWritten_1 (by decide) r1 (fun c1 => ?_) (fun c1 => ?_)
  · have hf := hf.1 c1
    refine gw_iconst F dX12_isWritten_16 ?_
    exact gr_PZ F (by decide) hf (by decide) (by decide) dX12_isWritten_17
  · have hf := hf.2 c1
    refine gw_iload_n F 1 rfl rfl dX12_isWritten_4 ?_
    refine gw_aload_n F 0 rfl rfl (by decide) dX12_isWritten_5 ?_
    refine gk_PI F (gc_V F (S := [sg_i x1]) (As := []) (T := TX12) (N := 62) (CX12_bends hst hf) (so_64 hst) (by decide) rfl kw_1203 kw_103 kw_1201 kw_1202 kw_70 hcX12_bends ⟨by decide, by decide⟩ rfl rfl (Nat.le_of_ble_eq_true rfl) ⟨by decide, by decide⟩ dX12_isWritten_6) (fun u2 h3 hf => ?_)
    refine gw_icmp_ge F (tgt := 16) dX12_isWritten_9 (by decide) r1 h3 (fun c4 => ?_) (fun c4 => ?_)
    · have hf := hf.1 c4
      refine gw_iconst F dX12_isWritten_16 ?_
      exact gr_PZ F (by decide) hf (by decide) (by decide) dX12_isWritten_17
    · have hf := hf.2 c4
      refine gw_iconst F dX12_isWritten_12 ?_
      refine gw_goto F (tgt := 17) dX12_isWritten_13 (by decide) ?_
      exact gr_PZ F (by decide) hf (by decide) (by decide) dX12_isWritten_17

theorem dX12_takeTape_0 : decode cX12_takeTape 0 = .ok (.aload_n 0, 1) := by decide +kernel
theorem dX12_takeTape_1 : decode cX12_takeTape 1 = .ok (.getfield 87, 3) := by decide +kernel
theorem dX12_takeTape_4 : decode cX12_takeTape 4 = .ok (.istore_n 1, 1) := by decide +kernel
theorem dX12_takeTape_5 : decode cX12_takeTape 5 = .ok (.aload_n 0, 1) := by decide +kernel
theorem dX12_takeTape_6 : decode cX12_takeTape 6 = .ok (.iconst 0, 1) := by decide +kernel
theorem dX12_takeTape_7 : decode cX12_takeTape 7 = .ok (.putfield 87, 3) := by decide +kernel
theorem dX12_takeTape_10 : decode cX12_takeTape 10 = .ok (.iload_n 1, 1) := by decide +kernel
theorem dX12_takeTape_11 : decode cX12_takeTape 11 = .ok (.ireturn, 1) := by decide +kernel
theorem hcX12_takeTape : yX12_takeTape.cls ≠ "java/lang/invoke/MethodHandle" ∧ yX12_takeTape.cls ≠ "java/lang/invoke/VarHandle" ∧ (parseMethodDescriptor yX12_takeTape.desc).map (fun d => d.parameters.length) = some 0 := ⟨by decide +kernel, by decide +kernel, by decide +kernel⟩
def fX12_takeTape (s0 : sg_M) (Q : Int → sg_M → Prop) : Prop := ∀ s2 : sg_M, s2 = sg_up s0 64 2 0 → Q (s0 64 2) s2
set_option maxHeartbeats 4000000 in
set_option maxRecDepth 100000 in
theorem CX12_takeTape {l : Launch} {G : sg_G} {La : sg_L} {s0 : sg_M} (hst : sg_St La) {Q : Int → sg_M → Prop} (hf : fX12_takeTape s0 Q) : sg_C l G yX12_takeTape cX12_takeTape 2 (some .int) 1 0 0 La s0 [sg_r 64] (sg_HI La Q) := by
  refine sg_body (by decide +kernel) (Nat.le_of_ble_eq_true rfl) ?_
  intro p e s m args below meth c F hnm
  unfold fX12_takeTape at hf
  show sg_W p l e (sg_rm 1 0 0) s m args below meth c (MQ below (sg_Q (some .int) G La s.heap.size (sg_HI La Q)) args s 0 0 (sg_A La s.heap.size)) 2 G (sg_A La s.heap.size) La s0 0 0 0 [(0, sg_r 64)] []
  refine gw_aload_n F 0 rfl rfl (by decide) dX12_takeTape_0 ?_
  refine gw_get0 F (so_64 hst) (by decide) rfl sg_lay_RX12 (j := 2) (by decide) rfl (host := "") (.inl kw_949) dX12_takeTape_1 (fun h1 => ?_)
  refine gw_istore_n F rfl (by decide) rfl dX12_takeTape_4 ?_
  refine gw_aload_n F 1 rfl rfl (by decide) dX12_takeTape_5 ?_
  refine gw_iconst F dX12_takeTape_6 ?_
  obtain ⟨s2, e3⟩ : ∃ z : sg_M, z = sg_up s0 64 2 0 := ⟨_, rfl⟩
  have hf := hf s2 e3
  refine gw_put0 F (so_64 hst) (by decide) rfl sg_lay_RX12 (j := 2) (by decide) (by decide) e3 tyX12_ok nmX12 rfl (tyX12_ok 2 (by decide)) rfl (host := "") (.inl kw_949) dX12_takeTape_7 ?_
  refine gw_iload_n F 0 rfl rfl dX12_takeTape_10 ?_
  exact gr_HI F h1 hf (by decide) (by decide) dX12_takeTape_11

theorem dX12_which_0 : decode cX12_which 0 = .ok (.aload_n 0, 1) := by decide +kernel
theorem dX12_which_1 : decode cX12_which 1 = .ok (.iconst 0, 1) := by decide +kernel
theorem dX12_which_2 : decode cX12_which 2 = .ok (.putfield 84, 3) := by decide +kernel
theorem dX12_which_5 : decode cX12_which 5 = .ok (.aload_n 0, 1) := by decide +kernel
theorem dX12_which_6 : decode cX12_which 6 = .ok (.invokevirtual 175, 3) := by decide +kernel
theorem dX12_which_9 : decode cX12_which 9 = .ok (.aload_n 0, 1) := by decide +kernel
theorem dX12_which_10 : decode cX12_which 10 = .ok (.invokevirtual 178, 3) := by decide +kernel
theorem dX12_which_13 : decode cX12_which 13 = .ok (.istore_n 2, 1) := by decide +kernel
theorem dX12_which_14 : decode cX12_which 14 = .ok (.iload_n 2, 1) := by decide +kernel
theorem dX12_which_15 : decode cX12_which 15 = .ok (.iconst 3, 1) := by decide +kernel
theorem dX12_which_16 : decode cX12_which 16 = .ok (.irem, 1) := by decide +kernel
theorem dX12_which_17 : decode cX12_which 17 = .ok (.ifCond .ne 26, 3) := by decide +kernel
theorem dX12_which_20 : decode cX12_which 20 = .ok (.iload_n 2, 1) := by decide +kernel
theorem dX12_which_21 : decode cX12_which 21 = .ok (.iconst 3, 1) := by decide +kernel
theorem dX12_which_22 : decode cX12_which 22 = .ok (.idiv, 1) := by decide +kernel
theorem dX12_which_23 : decode cX12_which 23 = .ok (.iconst 1, 1) := by decide +kernel
theorem dX12_which_24 : decode cX12_which 24 = .ok (.bipush 40, 2) := by decide +kernel
theorem dX12_which_26 : decode cX12_which 26 = .ok (.invokestatic 155, 3) := by decide +kernel
theorem dX12_which_29 : decode cX12_which 29 = .ok (.ifCond .eq 14, 3) := by decide +kernel
theorem dX12_which_32 : decode cX12_which 32 = .ok (.iload_n 1, 1) := by decide +kernel
theorem dX12_which_33 : decode cX12_which 33 = .ok (.iconst 0, 1) := by decide +kernel
theorem dX12_which_34 : decode cX12_which 34 = .ok (.sipush 200, 3) := by decide +kernel
theorem dX12_which_37 : decode cX12_which 37 = .ok (.invokestatic 155, 3) := by decide +kernel
theorem dX12_which_40 : decode cX12_which 40 = .ok (.ifCond .ne 5, 3) := by decide +kernel
theorem dX12_which_43 : decode cX12_which 43 = .ok (.iconst (-1), 1) := by decide +kernel
theorem dX12_which_44 : decode cX12_which 44 = .ok (.ireturn, 1) := by decide +kernel
theorem dX12_which_45 : decode cX12_which 45 = .ok (.iload_n 2, 1) := by decide +kernel
theorem dX12_which_46 : decode cX12_which 46 = .ok (.iconst 3, 1) := by decide +kernel
theorem dX12_which_47 : decode cX12_which 47 = .ok (.idiv, 1) := by decide +kernel
theorem dX12_which_48 : decode cX12_which 48 = .ok (.istore_n 2, 1) := by decide +kernel
theorem dX12_which_49 : decode cX12_which 49 = .ok (.iconst 0, 1) := by decide +kernel
theorem dX12_which_50 : decode cX12_which 50 = .ok (.istore_n 3, 1) := by decide +kernel
theorem dX12_which_51 : decode cX12_which 51 = .ok (.iload_n 3, 1) := by decide +kernel
theorem dX12_which_52 : decode cX12_which 52 = .ok (.iload_n 2, 1) := by decide +kernel
theorem dX12_which_53 : decode cX12_which 53 = .ok (.if_icmp .ge 61, 3) := by decide +kernel
theorem dX12_which_56 : decode cX12_which 56 = .ok (.aload_n 0, 1) := by decide +kernel
theorem dX12_which_57 : decode cX12_which 57 = .ok (.aload_n 0, 1) := by decide +kernel
theorem dX12_which_58 : decode cX12_which 58 = .ok (.getfield 7, 3) := by decide +kernel
theorem dX12_which_61 : decode cX12_which 61 = .ok (.iconst 3, 1) := by decide +kernel
theorem dX12_which_62 : decode cX12_which 62 = .ok (.iload_n 3, 1) := by decide +kernel
theorem dX12_which_63 : decode cX12_which 63 = .ok (.imul, 1) := by decide +kernel
theorem dX12_which_64 : decode cX12_which 64 = .ok (.iaload, 1) := by decide +kernel
theorem dX12_which_65 : decode cX12_which 65 = .ok (.invokevirtual 323, 3) := by decide +kernel
theorem dX12_which_68 : decode cX12_which 68 = .ok (.ifCond .eq 38, 3) := by decide +kernel
theorem dX12_which_71 : decode cX12_which 71 = .ok (.sipush 256, 3) := by decide +kernel
theorem dX12_which_74 : decode cX12_which 74 = .ok (.aload_n 0, 1) := by decide +kernel
theorem dX12_which_75 : decode cX12_which 75 = .ok (.getfield 7, 3) := by decide +kernel
theorem dX12_which_78 : decode cX12_which 78 = .ok (.iconst 3, 1) := by decide +kernel
theorem dX12_which_79 : decode cX12_which 79 = .ok (.iload_n 3, 1) := by decide +kernel
theorem dX12_which_80 : decode cX12_which 80 = .ok (.imul, 1) := by decide +kernel
theorem dX12_which_81 : decode cX12_which 81 = .ok (.iconst 1, 1) := by decide +kernel
theorem dX12_which_82 : decode cX12_which 82 = .ok (.iadd, 1) := by decide +kernel
theorem dX12_which_83 : decode cX12_which 83 = .ok (.iaload, 1) := by decide +kernel
theorem dX12_which_84 : decode cX12_which 84 = .ok (.imul, 1) := by decide +kernel
theorem dX12_which_85 : decode cX12_which 85 = .ok (.aload_n 0, 1) := by decide +kernel
theorem dX12_which_86 : decode cX12_which 86 = .ok (.getfield 7, 3) := by decide +kernel
theorem dX12_which_89 : decode cX12_which 89 = .ok (.iconst 3, 1) := by decide +kernel
theorem dX12_which_90 : decode cX12_which 90 = .ok (.iload_n 3, 1) := by decide +kernel
theorem dX12_which_91 : decode cX12_which 91 = .ok (.imul, 1) := by decide +kernel
theorem dX12_which_92 : decode cX12_which 92 = .ok (.iconst 2, 1) := by decide +kernel
theorem dX12_which_93 : decode cX12_which 93 = .ok (.iadd, 1) := by decide +kernel
theorem dX12_which_94 : decode cX12_which 94 = .ok (.iaload, 1) := by decide +kernel
theorem dX12_which_95 : decode cX12_which 95 = .ok (.iadd, 1) := by decide +kernel
theorem dX12_which_96 : decode cX12_which 96 = .ok (.iconst 1, 1) := by decide +kernel
theorem dX12_which_97 : decode cX12_which 97 = .ok (.sipush 2000, 3) := by decide +kernel
theorem dX12_which_100 : decode cX12_which 100 = .ok (.invokestatic 155, 3) := by decide +kernel
theorem dX12_which_103 : decode cX12_which 103 = .ok (.ifCond .ne 5, 3) := by decide +kernel
theorem dX12_which_106 : decode cX12_which 106 = .ok (.iconst (-1), 1) := by decide +kernel
theorem dX12_which_107 : decode cX12_which 107 = .ok (.ireturn, 1) := by decide +kernel
theorem dX12_which_108 : decode cX12_which 108 = .ok (.iinc 3 1, 3) := by decide +kernel
theorem dX12_which_111 : decode cX12_which 111 = .ok (.goto (-60), 3) := by decide +kernel
theorem dX12_which_114 : decode cX12_which 114 = .ok (.iconst 0, 1) := by decide +kernel
theorem dX12_which_115 : decode cX12_which 115 = .ok (.istore_n 3, 1) := by decide +kernel
theorem dX12_which_116 : decode cX12_which 116 = .ok (.iconst 0, 1) := by decide +kernel
theorem dX12_which_117 : decode cX12_which 117 = .ok (.istore 4, 2) := by decide +kernel
theorem dX12_which_119 : decode cX12_which 119 = .ok (.iload 4, 2) := by decide +kernel
theorem dX12_which_121 : decode cX12_which 121 = .ok (.iconst 4, 1) := by decide +kernel
theorem dX12_which_122 : decode cX12_which 122 = .ok (.if_icmp .ge 44, 3) := by decide +kernel
theorem dX12_which_125 : decode cX12_which 125 = .ok (.aload_n 0, 1) := by decide +kernel
theorem dX12_which_126 : decode cX12_which 126 = .ok (.iload 4, 2) := by decide +kernel
theorem dX12_which_128 : decode cX12_which 128 = .ok (.invokevirtual 353, 3) := by decide +kernel
theorem dX12_which_131 : decode cX12_which 131 = .ok (.ifCond .eq 29, 3) := by decide +kernel
theorem dX12_which_134 : decode cX12_which 134 = .ok (.aload_n 0, 1) := by decide +kernel
theorem dX12_which_135 : decode cX12_which 135 = .ok (.sipush 260, 3) := by decide +kernel
theorem dX12_which_138 : decode cX12_which 138 = .ok (.sipush 260, 3) := by decide +kernel
theorem dX12_which_141 : decode cX12_which 141 = .ok (.iload 4, 2) := by decide +kernel
theorem dX12_which_143 : decode cX12_which 143 = .ok (.imul, 1) := by decide +kernel
theorem dX12_which_144 : decode cX12_which 144 = .ok (.iadd, 1) := by decide +kernel
theorem dX12_which_145 : decode cX12_which 145 = .ok (.iload_n 2, 1) := by decide +kernel
theorem dX12_which_146 : decode cX12_which 146 = .ok (.iload_n 1, 1) := by decide +kernel
theorem dX12_which_147 : decode cX12_which 147 = .ok (.invokevirtual 356, 3) := by decide +kernel
theorem dX12_which_150 : decode cX12_which 150 = .ok (.ifCond .eq 10, 3) := by decide +kernel
theorem dX12_which_153 : decode cX12_which 153 = .ok (.iload_n 3, 1) := by decide +kernel
theorem dX12_which_154 : decode cX12_which 154 = .ok (.iconst 1, 1) := by decide +kernel
theorem dX12_which_155 : decode cX12_which 155 = .ok (.iload 4, 2) := by decide +kernel
theorem dX12_which_157 : decode cX12_which 157 = .ok (.ishl, 1) := by decide +kernel
theorem dX12_which_158 : decode cX12_which 158 = .ok (.ior, 1) := by decide +kernel
theorem dX12_which_159 : decode cX12_which 159 = .ok (.istore_n 3, 1) := by decide +kernel
theorem dX12_which_160 : decode cX12_which 160 = .ok (.iinc 4 1, 3) := by decide +kernel
theorem dX12_which_163 : decode cX12_which 163 = .ok (.goto (-44), 3) := by decide +kernel
theorem dX12_which_166 : decode cX12_which 166 = .ok (.iload_n 3, 1) := by decide +kernel
theorem dX12_which_167 : decode cX12_which 167 = .ok (.ireturn, 1) := by decide +kernel
theorem hcX12_which : yX12_which.cls ≠ "java/lang/invoke/MethodHandle" ∧ yX12_which.cls ≠ "java/lang/invoke/VarHandle" ∧ (parseMethodDescriptor yX12_which.desc).map (fun d => d.parameters.length) = some 1 := ⟨by decide +kernel, by decide +kernel, by decide +kernel⟩
def fX12_which_L51 (u4 : Int) (s6 : sg_M) (Q : Int → sg_M → Prop) (k114 : Prop) : Nat → Int → Prop
  | 0, _ => False
  | n_51 + 1, x3_51 => sg_R (Int.tdiv u4 3) ∧ (((Int.tdiv u4 3) ≤ x3_51 → k114) ∧ (¬ ((Int.tdiv u4 3) ≤ x3_51) → (0 ≤ (3 * x3_51) ∧ (3 * x3_51) < 540) ∧ fX12_isWritten s6 (s6 65 (3 * x3_51)) (fun u21 => ((u21 = 0 → Q (-1) s6) ∧ (¬ (u21 = 0) → (0 ≤ ((3 * x3_51) + 1) ∧ ((3 * x3_51) + 1) < 540) ∧ (0 ≤ ((3 * x3_51) + 2) ∧ ((3 * x3_51) + 2) < 540) ∧ sg_R ((256 * (s6 65 ((3 * x3_51) + 1))) + (s6 65 ((3 * x3_51) + 2))) ∧ fX12_isIn ((256 * (s6 65 ((3 * x3_51) + 1))) + (s6 65 ((3 * x3_51) + 2))) 1 2000 (fun u31 => ((u31 ≠ 0 → sg_R (x3_51 + 1) ∧ (fX12_which_L51 u4 s6 Q k114 n_51) (x3_51 + 1)) ∧ (u31 = 0 → Q (-1) s6))))))))
def fX12_which_j160 (x4_119 : Int) (k119 : sg_M → Int → Int → Prop) (s_160 : sg_M) (x3_160 : Int) : Prop := sg_R (x4_119 + 1) ∧ k119 s_160 x3_160 (x4_119 + 1)
def fX12_which_L119 (x1 : Int) (u4 : Int) (Q : Int → sg_M → Prop) : Nat → sg_M → Int → Int → Prop
  | 0, _, _, _ => False
  | n_119 + 1, s_119, x3_119, x4_119 => ((4 ≤ x4_119 → Q x3_119 s_119) ∧ (¬ (4 ≤ x4_119) → fX12_isThere s_119 x4_119 (fun u37 => ((u37 = 0 → (fX12_which_j160 x4_119 (fX12_which_L119 x1 u4 Q n_119)) s_119 x3_119) ∧ (¬ (u37 = 0) → sg_R (260 + (260 * x4_119)) ∧ sg_R (Int.tdiv u4 3) ∧ fX12_isBladeOf s_119 (260 + (260 * x4_119)) (Int.tdiv u4 3) x1 (fun u43 s45 => ((u43 = 0 → (fX12_which_j160 x4_119 (fX12_which_L119 x1 u4 Q n_119)) s45 x3_119) ∧ (¬ (u43 = 0) → ∀ v47 : Int, v47 = (sg_or x3_119 (sg_shl 1 x4_119)) → sg_R v47 ∧ (fX12_which_j160 x4_119 (fX12_which_L119 x1 u4 Q n_119)) s45 v47))))))))
def fX12_which (s0 : sg_M) (x1 : Int) (Q : Int → sg_M → Prop) : Prop := ∀ s1 : sg_M, s1 = sg_up s0 64 0 0 → fX12_lay s1 (fun s3 => fX12_takeTape s3 (fun u4 s6 => sg_R (Int.tmod u4 3) ∧ (((Int.tmod u4 3) ≠ 0 → Q (-1) s6) ∧ ((Int.tmod u4 3) = 0 → sg_R (Int.tdiv u4 3) ∧ fX12_isIn (Int.tdiv u4 3) 1 40 (fun u10 => ((u10 = 0 → Q (-1) s6) ∧ (¬ (u10 = 0) → fX12_isIn x1 0 200 (fun u13 => ((u13 ≠ 0 → (∃ n35 : Nat, fX12_which_L51 u4 s6 Q ((∃ n50 : Nat, fX12_which_L119 x1 u4 Q n50 s6 0 0)) n35 0)) ∧ (u13 = 0 → Q (-1) s6))))))))))
set_option maxHeartbeats 4000000 in
set_option maxRecDepth 100000 in
theorem CX12_which {l : Launch} {G : sg_G} {La : sg_L} {s0 : sg_M} (hst : sg_St La) {x1 : Int} (r1 : sg_R x1) {Q : Int → sg_M → Prop} (hf : fX12_which s0 x1 Q) : sg_C l G yX12_which cX12_which 5 (some .int) 6 0 0 La s0 [sg_r 64, sg_i x1] (sg_HI La Q) := by
  refine sg_body (by decide +kernel) (Nat.le_of_ble_eq_true rfl) ?_
  intro p e s m args below meth c F hnm
  unfold fX12_which at hf
  show sg_W p l e (sg_rm 6 0 0) s m args below meth c (MQ below (sg_Q (some .int) G La s.heap.size (sg_HI La Q)) args s 0 0 (sg_A La s.heap.size)) 5 G (sg_A La s.heap.size) La s0 0 0 0 [(0, sg_r 64), (1, sg_i x1)] []
  refine gw_aload_n F 0 rfl rfl (by decide) dX12_which_0 ?_
  refine gw_iconst F dX12_which_1 ?_
  obtain ⟨s1, e2⟩ : ∃ z : sg_M, z = sg_up s0 64 0 0 := ⟨_, rfl⟩
  have hf := hf s1 e2
  refine gw_put0 F (so_64 hst) (by decide) rfl sg_lay_RX12 (j := 0) (by decide) (by decide) e2 tyX12_ok nmX12 rfl (tyX12_ok 0 (by decide)) rfl (host := "") (.inl kw_947) dX12_which_2 ?_
  refine gw_aload_n F 0 rfl rfl (by decide) dX12_which_5 ?_
  refine gk_HV F (gc_V F (S := []) (As := []) (T := TX12) (N := 62) (CX12_lay hst hf) (so_64 hst) (by decide) rfl kw_1034 kw_103 kw_1032 kw_1033 kw_41 hcX12_lay ⟨by decide, by decide⟩ rfl rfl (Nat.le_of_ble_eq_true rfl) ⟨by decide, by decide⟩ dX12_which_6) (fun s3 hf => ?_)
  refine gw_aload_n F 0 rfl rfl (by decide) dX12_which_9 ?_
  refine gk_HI F (gc_V F (S := []) (As := []) (T := TX12) (N := 62) (CX12_takeTape hst hf) (so_64 hst) (by decide) rfl kw_1037 kw_103 kw_1035 kw_1036 kw_42 hcX12_takeTape ⟨by decide, by decide⟩ rfl rfl (Nat.le_of_ble_eq_true rfl) ⟨by decide, by decide⟩ dX12_which_10) (fun u4 s6 h5 hf => ?_)
  refine gw_istore_n F rfl (by decide) rfl dX12_which_13 ?_
  refine gw_iload_n F 0 rfl rfl dX12_which_14 ?_
  refine gw_iconst F dX12_which_15 ?_
  refine gw_irem F h5 (by decide) (by decide) rfl dX12_which_16 ?_
  obtain ⟨g7, hf⟩ := hf
  refine gw_if_ne F (tgt := 43) dX12_which_17 (by decide) g7 (fun c8 => ?_) (fun c8 => ?_)
  · have hf := hf.1 c8
    refine gw_iconst F dX12_which_43 ?_
    exact gr_HI F (by decide) hf (by decide) (by decide) dX12_which_44
  · have hf := hf.2 c8
    refine gw_iload_n F 0 rfl rfl dX12_which_20 ?_
    refine gw_iconst F dX12_which_21 ?_
    refine gw_idiv F h5 (by decide) (by decide) rfl dX12_which_22 ?_
    refine gw_iconst F dX12_which_23 ?_
    refine gw_bipush F rfl dX12_which_24 ?_
    obtain ⟨g9, hf⟩ := hf
    refine gk_PZ F (gc_S F (S := []) (As := [sg_i (Int.tdiv u4 3), sg_i 1, sg_i 40]) (CX12_isIn g9 (by decide) (by decide) hf) kw_1075 kw_103 kw_1073 kw_1074 hcX12_isIn ⟨by decide, by decide⟩ rfl rfl (Nat.le_of_ble_eq_true rfl) ⟨by decide, by decide⟩ dX12_which_26) (fun u10 h11 hf => ?_)
    refine gw_if_eq F (tgt := 43) dX12_which_29 (by decide) (sg_B_R h11) (fun c12 => ?_) (fun c12 => ?_)
    · have hf := hf.1 c12
      refine gw_iconst F dX12_which_43 ?_
      exact gr_HI F (by decide) hf (by decide) (by decide) dX12_which_44
    · have hf := hf.2 c12
      refine gw_iload_n F 2 rfl rfl dX12_which_32 ?_
      refine gw_iconst F dX12_which_33 ?_
      refine gw_sipush F rfl dX12_which_34 ?_
      refine gk_PZ F (gc_S F (S := []) (As := [sg_i x1, sg_i 0, sg_i 200]) (CX12_isIn r1 (by decide) (by decide) hf) kw_1075 kw_103 kw_1073 kw_1074 hcX12_isIn ⟨by decide, by decide⟩ rfl rfl (Nat.le_of_ble_eq_true rfl) ⟨by decide, by decide⟩ dX12_which_37) (fun u13 h14 hf => ?_)
      refine gw_if_ne F (tgt := 45) dX12_which_40 (by decide) (sg_B_R h14) (fun c15 => ?_) (fun c15 => ?_)
      · have hf := hf.1 c15
        refine gw_iload_n F 0 rfl rfl dX12_which_45 ?_
        refine gw_iconst F dX12_which_46 ?_
        refine gw_idiv F h5 (by decide) (by decide) rfl dX12_which_47 ?_
        refine gw_istore_n F rfl (by decide) rfl dX12_which_48 ?_
        refine gw_iconst F dX12_which_49 ?_
        refine gw_istore_n F rfl (by decide) rfl dX12_which_50 ?_
        have L51 : ∀ (k114 : Prop) (hk114 : k114 → sg_W p l e (sg_rm 6 0 0) s m args below meth c (MQ below (sg_Q (some .int) G La s.heap.size (sg_HI La Q)) args s 0 0 (sg_A La s.heap.size)) 5 G (sg_A La s.heap.size) La s6 0 0 114 [(0, sg_r 64), (1, sg_i x1), (2, sg_i (Int.tdiv u4 3))] []), ∀ n_51 : Nat, ∀ (x3_51 : Int), sg_R x3_51 → fX12_which_L51 u4 s6 Q k114 n_51 x3_51 → sg_W p l e (sg_rm 6 0 0) s m args below meth c (MQ below (sg_Q (some .int) G La s.heap.size (sg_HI La Q)) args s 0 0 (sg_A La s.heap.size)) 5 G (sg_A La s.heap.size) La s6 0 0 51 [(0, sg_r 64), (1, sg_i x1), (2, sg_i (Int.tdiv u4 3)), (3, sg_i x3_51)] [] := by
          intro k114 hk114 n_51
          induction n_51 with
          | zero => intro x3_51 r3_51 hf; exact hf.elim
          | succ n_51 ih =>
            intro x3_51 r3_51 hf
            unfold fX12_which_L51 at hf
            refine gw_iload_n F 3 rfl rfl dX12_which_51 ?_
            refine gw_iload_n F 2 rfl rfl dX12_which_52 ?_
            obtain ⟨g16, hf⟩ := hf
            refine gw_icmp_ge F (tgt := 114) dX12_which_53 (by decide) r3_51 g16 (fun c17 => ?_) (fun c17 => ?_)
            · have hf := hf.1 c17
              refine gw_sub [0, 1, 2] rfl ?_
              exact hk114  hf
            · have hf := hf.2 c17
              refine gw_aload_n F 0 rfl rfl (by decide) dX12_which_56 ?_
              refine gw_aload_n F 0 rfl rfl (by decide) dX12_which_57 ?_
              refine gw_get7 F (so_64 hst) (by decide) rfl sg_lay_RX12 (j := 1) (by decide) (o1 := 65) (by first | rfl | omega) rfl (host := "") (.inl kw_948) dX12_which_58 (fun h18 => ?_)
              refine gw_iconst F dX12_which_61 ?_
              refine gw_iload_n F 3 rfl rfl dX12_which_62 ?_
              refine gw_imul F rfl dX12_which_63 ?_
              obtain ⟨⟨b190, b191⟩, hf⟩ := hf
              refine gw_iald F (sa_65 hst) b190 b191 dX12_which_64 (fun h20 => ?_)
              refine gk_PZ F (gc_V F (S := []) (As := [sg_i (s6 65 (3 * x3_51))]) (T := TX12) (N := 62) (CX12_isWritten hst h20 hf) (so_64 hst) (by decide) rfl kw_1210 kw_103 kw_1208 kw_1209 kw_71 hcX12_isWritten ⟨by decide, by decide⟩ rfl rfl (Nat.le_of_ble_eq_true rfl) ⟨by decide, by decide⟩ dX12_which_65) (fun u21 h22 hf => ?_)
              refine gw_if_eq F (tgt := 106) dX12_which_68 (by decide) (sg_B_R h22) (fun c23 => ?_) (fun c23 => ?_)
              · have hf := hf.1 c23
                refine gw_iconst F dX12_which_106 ?_
                exact gr_HI F (by decide) hf (by decide) (by decide) dX12_which_107
              · have hf := hf.2 c23
                refine gw_sipush F rfl dX12_which_71 ?_
                refine gw_aload_n F 0 rfl rfl (by decide) dX12_which_74 ?_
                refine gw_get7 F (so_64 hst) (by decide) rfl sg_lay_RX12 (j := 1) (by decide) (o1 := 65) (by first | rfl | omega) rfl (host := "") (.inl kw_948) dX12_which_75 (fun h24 => ?_)
                refine gw_iconst F dX12_which_78 ?_
                refine gw_iload_n F 3 rfl rfl dX12_which_79 ?_
                refine gw_imul F rfl dX12_which_80 ?_
                refine gw_iconst F dX12_which_81 ?_
                refine gw_iadd F rfl dX12_which_82 ?_
                obtain ⟨⟨b250, b251⟩, hf⟩ := hf
                refine gw_iald F (sa_65 hst) b250 b251 dX12_which_83 (fun h26 => ?_)
                refine gw_imul F rfl dX12_which_84 ?_
                refine gw_aload_n F 0 rfl rfl (by decide) dX12_which_85 ?_
                refine gw_get7 F (so_64 hst) (by decide) rfl sg_lay_RX12 (j := 1) (by decide) (o1 := 65) (by first | rfl | omega) rfl (host := "") (.inl kw_948) dX12_which_86 (fun h27 => ?_)
                refine gw_iconst F dX12_which_89 ?_
                refine gw_iload_n F 3 rfl rfl dX12_which_90 ?_
                refine gw_imul F rfl dX12_which_91 ?_
                refine gw_iconst F dX12_which_92 ?_
                refine gw_iadd F rfl dX12_which_93 ?_
                obtain ⟨⟨b280, b281⟩, hf⟩ := hf
                refine gw_iald F (sa_65 hst) b280 b281 dX12_which_94 (fun h29 => ?_)
                refine gw_iadd F rfl dX12_which_95 ?_
                refine gw_iconst F dX12_which_96 ?_
                refine gw_sipush F rfl dX12_which_97 ?_
                obtain ⟨g30, hf⟩ := hf
                refine gk_PZ F (gc_S F (S := []) (As := [sg_i ((256 * (s6 65 ((3 * x3_51) + 1))) + (s6 65 ((3 * x3_51) + 2))), sg_i 1, sg_i 2000]) (CX12_isIn g30 (by decide) (by decide) hf) kw_1075 kw_103 kw_1073 kw_1074 hcX12_isIn ⟨by decide, by decide⟩ rfl rfl (Nat.le_of_ble_eq_true rfl) ⟨by decide, by decide⟩ dX12_which_100) (fun u31 h32 hf => ?_)
                refine gw_if_ne F (tgt := 108) dX12_which_103 (by decide) (sg_B_R h32) (fun c33 => ?_) (fun c33 => ?_)
                · have hf := hf.1 c33
                  refine gw_iinc F (z := (x3_51 + 1)) 3 rfl (by omega) (by decide) rfl dX12_which_108 ?_
                  refine gw_goto F (tgt := 51) dX12_which_111 (by decide) ?_
                  obtain ⟨g34, hf⟩ := hf
                  refine gw_sub [1, 2, 3, 0] rfl ?_
                  exact ih (x3_51 + 1) g34 hf
                · have hf := hf.2 c33
                  refine gw_iconst F dX12_which_106 ?_
                  exact gr_HI F (by decide) hf (by decide) (by decide) dX12_which_107
        obtain ⟨n35, hf⟩ := hf
        refine gw_sub [2, 3, 1, 0] rfl ?_
        refine L51 _ (fun hf => ?_) n35 0 (by decide) hf
        refine gw_iconst F dX12_which_114 ?_
        refine gw_istore_n F rfl (by decide) rfl dX12_which_115 ?_
        refine gw_iconst F dX12_which_116 ?_
        refine gw_istore F (by decide) rfl dX12_which_117 ?_
        have L119 : ∀ n_119 : Nat, ∀ (s_119 : sg_M) (x3_119 : Int) (x4_119 : Int), sg_R x3_119 → sg_R x4_119 → fX12_which_L119 x1 u4 Q n_119 s_119 x3_119 x4_119 → sg_W p l e (sg_rm 6 0 0) s m args below meth c (MQ below (sg_Q (some .int) G La s.heap.size (sg_HI La Q)) args s 0 0 (sg_A La s.heap.size)) 5 G (sg_A La s.heap.size) La s_119 0 0 119 [(0, sg_r 64), (1, sg_i x1), (2, sg_i (Int.tdiv u4 3)), (3, sg_i x3_119), (4, sg_i x4_119)] [] := by
          intro n_119
          induction n_119 with
          | zero => intro s_119 x3_119 x4_119 r3_119 r4_119 hf; exact hf.elim
          | succ n_119 ih =>
            intro s_119 x3_119 x4_119 r3_119 r4_119 hf
            unfold fX12_which_L119 at hf
            refine gw_iload F 4 rfl dX12_which_119 ?_
            refine gw_iconst F dX12_which_121 ?_
            refine gw_icmp_ge F (tgt := 166) dX12_which_122 (by decide) r4_119 (by decide) (fun c36 => ?_) (fun c36 => ?_)
            · have hf := hf.1 c36
              refine gw_iload_n F 3 rfl rfl dX12_which_166 ?_
              exact gr_HI F r3_119 hf (by decide) (by decide) dX12_which_167
            · have hf := hf.2 c36
              refine gw_aload_n F 0 rfl rfl (by decide) dX12_which_125 ?_
              refine gw_iload F 4 rfl dX12_which_126 ?_
              refine gk_PZ F (gc_V F (S := []) (As := [sg_i x4_119]) (T := TX12) (N := 62) (CX12_isThere hst r4_119 hf) (so_64 hst) (by decide) rfl kw_1272 kw_103 kw_1270 kw_1271 kw_77 hcX12_isThere ⟨by decide, by decide⟩ rfl rfl (Nat.le_of_ble_eq_true rfl) ⟨by decide, by decide⟩ dX12_which_128) (fun u37 h38 hf => ?_)
              have J160 : ∀ (s_160 : sg_M) (x3_160 : Int), sg_R x3_160 → (fX12_which_j160 x4_119 (fX12_which_L119 x1 u4 Q n_119)) s_160 x3_160 → sg_W p l e (sg_rm 6 0 0) s m args below meth c (MQ below (sg_Q (some .int) G La s.heap.size (sg_HI La Q)) args s 0 0 (sg_A La s.heap.size)) 5 G (sg_A La s.heap.size) La s_160 0 0 160 [(0, sg_r 64), (1, sg_i x1), (2, sg_i (Int.tdiv u4 3)), (3, sg_i x3_160), (4, sg_i x4_119)] [] := by
                intro s_160 x3_160 r3_160 hf
                unfold fX12_which_j160 at hf
                refine gw_iinc F (z := (x4_119 + 1)) 4 rfl (by omega) (by decide) rfl dX12_which_160 ?_
                refine gw_goto F (tgt := 119) dX12_which_163 (by decide) ?_
                obtain ⟨g39, hf⟩ := hf
                refine gw_sub [1, 2, 3, 4, 0] rfl ?_
                exact ih s_160 x3_160 (x4_119 + 1) r3_160 g39 hf
              refine gw_if_eq F (tgt := 160) dX12_which_131 (by decide) (sg_B_R h38) (fun c40 => ?_) (fun c40 => ?_)
              · have hf := hf.1 c40
                refine gw_sub [0, 1, 2, 3, 4] rfl ?_
                exact J160 s_119 x3_119 r3_119 hf
              · have hf := hf.2 c40
                refine gw_aload_n F 0 rfl rfl (by decide) dX12_which_134 ?_
                refine gw_sipush F rfl dX12_which_135 ?_
                refine gw_sipush F rfl dX12_which_138 ?_
                refine gw_iload F 4 rfl dX12_which_141 ?_
                refine gw_imul F rfl dX12_which_143 ?_
                refine gw_iadd F rfl dX12_which_144 ?_
                refine gw_iload_n F 2 rfl rfl dX12_which_145 ?_
                refine gw_iload_n F 1 rfl rfl dX12_which_146 ?_
                obtain ⟨g41, hf⟩ := hf
                obtain ⟨g42, hf⟩ := hf
                refine gk_HZ F (gc_V F (S := []) (As := [sg_i (260 + (260 * x4_119)), sg_i (Int.tdiv u4 3), sg_i x1]) (T := TX12) (N := 62) (CX12_isBladeOf hst g41 g42 r1 hf) (so_64 hst) (by decide) rfl kw_1279 kw_103 kw_1277 kw_1278 kw_78 hcX12_isBladeOf ⟨by decide, by decide⟩ rfl rfl (Nat.le_of_ble_eq_true rfl) ⟨by decide, by decide⟩ dX12_which_147) (fun u43 s45 h44 hf => ?_)
                refine gw_if_eq F (tgt := 160) dX12_which_150 (by decide) (sg_B_R h44) (fun c46 => ?_) (fun c46 => ?_)
                · have hf := hf.1 c46
                  refine gw_sub [0, 1, 2, 3, 4] rfl ?_
                  exact J160 s45 x3_119 r3_119 hf
                · have hf := hf.2 c46
                  refine gw_iload_n F 3 rfl rfl dX12_which_153 ?_
                  refine gw_iconst F dX12_which_154 ?_
                  refine gw_iload F 4 rfl dX12_which_155 ?_
                  refine gw_ishl F rfl dX12_which_157 ?_
                  refine gw_ior F rfl dX12_which_158 ?_
                  obtain ⟨v47, e48⟩ : ∃ z : Int, z = (sg_or x3_119 (sg_shl 1 x4_119)) := ⟨_, rfl⟩
                  obtain ⟨g49, hf⟩ := hf v47 e48
                  refine gw_nmI e48 ?_
                  refine gw_istore_n F rfl (by decide) rfl dX12_which_159 ?_
                  refine gw_sub [1, 2, 3, 0, 4] rfl ?_
                  exact J160 s45 v47 g49 hf
        obtain ⟨n50, hf⟩ := hf
        refine gw_sub [2, 3, 4, 1, 0] rfl ?_
        refine L119   n50 s6 0 0 (by decide) (by decide) hf
      · have hf := hf.2 c15
        refine gw_iconst F dX12_which_43 ?_
        exact gr_HI F (by decide) hf (by decide) (by decide) dX12_which_44

theorem dX12_cut_0 : decode cX12_cut 0 = .ok (.iload_n 0, 1) := by decide +kernel
theorem dX12_cut_1 : decode cX12_cut 1 = .ok (.sipush 9999, 3) := by decide +kernel
theorem dX12_cut_4 : decode cX12_cut 4 = .ok (.if_icmp .le 9, 3) := by decide +kernel
theorem dX12_cut_7 : decode cX12_cut 7 = .ok (.sipush 9999, 3) := by decide +kernel
theorem dX12_cut_10 : decode cX12_cut 10 = .ok (.goto 17, 3) := by decide +kernel
theorem dX12_cut_13 : decode cX12_cut 13 = .ok (.iload_n 0, 1) := by decide +kernel
theorem dX12_cut_14 : decode cX12_cut 14 = .ok (.sipush (-9999), 3) := by decide +kernel
theorem dX12_cut_17 : decode cX12_cut 17 = .ok (.if_icmp .ge 9, 3) := by decide +kernel
theorem dX12_cut_20 : decode cX12_cut 20 = .ok (.sipush (-9999), 3) := by decide +kernel
theorem dX12_cut_23 : decode cX12_cut 23 = .ok (.goto 4, 3) := by decide +kernel
theorem dX12_cut_26 : decode cX12_cut 26 = .ok (.iload_n 0, 1) := by decide +kernel
theorem dX12_cut_27 : decode cX12_cut 27 = .ok (.ireturn, 1) := by decide +kernel
theorem hcX12_cut : yX12_cut.cls ≠ "java/lang/invoke/MethodHandle" ∧ yX12_cut.cls ≠ "java/lang/invoke/VarHandle" ∧ (parseMethodDescriptor yX12_cut.desc).map (fun d => d.parameters.length) = some 1 := ⟨by decide +kernel, by decide +kernel, by decide +kernel⟩
def fX12_cut (x0 : Int) (Q : Int → Prop) : Prop := ((x0 ≤ 9999 → (((-9999) ≤ x0 → Q x0) ∧ (¬ ((-9999) ≤ x0) → Q (-9999)))) ∧ (¬ (x0 ≤ 9999) → Q 9999))
set_option maxHeartbeats 4000000 in
set_option maxRecDepth 100000 in
theorem CX12_cut {l : Launch} {G : sg_G} {La : sg_L} {s0 : sg_M} {x0 : Int} (r0 : sg_R x0) {Q : Int → Prop} (hf : fX12_cut x0 Q) : sg_C l G yX12_cut cX12_cut 1 (some .int) 1 0 0 La s0 [sg_i x0] (sg_PI La s0 Q) := by
  refine sg_body (by decide +kernel) (Nat.le_of_ble_eq_true rfl) ?_
  intro p e s m args below meth c F hnm
  unfold fX12_cut at hf
  show sg_W p l e (sg_rm 1 0 0) s m args below meth c (MQ below (sg_Q (some .int) G La s.heap.size (sg_PI La s0 Q)) args s 0 0 (sg_A La s.heap.size)) 1 G (sg_A La s.heap.size) La s0 0 0 0 [(0, sg_i x0)] []
  refine gw_iload_n F 0 rfl rfl dX12_cut_0 ?_
  refine gw_sipush F rfl dX12_cut_1 ?_
  refine gw_icmp_le F (tgt := 13) dX12_cut_4 (by decide) r0 (by decide) (fun c1 => ?_) (fun c1 => ?_)
  · have hf := hf.1 c1
    refine gw_iload_n F 0 rfl rfl dX12_cut_13 ?_
    refine gw_sipush F rfl dX12_cut_14 ?_
    refine gw_icmp_ge F (tgt := 26) dX12_cut_17 (by decide) r0 (by decide) (fun c2 => ?_) (fun c2 => ?_)
    · have hf := hf.1 c2
      refine gw_iload_n F 0 rfl rfl dX12_cut_26 ?_
      exact gr_PI F r0 hf (by decide) (by decide) dX12_cut_27
    · have hf := hf.2 c2
      refine gw_sipush F rfl dX12_cut_20 ?_
      refine gw_goto F (tgt := 27) dX12_cut_23 (by decide) ?_
      exact gr_PI F (by decide) hf (by decide) (by decide) dX12_cut_27
  · have hf := hf.2 c1
    refine gw_sipush F rfl dX12_cut_7 ?_
    refine gw_goto F (tgt := 27) dX12_cut_10 (by decide) ?_
    exact gr_PI F (by decide) hf (by decide) (by decide) dX12_cut_27

theorem dX12_byteAt_0 : decode cX12_byteAt 0 = .ok (.iload_n 1, 1) := by decide +kernel
theorem dX12_byteAt_1 : decode cX12_byteAt 1 = .ok (.aload_n 0, 1) := by decide +kernel
theorem dX12_byteAt_2 : decode cX12_byteAt 2 = .ok (.getfield 94, 3) := by decide +kernel
theorem dX12_byteAt_5 : decode cX12_byteAt 5 = .ok (.if_icmp .ge 12, 3) := by decide +kernel
theorem dX12_byteAt_8 : decode cX12_byteAt 8 = .ok (.aload_n 0, 1) := by decide +kernel
theorem dX12_byteAt_9 : decode cX12_byteAt 9 = .ok (.getfield 7, 3) := by decide +kernel
theorem dX12_byteAt_12 : decode cX12_byteAt 12 = .ok (.iload_n 1, 1) := by decide +kernel
theorem dX12_byteAt_13 : decode cX12_byteAt 13 = .ok (.iaload, 1) := by decide +kernel
theorem dX12_byteAt_14 : decode cX12_byteAt 14 = .ok (.goto 4, 3) := by decide +kernel
theorem dX12_byteAt_17 : decode cX12_byteAt 17 = .ok (.iconst 0, 1) := by decide +kernel
theorem dX12_byteAt_18 : decode cX12_byteAt 18 = .ok (.ireturn, 1) := by decide +kernel
theorem hcX12_byteAt : yX12_byteAt.cls ≠ "java/lang/invoke/MethodHandle" ∧ yX12_byteAt.cls ≠ "java/lang/invoke/VarHandle" ∧ (parseMethodDescriptor yX12_byteAt.desc).map (fun d => d.parameters.length) = some 1 := ⟨by decide +kernel, by decide +kernel, by decide +kernel⟩
def fX12_byteAt (s0 : sg_M) (x1 : Int) (Q : Int → Prop) : Prop := (((s0 64 3) ≤ x1 → Q 0) ∧ (¬ ((s0 64 3) ≤ x1) → (0 ≤ x1 ∧ x1 < 540) ∧ Q (s0 65 x1)))
set_option maxHeartbeats 4000000 in
set_option maxRecDepth 100000 in
theorem CX12_byteAt {l : Launch} {G : sg_G} {La : sg_L} {s0 : sg_M} (hst : sg_St La) {x1 : Int} (r1 : sg_R x1) {Q : Int → Prop} (hf : fX12_byteAt s0 x1 Q) : sg_C l G yX12_byteAt cX12_byteAt 2 (some .int) 1 0 0 La s0 [sg_r 64, sg_i x1] (sg_PI La s0 Q) := by
  refine sg_body (by decide +kernel) (Nat.le_of_ble_eq_true rfl) ?_
  intro p e s m args below meth c F hnm
  unfold fX12_byteAt at hf
  show sg_W p l e (sg_rm 1 0 0) s m args below meth c (MQ below (sg_Q (some .int) G La s.heap.size (sg_PI La s0 Q)) args s 0 0 (sg_A La s.heap.size)) 2 G (sg_A La s.heap.size) La s0 0 0 0 [(0, sg_r 64), (1, sg_i x1)] []
  refine gw_iload_n F 1 rfl rfl dX12_byteAt_0 ?_
  refine gw_aload_n F 0 rfl rfl (by decide) dX12_byteAt_1 ?_
  refine gw_get0 F (so_64 hst) (by decide) rfl sg_lay_RX12 (j := 3) (by decide) rfl (host := "") (.inl kw_950) dX12_byteAt_2 (fun h1 => ?_)
  refine gw_icmp_ge F (tgt := 17) dX12_byteAt_5 (by decide) r1 h1 (fun c2 => ?_) (fun c2 => ?_)
  · have hf := hf.1 c2
    refine gw_iconst F dX12_byteAt_17 ?_
    exact gr_PI F (by decide) hf (by decide) (by decide) dX12_byteAt_18
  · have hf := hf.2 c2
    refine gw_aload_n F 0 rfl rfl (by decide) dX12_byteAt_8 ?_
    refine gw_get7 F (so_64 hst) (by decide) rfl sg_lay_RX12 (j := 1) (by decide) (o1 := 65) (by first | rfl | omega) rfl (host := "") (.inl kw_948) dX12_byteAt_9 (fun h3 => ?_)
    refine gw_iload_n F 1 rfl rfl dX12_byteAt_12 ?_
    obtain ⟨⟨b40, b41⟩, hf⟩ := hf
    refine gw_iald F (sa_65 hst) b40 b41 dX12_byteAt_13 (fun h5 => ?_)
    refine gw_goto F (tgt := 18) dX12_byteAt_14 (by decide) ?_
    exact gr_PI F h5 hf (by decide) (by decide) dX12_byteAt_18

theorem dX12_isDigit_0 : decode cX12_isDigit 0 = .ok (.iload_n 0, 1) := by decide +kernel
theorem dX12_isDigit_1 : decode cX12_isDigit 1 = .ok (.bipush 48, 2) := by decide +kernel
theorem dX12_isDigit_3 : decode cX12_isDigit 3 = .ok (.if_icmp .lt 13, 3) := by decide +kernel
theorem dX12_isDigit_6 : decode cX12_isDigit 6 = .ok (.iload_n 0, 1) := by decide +kernel
theorem dX12_isDigit_7 : decode cX12_isDigit 7 = .ok (.bipush 57, 2) := by decide +kernel
theorem dX12_isDigit_9 : decode cX12_isDigit 9 = .ok (.if_icmp .gt 7, 3) := by decide +kernel
theorem dX12_isDigit_12 : decode cX12_isDigit 12 = .ok (.iconst 1, 1) := by decide +kernel
theorem dX12_isDigit_13 : decode cX12_isDigit 13 = .ok (.goto 4, 3) := by decide +kernel
theorem dX12_isDigit_16 : decode cX12_isDigit 16 = .ok (.iconst 0, 1) := by decide +kernel
theorem dX12_isDigit_17 : decode cX12_isDigit 17 = .ok (.ireturn, 1) := by decide +kernel
theorem hcX12_isDigit : yX12_isDigit.cls ≠ "java/lang/invoke/MethodHandle" ∧ yX12_isDigit.cls ≠ "java/lang/invoke/VarHandle" ∧ (parseMethodDescriptor yX12_isDigit.desc).map (fun d => d.parameters.length) = some 1 := ⟨by decide +kernel, by decide +kernel, by decide +kernel⟩
def fX12_isDigit (x0 : Int) (Q : Int → Prop) : Prop := ((x0 < 48 → Q 0) ∧ (¬ (x0 < 48) → ((57 < x0 → Q 0) ∧ (¬ (57 < x0) → Q 1))))
set_option maxHeartbeats 4000000 in
set_option maxRecDepth 100000 in
theorem CX12_isDigit {l : Launch} {G : sg_G} {La : sg_L} {s0 : sg_M} {x0 : Int} (r0 : sg_R x0) {Q : Int → Prop} (hf : fX12_isDigit x0 Q) : sg_C l G yX12_isDigit cX12_isDigit 1 (some .boolean) 1 0 0 La s0 [sg_i x0] (sg_PZ La s0 Q) := by
  refine sg_body (by decide +kernel) (Nat.le_of_ble_eq_true rfl) ?_
  intro p e s m args below meth c F hnm
  unfold fX12_isDigit at hf
  show sg_W p l e (sg_rm 1 0 0) s m args below meth c (MQ below (sg_Q (some .boolean) G La s.heap.size (sg_PZ La s0 Q)) args s 0 0 (sg_A La s.heap.size)) 1 G (sg_A La s.heap.size) La s0 0 0 0 [(0, sg_i x0)] []
  refine gw_iload_n F 0 rfl rfl dX12_isDigit_0 ?_
  refine gw_bipush F rfl dX12_isDigit_1 ?_
  refine gw_icmp_lt F (tgt := 16) dX12_isDigit_3 (by decide) r0 (by decide) (fun c1 => ?_) (fun c1 => ?_)
  · have hf := hf.1 c1
    refine gw_iconst F dX12_isDigit_16 ?_
    exact gr_PZ F (by decide) hf (by decide) (by decide) dX12_isDigit_17
  · have hf := hf.2 c1
    refine gw_iload_n F 0 rfl rfl dX12_isDigit_6 ?_
    refine gw_bipush F rfl dX12_isDigit_7 ?_
    refine gw_icmp_gt F (tgt := 16) dX12_isDigit_9 (by decide) r0 (by decide) (fun c2 => ?_) (fun c2 => ?_)
    · have hf := hf.1 c2
      refine gw_iconst F dX12_isDigit_16 ?_
      exact gr_PZ F (by decide) hf (by decide) (by decide) dX12_isDigit_17
    · have hf := hf.2 c2
      refine gw_iconst F dX12_isDigit_12 ?_
      refine gw_goto F (tgt := 17) dX12_isDigit_13 (by decide) ?_
      exact gr_PZ F (by decide) hf (by decide) (by decide) dX12_isDigit_17

theorem dX12_isLetter_0 : decode cX12_isLetter 0 = .ok (.iload_n 0, 1) := by decide +kernel
theorem dX12_isLetter_1 : decode cX12_isLetter 1 = .ok (.bipush 97, 2) := by decide +kernel
theorem dX12_isLetter_3 : decode cX12_isLetter 3 = .ok (.if_icmp .lt 13, 3) := by decide +kernel
theorem dX12_isLetter_6 : decode cX12_isLetter 6 = .ok (.iload_n 0, 1) := by decide +kernel
theorem dX12_isLetter_7 : decode cX12_isLetter 7 = .ok (.bipush 122, 2) := by decide +kernel
theorem dX12_isLetter_9 : decode cX12_isLetter 9 = .ok (.if_icmp .gt 7, 3) := by decide +kernel
theorem dX12_isLetter_12 : decode cX12_isLetter 12 = .ok (.iconst 1, 1) := by decide +kernel
theorem dX12_isLetter_13 : decode cX12_isLetter 13 = .ok (.goto 4, 3) := by decide +kernel
theorem dX12_isLetter_16 : decode cX12_isLetter 16 = .ok (.iconst 0, 1) := by decide +kernel
theorem dX12_isLetter_17 : decode cX12_isLetter 17 = .ok (.ireturn, 1) := by decide +kernel
theorem hcX12_isLetter : yX12_isLetter.cls ≠ "java/lang/invoke/MethodHandle" ∧ yX12_isLetter.cls ≠ "java/lang/invoke/VarHandle" ∧ (parseMethodDescriptor yX12_isLetter.desc).map (fun d => d.parameters.length) = some 1 := ⟨by decide +kernel, by decide +kernel, by decide +kernel⟩
def fX12_isLetter (x0 : Int) (Q : Int → Prop) : Prop := ((x0 < 97 → Q 0) ∧ (¬ (x0 < 97) → ((122 < x0 → Q 0) ∧ (¬ (122 < x0) → Q 1))))
set_option maxHeartbeats 4000000 in
set_option maxRecDepth 100000 in
theorem CX12_isLetter {l : Launch} {G : sg_G} {La : sg_L} {s0 : sg_M} {x0 : Int} (r0 : sg_R x0) {Q : Int → Prop} (hf : fX12_isLetter x0 Q) : sg_C l G yX12_isLetter cX12_isLetter 1 (some .boolean) 1 0 0 La s0 [sg_i x0] (sg_PZ La s0 Q) := by
  refine sg_body (by decide +kernel) (Nat.le_of_ble_eq_true rfl) ?_
  intro p e s m args below meth c F hnm
  unfold fX12_isLetter at hf
  show sg_W p l e (sg_rm 1 0 0) s m args below meth c (MQ below (sg_Q (some .boolean) G La s.heap.size (sg_PZ La s0 Q)) args s 0 0 (sg_A La s.heap.size)) 1 G (sg_A La s.heap.size) La s0 0 0 0 [(0, sg_i x0)] []
  refine gw_iload_n F 0 rfl rfl dX12_isLetter_0 ?_
  refine gw_bipush F rfl dX12_isLetter_1 ?_
  refine gw_icmp_lt F (tgt := 16) dX12_isLetter_3 (by decide) r0 (by decide) (fun c1 => ?_) (fun c1 => ?_)
  · have hf := hf.1 c1
    refine gw_iconst F dX12_isLetter_16 ?_
    exact gr_PZ F (by decide) hf (by decide) (by decide) dX12_isLetter_17
  · have hf := hf.2 c1
    refine gw_iload_n F 0 rfl rfl dX12_isLetter_6 ?_
    refine gw_bipush F rfl dX12_isLetter_7 ?_
    refine gw_icmp_gt F (tgt := 16) dX12_isLetter_9 (by decide) r0 (by decide) (fun c2 => ?_) (fun c2 => ?_)
    · have hf := hf.1 c2
      refine gw_iconst F dX12_isLetter_16 ?_
      exact gr_PZ F (by decide) hf (by decide) (by decide) dX12_isLetter_17
    · have hf := hf.2 c2
      refine gw_iconst F dX12_isLetter_12 ?_
      refine gw_goto F (tgt := 17) dX12_isLetter_13 (by decide) ?_
      exact gr_PZ F (by decide) hf (by decide) (by decide) dX12_isLetter_17

theorem dX12_go_0 : decode cX12_go 0 = .ok (.aload_n 0, 1) := by decide +kernel
theorem dX12_go_1 : decode cX12_go 1 = .ok (.getfield 97, 3) := by decide +kernel
theorem dX12_go_4 : decode cX12_go 4 = .ok (.aload_n 0, 1) := by decide +kernel
theorem dX12_go_5 : decode cX12_go 5 = .ok (.getfield 94, 3) := by decide +kernel
theorem dX12_go_8 : decode cX12_go 8 = .ok (.if_icmp .ge 44, 3) := by decide +kernel
theorem dX12_go_11 : decode cX12_go 11 = .ok (.aload_n 0, 1) := by decide +kernel
theorem dX12_go_12 : decode cX12_go 12 = .ok (.getfield 7, 3) := by decide +kernel
theorem dX12_go_15 : decode cX12_go 15 = .ok (.aload_n 0, 1) := by decide +kernel
theorem dX12_go_16 : decode cX12_go 16 = .ok (.getfield 97, 3) := by decide +kernel
theorem dX12_go_19 : decode cX12_go 19 = .ok (.iaload, 1) := by decide +kernel
theorem dX12_go_20 : decode cX12_go 20 = .ok (.bipush 32, 2) := by decide +kernel
theorem dX12_go_22 : decode cX12_go 22 = .ok (.if_icmp .eq 17, 3) := by decide +kernel
theorem dX12_go_25 : decode cX12_go 25 = .ok (.aload_n 0, 1) := by decide +kernel
theorem dX12_go_26 : decode cX12_go 26 = .ok (.getfield 7, 3) := by decide +kernel
theorem dX12_go_29 : decode cX12_go 29 = .ok (.aload_n 0, 1) := by decide +kernel
theorem dX12_go_30 : decode cX12_go 30 = .ok (.getfield 97, 3) := by decide +kernel
theorem dX12_go_33 : decode cX12_go 33 = .ok (.iaload, 1) := by decide +kernel
theorem dX12_go_34 : decode cX12_go 34 = .ok (.bipush 10, 2) := by decide +kernel
theorem dX12_go_36 : decode cX12_go 36 = .ok (.if_icmp .ne 16, 3) := by decide +kernel
theorem dX12_go_39 : decode cX12_go 39 = .ok (.aload_n 0, 1) := by decide +kernel
theorem dX12_go_40 : decode cX12_go 40 = .ok (.dup, 1) := by decide +kernel
theorem dX12_go_41 : decode cX12_go 41 = .ok (.getfield 97, 3) := by decide +kernel
theorem dX12_go_44 : decode cX12_go 44 = .ok (.iconst 1, 1) := by decide +kernel
theorem dX12_go_45 : decode cX12_go 45 = .ok (.iadd, 1) := by decide +kernel
theorem dX12_go_46 : decode cX12_go 46 = .ok (.putfield 97, 3) := by decide +kernel
theorem dX12_go_49 : decode cX12_go 49 = .ok (.goto (-49), 3) := by decide +kernel
theorem dX12_go_52 : decode cX12_go 52 = .ok (.aload_n 0, 1) := by decide +kernel
theorem dX12_go_53 : decode cX12_go 53 = .ok (.aload_n 0, 1) := by decide +kernel
theorem dX12_go_54 : decode cX12_go 54 = .ok (.getfield 97, 3) := by decide +kernel
theorem dX12_go_57 : decode cX12_go 57 = .ok (.putfield 100, 3) := by decide +kernel
theorem dX12_go_60 : decode cX12_go 60 = .ok (.aload_n 0, 1) := by decide +kernel
theorem dX12_go_61 : decode cX12_go 61 = .ok (.getfield 94, 3) := by decide +kernel
theorem dX12_go_64 : decode cX12_go 64 = .ok (.aload_n 0, 1) := by decide +kernel
theorem dX12_go_65 : decode cX12_go 65 = .ok (.getfield 103, 3) := by decide +kernel
theorem dX12_go_68 : decode cX12_go 68 = .ok (.if_icmp .le 28, 3) := by decide +kernel
theorem dX12_go_71 : decode cX12_go 71 = .ok (.aload_n 0, 1) := by decide +kernel
theorem dX12_go_72 : decode cX12_go 72 = .ok (.getfield 100, 3) := by decide +kernel
theorem dX12_go_75 : decode cX12_go 75 = .ok (.aload_n 0, 1) := by decide +kernel
theorem dX12_go_76 : decode cX12_go 76 = .ok (.getfield 103, 3) := by decide +kernel
theorem dX12_go_79 : decode cX12_go 79 = .ok (.if_icmp .lt 17, 3) := by decide +kernel
theorem dX12_go_82 : decode cX12_go 82 = .ok (.aload_n 0, 1) := by decide +kernel
theorem dX12_go_83 : decode cX12_go 83 = .ok (.aload_n 0, 1) := by decide +kernel
theorem dX12_go_84 : decode cX12_go 84 = .ok (.getfield 103, 3) := by decide +kernel
theorem dX12_go_87 : decode cX12_go 87 = .ok (.putfield 100, 3) := by decide +kernel
theorem dX12_go_90 : decode cX12_go 90 = .ok (.aload_n 0, 1) := by decide +kernel
theorem dX12_go_91 : decode cX12_go 91 = .ok (.iconst 1, 1) := by decide +kernel
theorem dX12_go_92 : decode cX12_go 92 = .ok (.putfield 106, 3) := by decide +kernel
theorem dX12_go_95 : decode cX12_go 95 = .ok (.return_, 1) := by decide +kernel
theorem dX12_go_96 : decode cX12_go 96 = .ok (.aload_n 0, 1) := by decide +kernel
theorem dX12_go_97 : decode cX12_go 97 = .ok (.getfield 97, 3) := by decide +kernel
theorem dX12_go_100 : decode cX12_go 100 = .ok (.aload_n 0, 1) := by decide +kernel
theorem dX12_go_101 : decode cX12_go 101 = .ok (.getfield 94, 3) := by decide +kernel
theorem dX12_go_104 : decode cX12_go 104 = .ok (.if_icmp .lt 9, 3) := by decide +kernel
theorem dX12_go_107 : decode cX12_go 107 = .ok (.aload_n 0, 1) := by decide +kernel
theorem dX12_go_108 : decode cX12_go 108 = .ok (.iconst 0, 1) := by decide +kernel
theorem dX12_go_109 : decode cX12_go 109 = .ok (.putfield 106, 3) := by decide +kernel
theorem dX12_go_112 : decode cX12_go 112 = .ok (.return_, 1) := by decide +kernel
theorem dX12_go_113 : decode cX12_go 113 = .ok (.aload_n 0, 1) := by decide +kernel
theorem dX12_go_114 : decode cX12_go 114 = .ok (.getfield 7, 3) := by decide +kernel
theorem dX12_go_117 : decode cX12_go 117 = .ok (.aload_n 0, 1) := by decide +kernel
theorem dX12_go_118 : decode cX12_go 118 = .ok (.getfield 97, 3) := by decide +kernel
theorem dX12_go_121 : decode cX12_go 121 = .ok (.iaload, 1) := by decide +kernel
theorem dX12_go_122 : decode cX12_go 122 = .ok (.istore_n 1, 1) := by decide +kernel
theorem dX12_go_123 : decode cX12_go 123 = .ok (.iload_n 1, 1) := by decide +kernel
theorem dX12_go_124 : decode cX12_go 124 = .ok (.invokestatic 109, 3) := by decide +kernel
theorem dX12_go_127 : decode cX12_go 127 = .ok (.ifCond .ne 77, 3) := by decide +kernel
theorem dX12_go_130 : decode cX12_go 130 = .ok (.iload_n 1, 1) := by decide +kernel
theorem dX12_go_131 : decode cX12_go 131 = .ok (.invokestatic 113, 3) := by decide +kernel
theorem dX12_go_134 : decode cX12_go 134 = .ok (.ifCond .ne 70, 3) := by decide +kernel
theorem dX12_go_137 : decode cX12_go 137 = .ok (.aload_n 0, 1) := by decide +kernel
theorem dX12_go_138 : decode cX12_go 138 = .ok (.iload_n 1, 1) := by decide +kernel
theorem dX12_go_139 : decode cX12_go 139 = .ok (.bipush 59, 2) := by decide +kernel
theorem dX12_go_141 : decode cX12_go 141 = .ok (.if_icmp .eq 39, 3) := by decide +kernel
theorem dX12_go_144 : decode cX12_go 144 = .ok (.iload_n 1, 1) := by decide +kernel
theorem dX12_go_145 : decode cX12_go 145 = .ok (.bipush 45, 2) := by decide +kernel
theorem dX12_go_147 : decode cX12_go 147 = .ok (.if_icmp .eq 33, 3) := by decide +kernel
theorem dX12_go_150 : decode cX12_go 150 = .ok (.iload_n 1, 1) := by decide +kernel
theorem dX12_go_151 : decode cX12_go 151 = .ok (.bipush 60, 2) := by decide +kernel
theorem dX12_go_153 : decode cX12_go 153 = .ok (.if_icmp .eq 27, 3) := by decide +kernel
theorem dX12_go_156 : decode cX12_go 156 = .ok (.iload_n 1, 1) := by decide +kernel
theorem dX12_go_157 : decode cX12_go 157 = .ok (.bipush 61, 2) := by decide +kernel
theorem dX12_go_159 : decode cX12_go 159 = .ok (.if_icmp .eq 21, 3) := by decide +kernel
theorem dX12_go_162 : decode cX12_go 162 = .ok (.iload_n 1, 1) := by decide +kernel
theorem dX12_go_163 : decode cX12_go 163 = .ok (.bipush 62, 2) := by decide +kernel
theorem dX12_go_165 : decode cX12_go 165 = .ok (.if_icmp .eq 15, 3) := by decide +kernel
theorem dX12_go_168 : decode cX12_go 168 = .ok (.iload_n 1, 1) := by decide +kernel
theorem dX12_go_169 : decode cX12_go 169 = .ok (.bipush 40, 2) := by decide +kernel
theorem dX12_go_171 : decode cX12_go 171 = .ok (.if_icmp .eq 9, 3) := by decide +kernel
theorem dX12_go_174 : decode cX12_go 174 = .ok (.iload_n 1, 1) := by decide +kernel
theorem dX12_go_175 : decode cX12_go 175 = .ok (.bipush 41, 2) := by decide +kernel
theorem dX12_go_177 : decode cX12_go 177 = .ok (.if_icmp .ne 7, 3) := by decide +kernel
theorem dX12_go_180 : decode cX12_go 180 = .ok (.iconst 4, 1) := by decide +kernel
theorem dX12_go_181 : decode cX12_go 181 = .ok (.goto 4, 3) := by decide +kernel
theorem dX12_go_184 : decode cX12_go 184 = .ok (.iconst 1, 1) := by decide +kernel
theorem dX12_go_185 : decode cX12_go 185 = .ok (.putfield 106, 3) := by decide +kernel
theorem dX12_go_188 : decode cX12_go 188 = .ok (.aload_n 0, 1) := by decide +kernel
theorem dX12_go_189 : decode cX12_go 189 = .ok (.iload_n 1, 1) := by decide +kernel
theorem dX12_go_190 : decode cX12_go 190 = .ok (.putfield 116, 3) := by decide +kernel
theorem dX12_go_193 : decode cX12_go 193 = .ok (.aload_n 0, 1) := by decide +kernel
theorem dX12_go_194 : decode cX12_go 194 = .ok (.dup, 1) := by decide +kernel
theorem dX12_go_195 : decode cX12_go 195 = .ok (.getfield 97, 3) := by decide +kernel
theorem dX12_go_198 : decode cX12_go 198 = .ok (.iconst 1, 1) := by decide +kernel
theorem dX12_go_199 : decode cX12_go 199 = .ok (.iadd, 1) := by decide +kernel
theorem dX12_go_200 : decode cX12_go 200 = .ok (.putfield 97, 3) := by decide +kernel
theorem dX12_go_203 : decode cX12_go 203 = .ok (.return_, 1) := by decide +kernel
theorem dX12_go_204 : decode cX12_go 204 = .ok (.iload_n 1, 1) := by decide +kernel
theorem dX12_go_205 : decode cX12_go 205 = .ok (.invokestatic 109, 3) := by decide +kernel
theorem dX12_go_208 : decode cX12_go 208 = .ok (.istore_n 2, 1) := by decide +kernel
theorem dX12_go_209 : decode cX12_go 209 = .ok (.iconst 1, 1) := by decide +kernel
theorem dX12_go_210 : decode cX12_go 210 = .ok (.istore_n 3, 1) := by decide +kernel
theorem dX12_go_211 : decode cX12_go 211 = .ok (.aload_n 0, 1) := by decide +kernel
theorem dX12_go_212 : decode cX12_go 212 = .ok (.lconst 0, 1) := by decide +kernel
theorem dX12_go_213 : decode cX12_go 213 = .ok (.putfield 119, 3) := by decide +kernel
theorem dX12_go_216 : decode cX12_go 216 = .ok (.aload_n 0, 1) := by decide +kernel
theorem dX12_go_217 : decode cX12_go 217 = .ok (.iconst 0, 1) := by decide +kernel
theorem dX12_go_218 : decode cX12_go 218 = .ok (.putfield 123, 3) := by decide +kernel
theorem dX12_go_221 : decode cX12_go 221 = .ok (.aload_n 0, 1) := by decide +kernel
theorem dX12_go_222 : decode cX12_go 222 = .ok (.aload_n 0, 1) := by decide +kernel
theorem dX12_go_223 : decode cX12_go 223 = .ok (.getfield 97, 3) := by decide +kernel
theorem dX12_go_226 : decode cX12_go 226 = .ok (.invokevirtual 126, 3) := by decide +kernel
theorem dX12_go_229 : decode cX12_go 229 = .ok (.invokestatic 109, 3) := by decide +kernel
theorem dX12_go_232 : decode cX12_go 232 = .ok (.ifCond .ne 17, 3) := by decide +kernel
theorem dX12_go_235 : decode cX12_go 235 = .ok (.aload_n 0, 1) := by decide +kernel
theorem dX12_go_236 : decode cX12_go 236 = .ok (.aload_n 0, 1) := by decide +kernel
theorem dX12_go_237 : decode cX12_go 237 = .ok (.getfield 97, 3) := by decide +kernel
theorem dX12_go_240 : decode cX12_go 240 = .ok (.invokevirtual 126, 3) := by decide +kernel
theorem dX12_go_243 : decode cX12_go 243 = .ok (.invokestatic 113, 3) := by decide +kernel
theorem dX12_go_246 : decode cX12_go 246 = .ok (.ifCond .eq 110, 3) := by decide +kernel
theorem dX12_go_249 : decode cX12_go 249 = .ok (.aload_n 0, 1) := by decide +kernel
theorem dX12_go_250 : decode cX12_go 250 = .ok (.getfield 7, 3) := by decide +kernel
theorem dX12_go_253 : decode cX12_go 253 = .ok (.aload_n 0, 1) := by decide +kernel
theorem dX12_go_254 : decode cX12_go 254 = .ok (.getfield 97, 3) := by decide +kernel
theorem dX12_go_257 : decode cX12_go 257 = .ok (.iaload, 1) := by decide +kernel
theorem dX12_go_258 : decode cX12_go 258 = .ok (.istore 4, 2) := by decide +kernel
theorem dX12_go_260 : decode cX12_go 260 = .ok (.iload_n 3, 1) := by decide +kernel
theorem dX12_go_261 : decode cX12_go 261 = .ok (.ifCond .eq 16, 3) := by decide +kernel
theorem dX12_go_264 : decode cX12_go 264 = .ok (.iload 4, 2) := by decide +kernel
theorem dX12_go_266 : decode cX12_go 266 = .ok (.invokestatic 109, 3) := by decide +kernel
theorem dX12_go_269 : decode cX12_go 269 = .ok (.iload_n 2, 1) := by decide +kernel
theorem dX12_go_270 : decode cX12_go 270 = .ok (.if_icmp .ne 7, 3) := by decide +kernel
theorem dX12_go_273 : decode cX12_go 273 = .ok (.iconst 1, 1) := by decide +kernel
theorem dX12_go_274 : decode cX12_go 274 = .ok (.goto 4, 3) := by decide +kernel
theorem dX12_go_277 : decode cX12_go 277 = .ok (.iconst 0, 1) := by decide +kernel
theorem dX12_go_278 : decode cX12_go 278 = .ok (.istore_n 3, 1) := by decide +kernel
theorem dX12_go_279 : decode cX12_go 279 = .ok (.aload_n 0, 1) := by decide +kernel
theorem dX12_go_280 : decode cX12_go 280 = .ok (.getfield 97, 3) := by decide +kernel
theorem dX12_go_283 : decode cX12_go 283 = .ok (.aload_n 0, 1) := by decide +kernel
theorem dX12_go_284 : decode cX12_go 284 = .ok (.getfield 100, 3) := by decide +kernel
theorem dX12_go_287 : decode cX12_go 287 = .ok (.isub, 1) := by decide +kernel
theorem dX12_go_288 : decode cX12_go 288 = .ok (.bipush 6, 2) := by decide +kernel
theorem dX12_go_290 : decode cX12_go 290 = .ok (.if_icmp .ge 23, 3) := by decide +kernel
theorem dX12_go_293 : decode cX12_go 293 = .ok (.aload_n 0, 1) := by decide +kernel
theorem dX12_go_294 : decode cX12_go 294 = .ok (.ldc2_w 130, 3) := by decide +kernel
theorem dX12_go_297 : decode cX12_go 297 = .ok (.aload_n 0, 1) := by decide +kernel
theorem dX12_go_298 : decode cX12_go 298 = .ok (.getfield 119, 3) := by decide +kernel
theorem dX12_go_301 : decode cX12_go 301 = .ok (.lmul, 1) := by decide +kernel
theorem dX12_go_302 : decode cX12_go 302 = .ok (.iload 4, 2) := by decide +kernel
theorem dX12_go_304 : decode cX12_go 304 = .ok (.i2l, 1) := by decide +kernel
theorem dX12_go_305 : decode cX12_go 305 = .ok (.ladd, 1) := by decide +kernel
theorem dX12_go_306 : decode cX12_go 306 = .ok (.ldc2_w 132, 3) := by decide +kernel
theorem dX12_go_309 : decode cX12_go 309 = .ok (.lsub, 1) := by decide +kernel
theorem dX12_go_310 : decode cX12_go 310 = .ok (.putfield 119, 3) := by decide +kernel
theorem dX12_go_313 : decode cX12_go 313 = .ok (.aload_n 0, 1) := by decide +kernel
theorem dX12_go_314 : decode cX12_go 314 = .ok (.getfield 97, 3) := by decide +kernel
theorem dX12_go_317 : decode cX12_go 317 = .ok (.aload_n 0, 1) := by decide +kernel
theorem dX12_go_318 : decode cX12_go 318 = .ok (.getfield 100, 3) := by decide +kernel
theorem dX12_go_321 : decode cX12_go 321 = .ok (.isub, 1) := by decide +kernel
theorem dX12_go_322 : decode cX12_go 322 = .ok (.iconst 4, 1) := by decide +kernel
theorem dX12_go_323 : decode cX12_go 323 = .ok (.if_icmp .ge 20, 3) := by decide +kernel
theorem dX12_go_326 : decode cX12_go 326 = .ok (.aload_n 0, 1) := by decide +kernel
theorem dX12_go_327 : decode cX12_go 327 = .ok (.bipush 10, 2) := by decide +kernel
theorem dX12_go_329 : decode cX12_go 329 = .ok (.aload_n 0, 1) := by decide +kernel
theorem dX12_go_330 : decode cX12_go 330 = .ok (.getfield 123, 3) := by decide +kernel
theorem dX12_go_333 : decode cX12_go 333 = .ok (.imul, 1) := by decide +kernel
theorem dX12_go_334 : decode cX12_go 334 = .ok (.iload 4, 2) := by decide +kernel
theorem dX12_go_336 : decode cX12_go 336 = .ok (.iadd, 1) := by decide +kernel
theorem dX12_go_337 : decode cX12_go 337 = .ok (.bipush 48, 2) := by decide +kernel
theorem dX12_go_339 : decode cX12_go 339 = .ok (.isub, 1) := by decide +kernel
theorem dX12_go_340 : decode cX12_go 340 = .ok (.putfield 123, 3) := by decide +kernel
theorem dX12_go_343 : decode cX12_go 343 = .ok (.aload_n 0, 1) := by decide +kernel
theorem dX12_go_344 : decode cX12_go 344 = .ok (.dup, 1) := by decide +kernel
theorem dX12_go_345 : decode cX12_go 345 = .ok (.getfield 97, 3) := by decide +kernel
theorem dX12_go_348 : decode cX12_go 348 = .ok (.iconst 1, 1) := by decide +kernel
theorem dX12_go_349 : decode cX12_go 349 = .ok (.iadd, 1) := by decide +kernel
theorem dX12_go_350 : decode cX12_go 350 = .ok (.putfield 97, 3) := by decide +kernel
theorem dX12_go_353 : decode cX12_go 353 = .ok (.goto (-132), 3) := by decide +kernel
theorem dX12_go_356 : decode cX12_go 356 = .ok (.aload_n 0, 1) := by decide +kernel
theorem dX12_go_357 : decode cX12_go 357 = .ok (.iload_n 3, 1) := by decide +kernel
theorem dX12_go_358 : decode cX12_go 358 = .ok (.ifCond .eq 25, 3) := by decide +kernel
theorem dX12_go_361 : decode cX12_go 361 = .ok (.aload_n 0, 1) := by decide +kernel
theorem dX12_go_362 : decode cX12_go 362 = .ok (.getfield 97, 3) := by decide +kernel
theorem dX12_go_365 : decode cX12_go 365 = .ok (.aload_n 0, 1) := by decide +kernel
theorem dX12_go_366 : decode cX12_go 366 = .ok (.getfield 100, 3) := by decide +kernel
theorem dX12_go_369 : decode cX12_go 369 = .ok (.isub, 1) := by decide +kernel
theorem dX12_go_370 : decode cX12_go 370 = .ok (.iload_n 2, 1) := by decide +kernel
theorem dX12_go_371 : decode cX12_go 371 = .ok (.ifCond .eq 8, 3) := by decide +kernel
theorem dX12_go_374 : decode cX12_go 374 = .ok (.bipush 6, 2) := by decide +kernel
theorem dX12_go_376 : decode cX12_go 376 = .ok (.goto 4, 3) := by decide +kernel
theorem dX12_go_379 : decode cX12_go 379 = .ok (.iconst 4, 1) := by decide +kernel
theorem dX12_go_380 : decode cX12_go 380 = .ok (.if_icmp .le 7, 3) := by decide +kernel
theorem dX12_go_383 : decode cX12_go 383 = .ok (.iconst 1, 1) := by decide +kernel
theorem dX12_go_384 : decode cX12_go 384 = .ok (.goto 12, 3) := by decide +kernel
theorem dX12_go_387 : decode cX12_go 387 = .ok (.iload_n 2, 1) := by decide +kernel
theorem dX12_go_388 : decode cX12_go 388 = .ok (.ifCond .eq 7, 3) := by decide +kernel
theorem dX12_go_391 : decode cX12_go 391 = .ok (.iconst 2, 1) := by decide +kernel
theorem dX12_go_392 : decode cX12_go 392 = .ok (.goto 4, 3) := by decide +kernel
theorem dX12_go_395 : decode cX12_go 395 = .ok (.iconst 3, 1) := by decide +kernel
theorem dX12_go_396 : decode cX12_go 396 = .ok (.putfield 106, 3) := by decide +kernel
theorem dX12_go_399 : decode cX12_go 399 = .ok (.return_, 1) := by decide +kernel
theorem hcX12_go : yX12_go.cls ≠ "java/lang/invoke/MethodHandle" ∧ yX12_go.cls ≠ "java/lang/invoke/VarHandle" ∧ (parseMethodDescriptor yX12_go.desc).map (fun d => d.parameters.length) = some 0 := ⟨by decide +kernel, by decide +kernel, by decide +kernel⟩
def fX12_go_j39 (s_0 : sg_M) (k0 : sg_M → Prop)  : Prop := sg_R ((s_0 64 5) + 1) ∧ ∀ s10 : sg_M, s10 = sg_up s_0 64 5 ((s_0 64 5) + 1) → k0 s10
def fX12_go_L0  (k52 : sg_M → Prop) : Nat → sg_M → Prop
  | 0, _ => False
  | n_0 + 1, s_0 => (((s_0 64 3) ≤ (s_0 64 5) → k52 s_0) ∧ (¬ ((s_0 64 3) ≤ (s_0 64 5)) → (0 ≤ (s_0 64 5) ∧ (s_0 64 5) < 540) ∧ (((s_0 65 (s_0 64 5)) = 32 → (fX12_go_j39 s_0 (fX12_go_L0  k52 n_0))) ∧ (¬ ((s_0 65 (s_0 64 5)) = 32) → (0 ≤ (s_0 64 5) ∧ (s_0 64 5) < 540) ∧ (((s_0 65 (s_0 64 5)) ≠ 10 → k52 s_0) ∧ ((s_0 65 (s_0 64 5)) = 10 → (fX12_go_j39 s_0 (fX12_go_L0  k52 n_0))))))))
def fX12_go_j343 (y0_278 : Int) (k221 : sg_M → Int → Prop) (s_343 : sg_M) : Prop := sg_R ((s_343 64 5) + 1) ∧ ∀ s54 : sg_M, s54 = sg_up s_343 64 5 ((s_343 64 5) + 1) → k221 s54 y0_278
def fX12_go_j313 (s_221 : sg_M) (y0_278 : Int) (k221 : sg_M → Int → Prop) (s_313 : sg_M) : Prop := sg_R ((s_313 64 5) - (s_313 64 6)) ∧ ((4 ≤ ((s_313 64 5) - (s_313 64 6)) → (fX12_go_j343 y0_278 k221) s_313) ∧ (¬ (4 ≤ ((s_313 64 5) - (s_313 64 6))) → sg_R (((10 * (s_313 64 8)) + (s_221 65 (s_221 64 5))) - 48) ∧ ∀ v60 : Int, v60 = (((10 * (s_313 64 8)) + (s_221 65 (s_221 64 5))) - 48) → ∀ s62 : sg_M, s62 = sg_up s_313 64 8 v60 → (fX12_go_j343 y0_278 k221) s62))
def fX12_go_j278 (s_221 : sg_M) (k221 : sg_M → Int → Prop) (y0_278 : Int) : Prop := sg_R ((s_221 64 5) - (s_221 64 6)) ∧ ((6 ≤ ((s_221 64 5) - (s_221 64 6)) → (fX12_go_j313 s_221 y0_278 k221) s_221) ∧ (¬ (6 ≤ ((s_221 64 5) - (s_221 64 6))) → sg_R64 (((27 * (s_221 64 12)) + (s_221 65 (s_221 64 5))) - 96) ∧ ∀ v68 : Int, v68 = (((27 * (s_221 64 12)) + (s_221 65 (s_221 64 5))) - 96) → ∀ s70 : sg_M, s70 = sg_up s_221 64 12 v68 → (fX12_go_j313 s_221 y0_278 k221) s70))
def fX12_go_j277  (k278 : Int → Prop)  : Prop := k278 0
def fX12_go_j249 (u33 : Int) (s_221 : sg_M) (x3_221 : Int) (k221 : sg_M → Int → Prop)  : Prop := (0 ≤ (s_221 64 5) ∧ (s_221 64 5) < 540) ∧ ((x3_221 = 0 → (fX12_go_j277  (fX12_go_j278 s_221 k221))) ∧ (¬ (x3_221 = 0) → fX12_isLetter (s_221 65 (s_221 64 5)) (fun u73 => ((u73 ≠ u33 → (fX12_go_j277  (fX12_go_j278 s_221 k221))) ∧ (u73 = u33 → (fX12_go_j278 s_221 k221) 1)))))
def fX12_go_L221 (u33 : Int) (k356 : sg_M → Int → Prop) : Nat → sg_M → Int → Prop
  | 0, _, _ => False
  | n_221 + 1, s_221, x3_221 => fX12_byteAt s_221 (s_221 64 5) (fun u40 => fX12_isLetter u40 (fun u42 => ((u42 ≠ 0 → (fX12_go_j249 u33 s_221 x3_221 (fX12_go_L221 u33 k356 n_221))) ∧ (u42 = 0 → fX12_byteAt s_221 (s_221 64 5) (fun u78 => fX12_isDigit u78 (fun u80 => ((u80 = 0 → k356 s_221 x3_221) ∧ (¬ (u80 = 0) → (fX12_go_j249 u33 s_221 x3_221 (fX12_go_L221 u33 k356 n_221))))))))))
def fX12_go_j380 (u33 : Int) (s_356e221 : sg_M) (Q : sg_M → Prop) (y0_380 : Int) : Prop := sg_R ((s_356e221 64 5) - (s_356e221 64 6)) ∧ ((((s_356e221 64 5) - (s_356e221 64 6)) ≤ y0_380 → ((u33 = 0 → ∀ s92 : sg_M, s92 = sg_up s_356e221 64 7 3 → Q s92) ∧ (¬ (u33 = 0) → ∀ s94 : sg_M, s94 = sg_up s_356e221 64 7 2 → Q s94))) ∧ (¬ (((s_356e221 64 5) - (s_356e221 64 6)) ≤ y0_380) → ∀ s96 : sg_M, s96 = sg_up s_356e221 64 7 1 → Q s96))
def fX12_go_j204 (s20 : sg_M) (Q : sg_M → Prop)  : Prop := fX12_isLetter (s20 65 (s20 64 5)) (fun u33 => ∀ s35 : sg_M, s35 = sg_up s20 64 12 0 → ∀ s37 : sg_M, s37 = sg_up s35 64 8 0 → (∃ n83 : Nat, fX12_go_L221 u33 (fun s_356e221 x3_356e221 => ((x3_356e221 = 0 → ∀ s85 : sg_M, s85 = sg_up s_356e221 64 7 1 → Q s85) ∧ (¬ (x3_356e221 = 0) → ((u33 = 0 → (fX12_go_j380 u33 s_356e221 Q) 4) ∧ (¬ (u33 = 0) → (fX12_go_j380 u33 s_356e221 Q) 6))))) n83 s37 1))
def fX12_go_j96 (s20 : sg_M) (Q : sg_M → Prop)  : Prop := (((s20 64 5) < (s20 64 3) → (0 ≤ (s20 64 5) ∧ (s20 64 5) < 540) ∧ fX12_isLetter (s20 65 (s20 64 5)) (fun u31 => ((u31 ≠ 0 → (fX12_go_j204 s20 Q)) ∧ (u31 = 0 → fX12_isDigit (s20 65 (s20 64 5)) (fun u100 => ((u100 ≠ 0 → (fX12_go_j204 s20 Q)) ∧ (u100 = 0 → (((s20 65 (s20 64 5)) = 59 → ∀ s104 : sg_M, s104 = sg_up s20 64 7 4 → ∀ s106 : sg_M, s106 = sg_up s104 64 9 (s20 65 (s20 64 5)) → sg_R ((s106 64 5) + 1) ∧ ∀ s110 : sg_M, s110 = sg_up s106 64 5 ((s106 64 5) + 1) → Q s110) ∧ (¬ ((s20 65 (s20 64 5)) = 59) → (((s20 65 (s20 64 5)) = 45 → ∀ s113 : sg_M, s113 = sg_up s20 64 7 4 → ∀ s115 : sg_M, s115 = sg_up s113 64 9 (s20 65 (s20 64 5)) → sg_R ((s115 64 5) + 1) ∧ ∀ s119 : sg_M, s119 = sg_up s115 64 5 ((s115 64 5) + 1) → Q s119) ∧ (¬ ((s20 65 (s20 64 5)) = 45) → (((s20 65 (s20 64 5)) = 60 → ∀ s122 : sg_M, s122 = sg_up s20 64 7 4 → ∀ s124 : sg_M, s124 = sg_up s122 64 9 (s20 65 (s20 64 5)) → sg_R ((s124 64 5) + 1) ∧ ∀ s128 : sg_M, s128 = sg_up s124 64 5 ((s124 64 5) + 1) → Q s128) ∧ (¬ ((s20 65 (s20 64 5)) = 60) → (((s20 65 (s20 64 5)) = 61 → ∀ s131 : sg_M, s131 = sg_up s20 64 7 4 → ∀ s133 : sg_M, s133 = sg_up s131 64 9 (s20 65 (s20 64 5)) → sg_R ((s133 64 5) + 1) ∧ ∀ s137 : sg_M, s137 = sg_up s133 64 5 ((s133 64 5) + 1) → Q s137) ∧ (¬ ((s20 65 (s20 64 5)) = 61) → (((s20 65 (s20 64 5)) = 62 → ∀ s140 : sg_M, s140 = sg_up s20 64 7 4 → ∀ s142 : sg_M, s142 = sg_up s140 64 9 (s20 65 (s20 64 5)) → sg_R ((s142 64 5) + 1) ∧ ∀ s146 : sg_M, s146 = sg_up s142 64 5 ((s142 64 5) + 1) → Q s146) ∧ (¬ ((s20 65 (s20 64 5)) = 62) → (((s20 65 (s20 64 5)) = 40 → ∀ s149 : sg_M, s149 = sg_up s20 64 7 4 → ∀ s151 : sg_M, s151 = sg_up s149 64 9 (s20 65 (s20 64 5)) → sg_R ((s151 64 5) + 1) ∧ ∀ s155 : sg_M, s155 = sg_up s151 64 5 ((s151 64 5) + 1) → Q s155) ∧ (¬ ((s20 65 (s20 64 5)) = 40) → (((s20 65 (s20 64 5)) ≠ 41 → ∀ s158 : sg_M, s158 = sg_up s20 64 7 1 → ∀ s160 : sg_M, s160 = sg_up s158 64 9 (s20 65 (s20 64 5)) → sg_R ((s160 64 5) + 1) ∧ ∀ s164 : sg_M, s164 = sg_up s160 64 5 ((s160 64 5) + 1) → Q s164) ∧ ((s20 65 (s20 64 5)) = 41 → ∀ s166 : sg_M, s166 = sg_up s20 64 7 4 → ∀ s168 : sg_M, s168 = sg_up s166 64 9 (s20 65 (s20 64 5)) → sg_R ((s168 64 5) + 1) ∧ ∀ s172 : sg_M, s172 = sg_up s168 64 5 ((s168 64 5) + 1) → Q s172))))))))))))))))))))) ∧ (¬ ((s20 64 5) < (s20 64 3)) → ∀ s174 : sg_M, s174 = sg_up s20 64 7 0 → Q s174))
def fX12_go (s0 : sg_M) (Q : sg_M → Prop) : Prop := (∃ n18 : Nat, fX12_go_L0  (fun s_52e0 => ∀ s20 : sg_M, s20 = sg_up s_52e0 64 6 (s_52e0 64 5) → (((s20 64 3) ≤ (s20 64 4) → (fX12_go_j96 s20 Q)) ∧ (¬ ((s20 64 3) ≤ (s20 64 4)) → (((s20 64 6) < (s20 64 4) → (fX12_go_j96 s20 Q)) ∧ (¬ ((s20 64 6) < (s20 64 4)) → ∀ s181 : sg_M, s181 = sg_up s20 64 6 (s20 64 4) → ∀ s183 : sg_M, s183 = sg_up s181 64 7 1 → Q s183))))) n18 s0)
set_option maxHeartbeats 4000000 in
set_option maxRecDepth 100000 in
theorem CX12_go {l : Launch} {G : sg_G} {La : sg_L} {s0 : sg_M} (hst : sg_St La) {Q : sg_M → Prop} (hf : fX12_go s0 Q) : sg_C l G yX12_go cX12_go 5 (none) 2 0 0 La s0 [sg_r 64] (sg_HV La Q) := by
  refine sg_body (by decide +kernel) (Nat.le_of_ble_eq_true rfl) ?_
  intro p e s m args below meth c F hnm
  unfold fX12_go at hf
  show sg_W p l e (sg_rm 2 0 0) s m args below meth c (MQ below (sg_Q (none) G La s.heap.size (sg_HV La Q)) args s 0 0 (sg_A La s.heap.size)) 5 G (sg_A La s.heap.size) La s0 0 0 0 [(0, sg_r 64)] []
  have L0 : ∀ (k52 : sg_M → Prop) (hk52 : ∀ (s_52e0 : sg_M), k52 s_52e0 → sg_W p l e (sg_rm 2 0 0) s m args below meth c (MQ below (sg_Q (none) G La s.heap.size (sg_HV La Q)) args s 0 0 (sg_A La s.heap.size)) 5 G (sg_A La s.heap.size) La s_52e0 0 0 52 [(0, sg_r 64)] []), ∀ n_0 : Nat, ∀ (s_0 : sg_M), fX12_go_L0  k52 n_0 s_0 → sg_W p l e (sg_rm 2 0 0) s m args below meth c (MQ below (sg_Q (none) G La s.heap.size (sg_HV La Q)) args s 0 0 (sg_A La s.heap.size)) 5 G (sg_A La s.heap.size) La s_0 0 0 0 [(0, sg_r 64)] [] := by
    intro k52 hk52 n_0
    induction n_0 with
    | zero => intro s_0 hf; exact hf.elim
    | succ n_0 ih =>
      intro s_0 hf
      unfold fX12_go_L0 at hf
      refine gw_aload_n F 0 rfl rfl (by decide) dX12_go_0 ?_
      refine gw_get0 F (so_64 hst) (by decide) rfl sg_lay_RX12 (j := 5) (by decide) rfl (host := "") (.inl kw_952) dX12_go_1 (fun h1 => ?_)
      refine gw_aload_n F 0 rfl rfl (by decide) dX12_go_4 ?_
      refine gw_get0 F (so_64 hst) (by decide) rfl sg_lay_RX12 (j := 3) (by decide) rfl (host := "") (.inl kw_950) dX12_go_5 (fun h2 => ?_)
      refine gw_icmp_ge F (tgt := 52) dX12_go_8 (by decide) h1 h2 (fun c3 => ?_) (fun c3 => ?_)
      · have hf := hf.1 c3
        refine gw_sub [0] rfl ?_
        exact hk52 s_0 hf
      · have hf := hf.2 c3
        refine gw_aload_n F 0 rfl rfl (by decide) dX12_go_11 ?_
        refine gw_get7 F (so_64 hst) (by decide) rfl sg_lay_RX12 (j := 1) (by decide) (o1 := 65) (by first | rfl | omega) rfl (host := "") (.inl kw_948) dX12_go_12 (fun h4 => ?_)
        refine gw_aload_n F 0 rfl rfl (by decide) dX12_go_15 ?_
        refine gw_get0 F (so_64 hst) (by decide) rfl sg_lay_RX12 (j := 5) (by decide) rfl (host := "") (.inl kw_952) dX12_go_16 (fun h5 => ?_)
        obtain ⟨⟨b60, b61⟩, hf⟩ := hf
        refine gw_iald F (sa_65 hst) b60 b61 dX12_go_19 (fun h7 => ?_)
        refine gw_bipush F rfl dX12_go_20 ?_
        have J39 : (fX12_go_j39 s_0 (fX12_go_L0  k52 n_0)) → sg_W p l e (sg_rm 2 0 0) s m args below meth c (MQ below (sg_Q (none) G La s.heap.size (sg_HV La Q)) args s 0 0 (sg_A La s.heap.size)) 5 G (sg_A La s.heap.size) La s_0 0 0 39 [(0, sg_r 64)] [] := by
          intro hf
          unfold fX12_go_j39 at hf
          refine gw_aload_n F 0 rfl rfl (by decide) dX12_go_39 ?_
          refine gw_dup F rfl dX12_go_40 ?_
          refine gw_get0 F (so_64 hst) (by decide) rfl sg_lay_RX12 (j := 5) (by decide) rfl (host := "") (.inl kw_952) dX12_go_41 (fun h8 => ?_)
          refine gw_iconst F dX12_go_44 ?_
          refine gw_iadd F rfl dX12_go_45 ?_
          obtain ⟨g9, hf⟩ := hf
          obtain ⟨s10, e11⟩ : ∃ z : sg_M, z = sg_up s_0 64 5 ((s_0 64 5) + 1) := ⟨_, rfl⟩
          have hf := hf s10 e11
          refine gw_put0 F (so_64 hst) (by decide) rfl sg_lay_RX12 (j := 5) (by decide) g9 e11 tyX12_ok nmX12 rfl (tyX12_ok 5 (by decide)) rfl (host := "") (.inl kw_952) dX12_go_46 ?_
          refine gw_goto F (tgt := 0) dX12_go_49 (by decide) ?_
          refine gw_sub [0] rfl ?_
          exact ih s10 hf
        refine gw_icmp_eq F (tgt := 39) dX12_go_22 (by decide) h7 (by decide) (fun c12 => ?_) (fun c12 => ?_)
        · have hf := hf.1 c12
          refine gw_sub [0] rfl ?_
          exact J39  hf
        · have hf := hf.2 c12
          refine gw_aload_n F 0 rfl rfl (by decide) dX12_go_25 ?_
          refine gw_get7 F (so_64 hst) (by decide) rfl sg_lay_RX12 (j := 1) (by decide) (o1 := 65) (by first | rfl | omega) rfl (host := "") (.inl kw_948) dX12_go_26 (fun h13 => ?_)
          refine gw_aload_n F 0 rfl rfl (by decide) dX12_go_29 ?_
          refine gw_get0 F (so_64 hst) (by decide) rfl sg_lay_RX12 (j := 5) (by decide) rfl (host := "") (.inl kw_952) dX12_go_30 (fun h14 => ?_)
          obtain ⟨⟨b150, b151⟩, hf⟩ := hf
          refine gw_iald F (sa_65 hst) b150 b151 dX12_go_33 (fun h16 => ?_)
          refine gw_bipush F rfl dX12_go_34 ?_
          refine gw_icmp_ne F (tgt := 52) dX12_go_36 (by decide) h16 (by decide) (fun c17 => ?_) (fun c17 => ?_)
          · have hf := hf.1 c17
            refine gw_sub [0] rfl ?_
            exact hk52 s_0 hf
          · have hf := hf.2 c17
            refine gw_sub [0] rfl ?_
            exact J39  hf
  obtain ⟨n18, hf⟩ := hf
  refine gw_sub [0] rfl ?_
  refine L0 _ (fun s_52e0 hf => ?_) n18 s0 hf
  refine gw_aload_n F 0 rfl rfl (by decide) dX12_go_52 ?_
  refine gw_aload_n F 0 rfl rfl (by decide) dX12_go_53 ?_
  refine gw_get0 F (so_64 hst) (by decide) rfl sg_lay_RX12 (j := 5) (by decide) rfl (host := "") (.inl kw_952) dX12_go_54 (fun h19 => ?_)
  obtain ⟨s20, e21⟩ : ∃ z : sg_M, z = sg_up s_52e0 64 6 (s_52e0 64 5) := ⟨_, rfl⟩
  have hf := hf s20 e21
  refine gw_put0 F (so_64 hst) (by decide) rfl sg_lay_RX12 (j := 6) (by decide) h19 e21 tyX12_ok nmX12 rfl (tyX12_ok 6 (by decide)) rfl (host := "") (.inl kw_953) dX12_go_57 ?_
  refine gw_aload_n F 0 rfl rfl (by decide) dX12_go_60 ?_
  refine gw_get0 F (so_64 hst) (by decide) rfl sg_lay_RX12 (j := 3) (by decide) rfl (host := "") (.inl kw_950) dX12_go_61 (fun h22 => ?_)
  refine gw_aload_n F 0 rfl rfl (by decide) dX12_go_64 ?_
  refine gw_get0 F (so_64 hst) (by decide) rfl sg_lay_RX12 (j := 4) (by decide) rfl (host := "") (.inl kw_951) dX12_go_65 (fun h23 => ?_)
  have J96 : (fX12_go_j96 s20 Q) → sg_W p l e (sg_rm 2 0 0) s m args below meth c (MQ below (sg_Q (none) G La s.heap.size (sg_HV La Q)) args s 0 0 (sg_A La s.heap.size)) 5 G (sg_A La s.heap.size) La s20 0 0 96 [(0, sg_r 64)] [] := by
    intro hf
    unfold fX12_go_j96 at hf
    refine gw_aload_n F 0 rfl rfl (by decide) dX12_go_96 ?_
    refine gw_get0 F (so_64 hst) (by decide) rfl sg_lay_RX12 (j := 5) (by decide) rfl (host := "") (.inl kw_952) dX12_go_97 (fun h24 => ?_)
    refine gw_aload_n F 0 rfl rfl (by decide) dX12_go_100 ?_
    refine gw_get0 F (so_64 hst) (by decide) rfl sg_lay_RX12 (j := 3) (by decide) rfl (host := "") (.inl kw_950) dX12_go_101 (fun h25 => ?_)
    refine gw_icmp_lt F (tgt := 113) dX12_go_104 (by decide) h24 h25 (fun c26 => ?_) (fun c26 => ?_)
    · have hf := hf.1 c26
      refine gw_aload_n F 0 rfl rfl (by decide) dX12_go_113 ?_
      refine gw_get7 F (so_64 hst) (by decide) rfl sg_lay_RX12 (j := 1) (by decide) (o1 := 65) (by first | rfl | omega) rfl (host := "") (.inl kw_948) dX12_go_114 (fun h27 => ?_)
      refine gw_aload_n F 0 rfl rfl (by decide) dX12_go_117 ?_
      refine gw_get0 F (so_64 hst) (by decide) rfl sg_lay_RX12 (j := 5) (by decide) rfl (host := "") (.inl kw_952) dX12_go_118 (fun h28 => ?_)
      obtain ⟨⟨b290, b291⟩, hf⟩ := hf
      refine gw_iald F (sa_65 hst) b290 b291 dX12_go_121 (fun h30 => ?_)
      refine gw_istore_n F rfl (by decide) rfl dX12_go_122 ?_
      refine gw_iload_n F 0 rfl rfl dX12_go_123 ?_
      refine gk_PZ F (gc_S F (S := []) (As := [sg_i (s20 65 (s20 64 5))]) (CX12_isLetter h30 hf) kw_1043 kw_103 kw_1041 kw_1042 hcX12_isLetter ⟨by decide, by decide⟩ rfl rfl (Nat.le_of_ble_eq_true rfl) ⟨by decide, by decide⟩ dX12_go_124) (fun u31 h32 hf => ?_)
      have J204 : (fX12_go_j204 s20 Q) → sg_W p l e (sg_rm 2 0 0) s m args below meth c (MQ below (sg_Q (none) G La s.heap.size (sg_HV La Q)) args s 0 0 (sg_A La s.heap.size)) 5 G (sg_A La s.heap.size) La s20 0 0 204 [(0, sg_r 64), (1, sg_i (s20 65 (s20 64 5)))] [] := by
        intro hf
        unfold fX12_go_j204 at hf
        refine gw_iload_n F 1 rfl rfl dX12_go_204 ?_
        refine gk_PZ F (gc_S F (S := []) (As := [sg_i (s20 65 (s20 64 5))]) (CX12_isLetter h30 hf) kw_1043 kw_103 kw_1041 kw_1042 hcX12_isLetter ⟨by decide, by decide⟩ rfl rfl (Nat.le_of_ble_eq_true rfl) ⟨by decide, by decide⟩ dX12_go_205) (fun u33 h34 hf => ?_)
        refine gw_istore_n F rfl (by decide) rfl dX12_go_208 ?_
        refine gw_iconst F dX12_go_209 ?_
        refine gw_istore_n F rfl (by decide) rfl dX12_go_210 ?_
        refine gw_aload_n F 2 rfl rfl (by decide) dX12_go_211 ?_
        refine gw_lconst F (z := 0) rfl dX12_go_212 ?_
        obtain ⟨s35, e36⟩ : ∃ z : sg_M, z = sg_up s20 64 12 0 := ⟨_, rfl⟩
        have hf := hf s35 e36
        refine gw_put2 F (so_64 hst) (by decide) rfl sg_lay_RX12 (j := 12) (by decide) (by decide) e36 tyX12_ok nmX12 rfl (tyX12_ok 12 (by decide)) rfl (host := "") (.inl kw_959) dX12_go_213 ?_
        refine gw_aload_n F 2 rfl rfl (by decide) dX12_go_216 ?_
        refine gw_iconst F dX12_go_217 ?_
        obtain ⟨s37, e38⟩ : ∃ z : sg_M, z = sg_up s35 64 8 0 := ⟨_, rfl⟩
        have hf := hf s37 e38
        refine gw_put0 F (so_64 hst) (by decide) rfl sg_lay_RX12 (j := 8) (by decide) (by decide) e38 tyX12_ok nmX12 rfl (tyX12_ok 8 (by decide)) rfl (host := "") (.inl kw_955) dX12_go_218 ?_
        have L221 : ∀ (k356 : sg_M → Int → Prop) (hk356 : ∀ (s_356e221 : sg_M) (x3_356e221 : Int), sg_R x3_356e221 → k356 s_356e221 x3_356e221 → sg_W p l e (sg_rm 2 0 0) s m args below meth c (MQ below (sg_Q (none) G La s.heap.size (sg_HV La Q)) args s 0 0 (sg_A La s.heap.size)) 5 G (sg_A La s.heap.size) La s_356e221 0 0 356 [(0, sg_r 64), (2, sg_i u33), (3, sg_i x3_356e221)] []), ∀ n_221 : Nat, ∀ (s_221 : sg_M) (x3_221 : Int), sg_R x3_221 → fX12_go_L221 u33 k356 n_221 s_221 x3_221 → sg_W p l e (sg_rm 2 0 0) s m args below meth c (MQ below (sg_Q (none) G La s.heap.size (sg_HV La Q)) args s 0 0 (sg_A La s.heap.size)) 5 G (sg_A La s.heap.size) La s_221 0 0 221 [(0, sg_r 64), (2, sg_i u33), (3, sg_i x3_221)] [] := by
          intro k356 hk356 n_221
          induction n_221 with
          | zero => intro s_221 x3_221 r3_221 hf; exact hf.elim
          | succ n_221 ih =>
            intro s_221 x3_221 r3_221 hf
            unfold fX12_go_L221 at hf
            refine gw_aload_n F 0 rfl rfl (by decide) dX12_go_221 ?_
            refine gw_aload_n F 0 rfl rfl (by decide) dX12_go_222 ?_
            refine gw_get0 F (so_64 hst) (by decide) rfl sg_lay_RX12 (j := 5) (by decide) rfl (host := "") (.inl kw_952) dX12_go_223 (fun h39 => ?_)
            refine gk_PI F (gc_V F (S := []) (As := [sg_i (s_221 64 5)]) (T := TX12) (N := 62) (CX12_byteAt hst h39 hf) (so_64 hst) (by decide) rfl kw_1049 kw_103 kw_1047 kw_1048 kw_44 hcX12_byteAt ⟨by decide, by decide⟩ rfl rfl (Nat.le_of_ble_eq_true rfl) ⟨by decide, by decide⟩ dX12_go_226) (fun u40 h41 hf => ?_)
            refine gk_PZ F (gc_S F (S := []) (As := [sg_i u40]) (CX12_isLetter h41 hf) kw_1043 kw_103 kw_1041 kw_1042 hcX12_isLetter ⟨by decide, by decide⟩ rfl rfl (Nat.le_of_ble_eq_true rfl) ⟨by decide, by decide⟩ dX12_go_229) (fun u42 h43 hf => ?_)
            have J249 : (fX12_go_j249 u33 s_221 x3_221 (fX12_go_L221 u33 k356 n_221)) → sg_W p l e (sg_rm 2 0 0) s m args below meth c (MQ below (sg_Q (none) G La s.heap.size (sg_HV La Q)) args s 0 0 (sg_A La s.heap.size)) 5 G (sg_A La s.heap.size) La s_221 0 0 249 [(0, sg_r 64), (2, sg_i u33), (3, sg_i x3_221)] [] := by
              intro hf
              unfold fX12_go_j249 at hf
              refine gw_aload_n F 0 rfl rfl (by decide) dX12_go_249 ?_
              refine gw_get7 F (so_64 hst) (by decide) rfl sg_lay_RX12 (j := 1) (by decide) (o1 := 65) (by first | rfl | omega) rfl (host := "") (.inl kw_948) dX12_go_250 (fun h44 => ?_)
              refine gw_aload_n F 0 rfl rfl (by decide) dX12_go_253 ?_
              refine gw_get0 F (so_64 hst) (by decide) rfl sg_lay_RX12 (j := 5) (by decide) rfl (host := "") (.inl kw_952) dX12_go_254 (fun h45 => ?_)
              obtain ⟨⟨b460, b461⟩, hf⟩ := hf
              refine gw_iald F (sa_65 hst) b460 b461 dX12_go_257 (fun h47 => ?_)
              refine gw_istore F (by decide) rfl dX12_go_258 ?_
              refine gw_iload_n F 3 rfl rfl dX12_go_260 ?_
              have J278 : ∀ (y0_278 : Int), sg_R y0_278 → (fX12_go_j278 s_221 (fX12_go_L221 u33 k356 n_221)) y0_278 → sg_W p l e (sg_rm 2 0 0) s m args below meth c (MQ below (sg_Q (none) G La s.heap.size (sg_HV La Q)) args s 0 0 (sg_A La s.heap.size)) 5 G (sg_A La s.heap.size) La s_221 0 0 278 [(0, sg_r 64), (2, sg_i u33), (4, sg_i (s_221 65 (s_221 64 5)))] [sg_i y0_278] := by
                intro y0_278 ry0_278 hf
                unfold fX12_go_j278 at hf
                refine gw_istore_n F rfl (by decide) rfl dX12_go_278 ?_
                refine gw_aload_n F 1 rfl rfl (by decide) dX12_go_279 ?_
                refine gw_get0 F (so_64 hst) (by decide) rfl sg_lay_RX12 (j := 5) (by decide) rfl (host := "") (.inl kw_952) dX12_go_280 (fun h48 => ?_)
                refine gw_aload_n F 1 rfl rfl (by decide) dX12_go_283 ?_
                refine gw_get0 F (so_64 hst) (by decide) rfl sg_lay_RX12 (j := 6) (by decide) rfl (host := "") (.inl kw_953) dX12_go_284 (fun h49 => ?_)
                refine gw_isub F rfl dX12_go_287 ?_
                refine gw_bipush F rfl dX12_go_288 ?_
                have J313 : ∀ (s_313 : sg_M), (fX12_go_j313 s_221 y0_278 (fX12_go_L221 u33 k356 n_221)) s_313 → sg_W p l e (sg_rm 2 0 0) s m args below meth c (MQ below (sg_Q (none) G La s.heap.size (sg_HV La Q)) args s 0 0 (sg_A La s.heap.size)) 5 G (sg_A La s.heap.size) La s_313 0 0 313 [(0, sg_r 64), (2, sg_i u33), (3, sg_i y0_278), (4, sg_i (s_221 65 (s_221 64 5)))] [] := by
                  intro s_313 hf
                  unfold fX12_go_j313 at hf
                  refine gw_aload_n F 0 rfl rfl (by decide) dX12_go_313 ?_
                  refine gw_get0 F (so_64 hst) (by decide) rfl sg_lay_RX12 (j := 5) (by decide) rfl (host := "") (.inl kw_952) dX12_go_314 (fun h50 => ?_)
                  refine gw_aload_n F 0 rfl rfl (by decide) dX12_go_317 ?_
                  refine gw_get0 F (so_64 hst) (by decide) rfl sg_lay_RX12 (j := 6) (by decide) rfl (host := "") (.inl kw_953) dX12_go_318 (fun h51 => ?_)
                  refine gw_isub F rfl dX12_go_321 ?_
                  refine gw_iconst F dX12_go_322 ?_
                  have J343 : ∀ (s_343 : sg_M), (fX12_go_j343 y0_278 (fX12_go_L221 u33 k356 n_221)) s_343 → sg_W p l e (sg_rm 2 0 0) s m args below meth c (MQ below (sg_Q (none) G La s.heap.size (sg_HV La Q)) args s 0 0 (sg_A La s.heap.size)) 5 G (sg_A La s.heap.size) La s_343 0 0 343 [(0, sg_r 64), (2, sg_i u33), (3, sg_i y0_278)] [] := by
                    intro s_343 hf
                    unfold fX12_go_j343 at hf
                    refine gw_aload_n F 0 rfl rfl (by decide) dX12_go_343 ?_
                    refine gw_dup F rfl dX12_go_344 ?_
                    refine gw_get0 F (so_64 hst) (by decide) rfl sg_lay_RX12 (j := 5) (by decide) rfl (host := "") (.inl kw_952) dX12_go_345 (fun h52 => ?_)
                    refine gw_iconst F dX12_go_348 ?_
                    refine gw_iadd F rfl dX12_go_349 ?_
                    obtain ⟨g53, hf⟩ := hf
                    obtain ⟨s54, e55⟩ : ∃ z : sg_M, z = sg_up s_343 64 5 ((s_343 64 5) + 1) := ⟨_, rfl⟩
                    have hf := hf s54 e55
                    refine gw_put0 F (so_64 hst) (by decide) rfl sg_lay_RX12 (j := 5) (by decide) g53 e55 tyX12_ok nmX12 rfl (tyX12_ok 5 (by decide)) rfl (host := "") (.inl kw_952) dX12_go_350 ?_
                    refine gw_goto F (tgt := 221) dX12_go_353 (by decide) ?_
                    refine gw_sub [0, 1, 2] rfl ?_
                    exact ih s54 y0_278 ry0_278 hf
                  obtain ⟨g56, hf⟩ := hf
                  refine gw_icmp_ge F (tgt := 343) dX12_go_323 (by decide) g56 (by decide) (fun c57 => ?_) (fun c57 => ?_)
                  · have hf := hf.1 c57
                    refine gw_sub [0, 1, 2] rfl ?_
                    exact J343 s_313 hf
                  · have hf := hf.2 c57
                    refine gw_aload_n F 0 rfl rfl (by decide) dX12_go_326 ?_
                    refine gw_bipush F rfl dX12_go_327 ?_
                    refine gw_aload_n F 0 rfl rfl (by decide) dX12_go_329 ?_
                    refine gw_get0 F (so_64 hst) (by decide) rfl sg_lay_RX12 (j := 8) (by decide) rfl (host := "") (.inl kw_955) dX12_go_330 (fun h58 => ?_)
                    refine gw_imul F rfl dX12_go_333 ?_
                    refine gw_iload F 3 rfl dX12_go_334 ?_
                    refine gw_iadd F rfl dX12_go_336 ?_
                    refine gw_bipush F rfl dX12_go_337 ?_
                    refine gw_isub F rfl dX12_go_339 ?_
                    obtain ⟨g59, hf⟩ := hf
                    obtain ⟨v60, e61⟩ : ∃ z : Int, z = (((10 * (s_313 64 8)) + (s_221 65 (s_221 64 5))) - 48) := ⟨_, rfl⟩
                    have hf := hf v60 e61
                    refine gw_nmI e61 ?_
                    obtain ⟨s62, e63⟩ : ∃ z : sg_M, z = sg_up s_313 64 8 v60 := ⟨_, rfl⟩
                    have hf := hf s62 e63
                    refine gw_put0 F (so_64 hst) (by decide) rfl sg_lay_RX12 (j := 8) (by decide) (e61 ▸ g59) e63 tyX12_ok nmX12 rfl (tyX12_ok 8 (by decide)) rfl (host := "") (.inl kw_955) dX12_go_340 ?_
                    refine gw_sub [0, 1, 2] rfl ?_
                    exact J343 s62 hf
                obtain ⟨g64, hf⟩ := hf
                refine gw_icmp_ge F (tgt := 313) dX12_go_290 (by decide) g64 (by decide) (fun c65 => ?_) (fun c65 => ?_)
                · have hf := hf.1 c65
                  refine gw_sub [1, 2, 0, 3] rfl ?_
                  exact J313 s_221 hf
                · have hf := hf.2 c65
                  refine gw_aload_n F 1 rfl rfl (by decide) dX12_go_293 ?_
                  refine gw_ldc2 F (n := 27) kw_1050 rfl dX12_go_294 ?_
                  refine gw_aload_n F 1 rfl rfl (by decide) dX12_go_297 ?_
                  refine gw_get2 F (so_64 hst) (by decide) rfl sg_lay_RX12 (j := 12) (by decide) rfl (host := "") (.inl kw_959) dX12_go_298 (fun h66 => ?_)
                  refine gw_lmul F rfl dX12_go_301 ?_
                  refine gw_iload F 3 rfl dX12_go_302 ?_
                  refine gw_i2l F h47 dX12_go_304 ?_
                  refine gw_ladd F rfl dX12_go_305 ?_
                  refine gw_ldc2 F (n := 96) kw_1051 rfl dX12_go_306 ?_
                  refine gw_lsub F rfl dX12_go_309 ?_
                  obtain ⟨g67, hf⟩ := hf
                  obtain ⟨v68, e69⟩ : ∃ z : Int, z = (((27 * (s_221 64 12)) + (s_221 65 (s_221 64 5))) - 96) := ⟨_, rfl⟩
                  have hf := hf v68 e69
                  refine gw_nmJ e69 ?_
                  obtain ⟨s70, e71⟩ : ∃ z : sg_M, z = sg_up s_221 64 12 v68 := ⟨_, rfl⟩
                  have hf := hf s70 e71
                  refine gw_put2 F (so_64 hst) (by decide) rfl sg_lay_RX12 (j := 12) (by decide) (e69 ▸ g67) e71 tyX12_ok nmX12 rfl (tyX12_ok 12 (by decide)) rfl (host := "") (.inl kw_959) dX12_go_310 ?_
                  refine gw_sub [1, 2, 0, 3] rfl ?_
                  exact J313 s70 hf
              have J277 : (fX12_go_j277  (fX12_go_j278 s_221 (fX12_go_L221 u33 k356 n_221))) → sg_W p l e (sg_rm 2 0 0) s m args below meth c (MQ below (sg_Q (none) G La s.heap.size (sg_HV La Q)) args s 0 0 (sg_A La s.heap.size)) 5 G (sg_A La s.heap.size) La s_221 0 0 277 [(0, sg_r 64), (2, sg_i u33), (4, sg_i (s_221 65 (s_221 64 5)))] [] := by
                intro hf
                unfold fX12_go_j277 at hf
                refine gw_iconst F dX12_go_277 ?_
                refine gw_sub [0, 1, 2] rfl ?_
                exact J278 0 (by decide) hf
              refine gw_if_eq F (tgt := 277) dX12_go_261 (by decide) r3_221 (fun c72 => ?_) (fun c72 => ?_)
              · have hf := hf.1 c72
                refine gw_sub [1, 2, 0] rfl ?_
                exact J277  hf
              · have hf := hf.2 c72
                refine gw_iload F 0 rfl dX12_go_264 ?_
                refine gk_PZ F (gc_S F (S := []) (As := [sg_i (s_221 65 (s_221 64 5))]) (CX12_isLetter h47 hf) kw_1043 kw_103 kw_1041 kw_1042 hcX12_isLetter ⟨by decide, by decide⟩ rfl rfl (Nat.le_of_ble_eq_true rfl) ⟨by decide, by decide⟩ dX12_go_266) (fun u73 h74 hf => ?_)
                refine gw_iload_n F 2 rfl rfl dX12_go_269 ?_
                refine gw_icmp_ne F (tgt := 277) dX12_go_270 (by decide) (sg_B_R h74) (sg_B_R h34) (fun c75 => ?_) (fun c75 => ?_)
                · have hf := hf.1 c75
                  refine gw_sub [1, 2, 0] rfl ?_
                  exact J277  hf
                · have hf := hf.2 c75
                  refine gw_iconst F dX12_go_273 ?_
                  refine gw_goto F (tgt := 278) dX12_go_274 (by decide) ?_
                  refine gw_sub [1, 2, 0] rfl ?_
                  exact J278 1 (by decide) hf
            refine gw_if_ne F (tgt := 249) dX12_go_232 (by decide) (sg_B_R h43) (fun c76 => ?_) (fun c76 => ?_)
            · have hf := hf.1 c76
              refine gw_sub [0, 1, 2] rfl ?_
              exact J249  hf
            · have hf := hf.2 c76
              refine gw_aload_n F 0 rfl rfl (by decide) dX12_go_235 ?_
              refine gw_aload_n F 0 rfl rfl (by decide) dX12_go_236 ?_
              refine gw_get0 F (so_64 hst) (by decide) rfl sg_lay_RX12 (j := 5) (by decide) rfl (host := "") (.inl kw_952) dX12_go_237 (fun h77 => ?_)
              refine gk_PI F (gc_V F (S := []) (As := [sg_i (s_221 64 5)]) (T := TX12) (N := 62) (CX12_byteAt hst h77 hf) (so_64 hst) (by decide) rfl kw_1049 kw_103 kw_1047 kw_1048 kw_44 hcX12_byteAt ⟨by decide, by decide⟩ rfl rfl (Nat.le_of_ble_eq_true rfl) ⟨by decide, by decide⟩ dX12_go_240) (fun u78 h79 hf => ?_)
              refine gk_PZ F (gc_S F (S := []) (As := [sg_i u78]) (CX12_isDigit h79 hf) kw_1046 kw_103 kw_1044 kw_1045 hcX12_isDigit ⟨by decide, by decide⟩ rfl rfl (Nat.le_of_ble_eq_true rfl) ⟨by decide, by decide⟩ dX12_go_243) (fun u80 h81 hf => ?_)
              refine gw_if_eq F (tgt := 356) dX12_go_246 (by decide) (sg_B_R h81) (fun c82 => ?_) (fun c82 => ?_)
              · have hf := hf.1 c82
                refine gw_sub [0, 1, 2] rfl ?_
                exact hk356 s_221 x3_221 r3_221 hf
              · have hf := hf.2 c82
                refine gw_sub [0, 1, 2] rfl ?_
                exact J249  hf
        obtain ⟨n83, hf⟩ := hf
        refine gw_sub [2, 1, 0] rfl ?_
        refine L221 _ (fun s_356e221 x3_356e221 r3_356e221 hf => ?_) n83 s37 1 (by decide) hf
        refine gw_aload_n F 0 rfl rfl (by decide) dX12_go_356 ?_
        refine gw_iload_n F 2 rfl rfl dX12_go_357 ?_
        refine gw_if_eq F (tgt := 383) dX12_go_358 (by decide) r3_356e221 (fun c84 => ?_) (fun c84 => ?_)
        · have hf := hf.1 c84
          refine gw_iconst F dX12_go_383 ?_
          refine gw_goto F (tgt := 396) dX12_go_384 (by decide) ?_
          obtain ⟨s85, e86⟩ : ∃ z : sg_M, z = sg_up s_356e221 64 7 1 := ⟨_, rfl⟩
          have hf := hf s85 e86
          refine gw_put0 F (so_64 hst) (by decide) rfl sg_lay_RX12 (j := 7) (by decide) (by decide) e86 tyX12_ok nmX12 rfl (tyX12_ok 7 (by decide)) rfl (host := "") (.inl kw_954) dX12_go_396 ?_
          exact gr_HV F hf (by decide) (by decide) dX12_go_399
        · have hf := hf.2 c84
          refine gw_aload_n F 0 rfl rfl (by decide) dX12_go_361 ?_
          refine gw_get0 F (so_64 hst) (by decide) rfl sg_lay_RX12 (j := 5) (by decide) rfl (host := "") (.inl kw_952) dX12_go_362 (fun h87 => ?_)
          refine gw_aload_n F 0 rfl rfl (by decide) dX12_go_365 ?_
          refine gw_get0 F (so_64 hst) (by decide) rfl sg_lay_RX12 (j := 6) (by decide) rfl (host := "") (.inl kw_953) dX12_go_366 (fun h88 => ?_)
          refine gw_isub F rfl dX12_go_369 ?_
          refine gw_iload_n F 1 rfl rfl dX12_go_370 ?_
          have J380 : ∀ (y0_380 : Int), sg_R y0_380 → (fX12_go_j380 u33 s_356e221 Q) y0_380 → sg_W p l e (sg_rm 2 0 0) s m args below meth c (MQ below (sg_Q (none) G La s.heap.size (sg_HV La Q)) args s 0 0 (sg_A La s.heap.size)) 5 G (sg_A La s.heap.size) La s_356e221 0 0 380 [(2, sg_i u33)] [sg_i y0_380, sg_i ((s_356e221 64 5) - (s_356e221 64 6)), sg_r 64] := by
            intro y0_380 ry0_380 hf
            unfold fX12_go_j380 at hf
            obtain ⟨g89, hf⟩ := hf
            refine gw_icmp_le F (tgt := 387) dX12_go_380 (by decide) g89 ry0_380 (fun c90 => ?_) (fun c90 => ?_)
            · have hf := hf.1 c90
              refine gw_iload_n F 0 rfl rfl dX12_go_387 ?_
              refine gw_if_eq F (tgt := 395) dX12_go_388 (by decide) (sg_B_R h34) (fun c91 => ?_) (fun c91 => ?_)
              · have hf := hf.1 c91
                refine gw_iconst F dX12_go_395 ?_
                obtain ⟨s92, e93⟩ : ∃ z : sg_M, z = sg_up s_356e221 64 7 3 := ⟨_, rfl⟩
                have hf := hf s92 e93
                refine gw_put0 F (so_64 hst) (by decide) rfl sg_lay_RX12 (j := 7) (by decide) (by decide) e93 tyX12_ok nmX12 rfl (tyX12_ok 7 (by decide)) rfl (host := "") (.inl kw_954) dX12_go_396 ?_
                exact gr_HV F hf (by decide) (by decide) dX12_go_399
              · have hf := hf.2 c91
                refine gw_iconst F dX12_go_391 ?_
                refine gw_goto F (tgt := 396) dX12_go_392 (by decide) ?_
                obtain ⟨s94, e95⟩ : ∃ z : sg_M, z = sg_up s_356e221 64 7 2 := ⟨_, rfl⟩
                have hf := hf s94 e95
                refine gw_put0 F (so_64 hst) (by decide) rfl sg_lay_RX12 (j := 7) (by decide) (by decide) e95 tyX12_ok nmX12 rfl (tyX12_ok 7 (by decide)) rfl (host := "") (.inl kw_954) dX12_go_396 ?_
                exact gr_HV F hf (by decide) (by decide) dX12_go_399
            · have hf := hf.2 c90
              refine gw_iconst F dX12_go_383 ?_
              refine gw_goto F (tgt := 396) dX12_go_384 (by decide) ?_
              obtain ⟨s96, e97⟩ : ∃ z : sg_M, z = sg_up s_356e221 64 7 1 := ⟨_, rfl⟩
              have hf := hf s96 e97
              refine gw_put0 F (so_64 hst) (by decide) rfl sg_lay_RX12 (j := 7) (by decide) (by decide) e97 tyX12_ok nmX12 rfl (tyX12_ok 7 (by decide)) rfl (host := "") (.inl kw_954) dX12_go_396 ?_
              exact gr_HV F hf (by decide) (by decide) dX12_go_399
          refine gw_if_eq F (tgt := 379) dX12_go_371 (by decide) (sg_B_R h34) (fun c98 => ?_) (fun c98 => ?_)
          · have hf := hf.1 c98
            refine gw_iconst F dX12_go_379 ?_
            refine gw_sub [1] rfl ?_
            exact J380 4 (by decide) hf
          · have hf := hf.2 c98
            refine gw_bipush F rfl dX12_go_374 ?_
            refine gw_goto F (tgt := 380) dX12_go_376 (by decide) ?_
            refine gw_sub [1] rfl ?_
            exact J380 6 (by decide) hf
      refine gw_if_ne F (tgt := 204) dX12_go_127 (by decide) (sg_B_R h32) (fun c99 => ?_) (fun c99 => ?_)
      · have hf := hf.1 c99
        refine gw_sub [1, 0] rfl ?_
        exact J204  hf
      · have hf := hf.2 c99
        refine gw_iload_n F 0 rfl rfl dX12_go_130 ?_
        refine gk_PZ F (gc_S F (S := []) (As := [sg_i (s20 65 (s20 64 5))]) (CX12_isDigit h30 hf) kw_1046 kw_103 kw_1044 kw_1045 hcX12_isDigit ⟨by decide, by decide⟩ rfl rfl (Nat.le_of_ble_eq_true rfl) ⟨by decide, by decide⟩ dX12_go_131) (fun u100 h101 hf => ?_)
        refine gw_if_ne F (tgt := 204) dX12_go_134 (by decide) (sg_B_R h101) (fun c102 => ?_) (fun c102 => ?_)
        · have hf := hf.1 c102
          refine gw_sub [1, 0] rfl ?_
          exact J204  hf
        · have hf := hf.2 c102
          refine gw_aload_n F 1 rfl rfl (by decide) dX12_go_137 ?_
          refine gw_iload_n F 0 rfl rfl dX12_go_138 ?_
          refine gw_bipush F rfl dX12_go_139 ?_
          refine gw_icmp_eq F (tgt := 180) dX12_go_141 (by decide) h30 (by decide) (fun c103 => ?_) (fun c103 => ?_)
          · have hf := hf.1 c103
            refine gw_iconst F dX12_go_180 ?_
            refine gw_goto F (tgt := 185) dX12_go_181 (by decide) ?_
            obtain ⟨s104, e105⟩ : ∃ z : sg_M, z = sg_up s20 64 7 4 := ⟨_, rfl⟩
            have hf := hf s104 e105
            refine gw_put0 F (so_64 hst) (by decide) rfl sg_lay_RX12 (j := 7) (by decide) (by decide) e105 tyX12_ok nmX12 rfl (tyX12_ok 7 (by decide)) rfl (host := "") (.inl kw_954) dX12_go_185 ?_
            refine gw_aload_n F 1 rfl rfl (by decide) dX12_go_188 ?_
            refine gw_iload_n F 0 rfl rfl dX12_go_189 ?_
            obtain ⟨s106, e107⟩ : ∃ z : sg_M, z = sg_up s104 64 9 (s20 65 (s20 64 5)) := ⟨_, rfl⟩
            have hf := hf s106 e107
            refine gw_put0 F (so_64 hst) (by decide) rfl sg_lay_RX12 (j := 9) (by decide) h30 e107 tyX12_ok nmX12 rfl (tyX12_ok 9 (by decide)) rfl (host := "") (.inl kw_956) dX12_go_190 ?_
            refine gw_aload_n F 1 rfl rfl (by decide) dX12_go_193 ?_
            refine gw_dup F rfl dX12_go_194 ?_
            refine gw_get0 F (so_64 hst) (by decide) rfl sg_lay_RX12 (j := 5) (by decide) rfl (host := "") (.inl kw_952) dX12_go_195 (fun h108 => ?_)
            refine gw_iconst F dX12_go_198 ?_
            refine gw_iadd F rfl dX12_go_199 ?_
            obtain ⟨g109, hf⟩ := hf
            obtain ⟨s110, e111⟩ : ∃ z : sg_M, z = sg_up s106 64 5 ((s106 64 5) + 1) := ⟨_, rfl⟩
            have hf := hf s110 e111
            refine gw_put0 F (so_64 hst) (by decide) rfl sg_lay_RX12 (j := 5) (by decide) g109 e111 tyX12_ok nmX12 rfl (tyX12_ok 5 (by decide)) rfl (host := "") (.inl kw_952) dX12_go_200 ?_
            exact gr_HV F hf (by decide) (by decide) dX12_go_203
          · have hf := hf.2 c103
            refine gw_iload_n F 0 rfl rfl dX12_go_144 ?_
            refine gw_bipush F rfl dX12_go_145 ?_
            refine gw_icmp_eq F (tgt := 180) dX12_go_147 (by decide) h30 (by decide) (fun c112 => ?_) (fun c112 => ?_)
            · have hf := hf.1 c112
              refine gw_iconst F dX12_go_180 ?_
              refine gw_goto F (tgt := 185) dX12_go_181 (by decide) ?_
              obtain ⟨s113, e114⟩ : ∃ z : sg_M, z = sg_up s20 64 7 4 := ⟨_, rfl⟩
              have hf := hf s113 e114
              refine gw_put0 F (so_64 hst) (by decide) rfl sg_lay_RX12 (j := 7) (by decide) (by decide) e114 tyX12_ok nmX12 rfl (tyX12_ok 7 (by decide)) rfl (host := "") (.inl kw_954) dX12_go_185 ?_
              refine gw_aload_n F 1 rfl rfl (by decide) dX12_go_188 ?_
              refine gw_iload_n F 0 rfl rfl dX12_go_189 ?_
              obtain ⟨s115, e116⟩ : ∃ z : sg_M, z = sg_up s113 64 9 (s20 65 (s20 64 5)) := ⟨_, rfl⟩
              have hf := hf s115 e116
              refine gw_put0 F (so_64 hst) (by decide) rfl sg_lay_RX12 (j := 9) (by decide) h30 e116 tyX12_ok nmX12 rfl (tyX12_ok 9 (by decide)) rfl (host := "") (.inl kw_956) dX12_go_190 ?_
              refine gw_aload_n F 1 rfl rfl (by decide) dX12_go_193 ?_
              refine gw_dup F rfl dX12_go_194 ?_
              refine gw_get0 F (so_64 hst) (by decide) rfl sg_lay_RX12 (j := 5) (by decide) rfl (host := "") (.inl kw_952) dX12_go_195 (fun h117 => ?_)
              refine gw_iconst F dX12_go_198 ?_
              refine gw_iadd F rfl dX12_go_199 ?_
              obtain ⟨g118, hf⟩ := hf
              obtain ⟨s119, e120⟩ : ∃ z : sg_M, z = sg_up s115 64 5 ((s115 64 5) + 1) := ⟨_, rfl⟩
              have hf := hf s119 e120
              refine gw_put0 F (so_64 hst) (by decide) rfl sg_lay_RX12 (j := 5) (by decide) g118 e120 tyX12_ok nmX12 rfl (tyX12_ok 5 (by decide)) rfl (host := "") (.inl kw_952) dX12_go_200 ?_
              exact gr_HV F hf (by decide) (by decide) dX12_go_203
            · have hf := hf.2 c112
              refine gw_iload_n F 0 rfl rfl dX12_go_150 ?_
              refine gw_bipush F rfl dX12_go_151 ?_
              refine gw_icmp_eq F (tgt := 180) dX12_go_153 (by decide) h30 (by decide) (fun c121 => ?_) (fun c121 => ?_)
              · have hf := hf.1 c121
                refine gw_iconst F dX12_go_180 ?_
                refine gw_goto F (tgt := 185) dX12_go_181 (by decide) ?_
                obtain ⟨s122, e123⟩ : ∃ z : sg_M, z = sg_up s20 64 7 4 := ⟨_, rfl⟩
                have hf := hf s122 e123
                refine gw_put0 F (so_64 hst) (by decide) rfl sg_lay_RX12 (j := 7) (by decide) (by decide) e123 tyX12_ok nmX12 rfl (tyX12_ok 7 (by decide)) rfl (host := "") (.inl kw_954) dX12_go_185 ?_
                refine gw_aload_n F 1 rfl rfl (by decide) dX12_go_188 ?_
                refine gw_iload_n F 0 rfl rfl dX12_go_189 ?_
                obtain ⟨s124, e125⟩ : ∃ z : sg_M, z = sg_up s122 64 9 (s20 65 (s20 64 5)) := ⟨_, rfl⟩
                have hf := hf s124 e125
                refine gw_put0 F (so_64 hst) (by decide) rfl sg_lay_RX12 (j := 9) (by decide) h30 e125 tyX12_ok nmX12 rfl (tyX12_ok 9 (by decide)) rfl (host := "") (.inl kw_956) dX12_go_190 ?_
                refine gw_aload_n F 1 rfl rfl (by decide) dX12_go_193 ?_
                refine gw_dup F rfl dX12_go_194 ?_
                refine gw_get0 F (so_64 hst) (by decide) rfl sg_lay_RX12 (j := 5) (by decide) rfl (host := "") (.inl kw_952) dX12_go_195 (fun h126 => ?_)
                refine gw_iconst F dX12_go_198 ?_
                refine gw_iadd F rfl dX12_go_199 ?_
                obtain ⟨g127, hf⟩ := hf
                obtain ⟨s128, e129⟩ : ∃ z : sg_M, z = sg_up s124 64 5 ((s124 64 5) + 1) := ⟨_, rfl⟩
                have hf := hf s128 e129
                refine gw_put0 F (so_64 hst) (by decide) rfl sg_lay_RX12 (j := 5) (by decide) g127 e129 tyX12_ok nmX12 rfl (tyX12_ok 5 (by decide)) rfl (host := "") (.inl kw_952) dX12_go_200 ?_
                exact gr_HV F hf (by decide) (by decide) dX12_go_203
              · have hf := hf.2 c121
                refine gw_iload_n F 0 rfl rfl dX12_go_156 ?_
                refine gw_bipush F rfl dX12_go_157 ?_
                refine gw_icmp_eq F (tgt := 180) dX12_go_159 (by decide) h30 (by decide) (fun c130 => ?_) (fun c130 => ?_)
                · have hf := hf.1 c130
                  refine gw_iconst F dX12_go_180 ?_
                  refine gw_goto F (tgt := 185) dX12_go_181 (by decide) ?_
                  obtain ⟨s131, e132⟩ : ∃ z : sg_M, z = sg_up s20 64 7 4 := ⟨_, rfl⟩
                  have hf := hf s131 e132
                  refine gw_put0 F (so_64 hst) (by decide) rfl sg_lay_RX12 (j := 7) (by decide) (by decide) e132 tyX12_ok nmX12 rfl (tyX12_ok 7 (by decide)) rfl (host := "") (.inl kw_954) dX12_go_185 ?_
                  refine gw_aload_n F 1 rfl rfl (by decide) dX12_go_188 ?_
                  refine gw_iload_n F 0 rfl rfl dX12_go_189 ?_
                  obtain ⟨s133, e134⟩ : ∃ z : sg_M, z = sg_up s131 64 9 (s20 65 (s20 64 5)) := ⟨_, rfl⟩
                  have hf := hf s133 e134
                  refine gw_put0 F (so_64 hst) (by decide) rfl sg_lay_RX12 (j := 9) (by decide) h30 e134 tyX12_ok nmX12 rfl (tyX12_ok 9 (by decide)) rfl (host := "") (.inl kw_956) dX12_go_190 ?_
                  refine gw_aload_n F 1 rfl rfl (by decide) dX12_go_193 ?_
                  refine gw_dup F rfl dX12_go_194 ?_
                  refine gw_get0 F (so_64 hst) (by decide) rfl sg_lay_RX12 (j := 5) (by decide) rfl (host := "") (.inl kw_952) dX12_go_195 (fun h135 => ?_)
                  refine gw_iconst F dX12_go_198 ?_
                  refine gw_iadd F rfl dX12_go_199 ?_
                  obtain ⟨g136, hf⟩ := hf
                  obtain ⟨s137, e138⟩ : ∃ z : sg_M, z = sg_up s133 64 5 ((s133 64 5) + 1) := ⟨_, rfl⟩
                  have hf := hf s137 e138
                  refine gw_put0 F (so_64 hst) (by decide) rfl sg_lay_RX12 (j := 5) (by decide) g136 e138 tyX12_ok nmX12 rfl (tyX12_ok 5 (by decide)) rfl (host := "") (.inl kw_952) dX12_go_200 ?_
                  exact gr_HV F hf (by decide) (by decide) dX12_go_203
                · have hf := hf.2 c130
                  refine gw_iload_n F 0 rfl rfl dX12_go_162 ?_
                  refine gw_bipush F rfl dX12_go_163 ?_
                  refine gw_icmp_eq F (tgt := 180) dX12_go_165 (by decide) h30 (by decide) (fun c139 => ?_) (fun c139 => ?_)
                  · have hf := hf.1 c139
                    refine gw_iconst F dX12_go_180 ?_
                    refine gw_goto F (tgt := 185) dX12_go_181 (by decide) ?_
                    obtain ⟨s140, e141⟩ : ∃ z : sg_M, z = sg_up s20 64 7 4 := ⟨_, rfl⟩
                    have hf := hf s140 e141
                    refine gw_put0 F (so_64 hst) (by decide) rfl sg_lay_RX12 (j := 7) (by decide) (by decide) e141 tyX12_ok nmX12 rfl (tyX12_ok 7 (by decide)) rfl (host := "") (.inl kw_954) dX12_go_185 ?_
                    refine gw_aload_n F 1 rfl rfl (by decide) dX12_go_188 ?_
                    refine gw_iload_n F 0 rfl rfl dX12_go_189 ?_
                    obtain ⟨s142, e143⟩ : ∃ z : sg_M, z = sg_up s140 64 9 (s20 65 (s20 64 5)) := ⟨_, rfl⟩
                    have hf := hf s142 e143
                    refine gw_put0 F (so_64 hst) (by decide) rfl sg_lay_RX12 (j := 9) (by decide) h30 e143 tyX12_ok nmX12 rfl (tyX12_ok 9 (by decide)) rfl (host := "") (.inl kw_956) dX12_go_190 ?_
                    refine gw_aload_n F 1 rfl rfl (by decide) dX12_go_193 ?_
                    refine gw_dup F rfl dX12_go_194 ?_
                    refine gw_get0 F (so_64 hst) (by decide) rfl sg_lay_RX12 (j := 5) (by decide) rfl (host := "") (.inl kw_952) dX12_go_195 (fun h144 => ?_)
                    refine gw_iconst F dX12_go_198 ?_
                    refine gw_iadd F rfl dX12_go_199 ?_
                    obtain ⟨g145, hf⟩ := hf
                    obtain ⟨s146, e147⟩ : ∃ z : sg_M, z = sg_up s142 64 5 ((s142 64 5) + 1) := ⟨_, rfl⟩
                    have hf := hf s146 e147
                    refine gw_put0 F (so_64 hst) (by decide) rfl sg_lay_RX12 (j := 5) (by decide) g145 e147 tyX12_ok nmX12 rfl (tyX12_ok 5 (by decide)) rfl (host := "") (.inl kw_952) dX12_go_200 ?_
                    exact gr_HV F hf (by decide) (by decide) dX12_go_203
                  · have hf := hf.2 c139
                    refine gw_iload_n F 0 rfl rfl dX12_go_168 ?_
                    refine gw_bipush F rfl dX12_go_169 ?_
                    refine gw_icmp_eq F (tgt := 180) dX12_go_171 (by decide) h30 (by decide) (fun c148 => ?_) (fun c148 => ?_)
                    · have hf := hf.1 c148
                      refine gw_iconst F dX12_go_180 ?_
                      refine gw_goto F (tgt := 185) dX12_go_181 (by decide) ?_
                      obtain ⟨s149, e150⟩ : ∃ z : sg_M, z = sg_up s20 64 7 4 := ⟨_, rfl⟩
                      have hf := hf s149 e150
                      refine gw_put0 F (so_64 hst) (by decide) rfl sg_lay_RX12 (j := 7) (by decide) (by decide) e150 tyX12_ok nmX12 rfl (tyX12_ok 7 (by decide)) rfl (host := "") (.inl kw_954) dX12_go_185 ?_
                      refine gw_aload_n F 1 rfl rfl (by decide) dX12_go_188 ?_
                      refine gw_iload_n F 0 rfl rfl dX12_go_189 ?_
                      obtain ⟨s151, e152⟩ : ∃ z : sg_M, z = sg_up s149 64 9 (s20 65 (s20 64 5)) := ⟨_, rfl⟩
                      have hf := hf s151 e152
                      refine gw_put0 F (so_64 hst) (by decide) rfl sg_lay_RX12 (j := 9) (by decide) h30 e152 tyX12_ok nmX12 rfl (tyX12_ok 9 (by decide)) rfl (host := "") (.inl kw_956) dX12_go_190 ?_
                      refine gw_aload_n F 1 rfl rfl (by decide) dX12_go_193 ?_
                      refine gw_dup F rfl dX12_go_194 ?_
                      refine gw_get0 F (so_64 hst) (by decide) rfl sg_lay_RX12 (j := 5) (by decide) rfl (host := "") (.inl kw_952) dX12_go_195 (fun h153 => ?_)
                      refine gw_iconst F dX12_go_198 ?_
                      refine gw_iadd F rfl dX12_go_199 ?_
                      obtain ⟨g154, hf⟩ := hf
                      obtain ⟨s155, e156⟩ : ∃ z : sg_M, z = sg_up s151 64 5 ((s151 64 5) + 1) := ⟨_, rfl⟩
                      have hf := hf s155 e156
                      refine gw_put0 F (so_64 hst) (by decide) rfl sg_lay_RX12 (j := 5) (by decide) g154 e156 tyX12_ok nmX12 rfl (tyX12_ok 5 (by decide)) rfl (host := "") (.inl kw_952) dX12_go_200 ?_
                      exact gr_HV F hf (by decide) (by decide) dX12_go_203
                    · have hf := hf.2 c148
                      refine gw_iload_n F 0 rfl rfl dX12_go_174 ?_
                      refine gw_bipush F rfl dX12_go_175 ?_
                      refine gw_icmp_ne F (tgt := 184) dX12_go_177 (by decide) h30 (by decide) (fun c157 => ?_) (fun c157 => ?_)
                      · have hf := hf.1 c157
                        refine gw_iconst F dX12_go_184 ?_
                        obtain ⟨s158, e159⟩ : ∃ z : sg_M, z = sg_up s20 64 7 1 := ⟨_, rfl⟩
                        have hf := hf s158 e159
                        refine gw_put0 F (so_64 hst) (by decide) rfl sg_lay_RX12 (j := 7) (by decide) (by decide) e159 tyX12_ok nmX12 rfl (tyX12_ok 7 (by decide)) rfl (host := "") (.inl kw_954) dX12_go_185 ?_
                        refine gw_aload_n F 1 rfl rfl (by decide) dX12_go_188 ?_
                        refine gw_iload_n F 0 rfl rfl dX12_go_189 ?_
                        obtain ⟨s160, e161⟩ : ∃ z : sg_M, z = sg_up s158 64 9 (s20 65 (s20 64 5)) := ⟨_, rfl⟩
                        have hf := hf s160 e161
                        refine gw_put0 F (so_64 hst) (by decide) rfl sg_lay_RX12 (j := 9) (by decide) h30 e161 tyX12_ok nmX12 rfl (tyX12_ok 9 (by decide)) rfl (host := "") (.inl kw_956) dX12_go_190 ?_
                        refine gw_aload_n F 1 rfl rfl (by decide) dX12_go_193 ?_
                        refine gw_dup F rfl dX12_go_194 ?_
                        refine gw_get0 F (so_64 hst) (by decide) rfl sg_lay_RX12 (j := 5) (by decide) rfl (host := "") (.inl kw_952) dX12_go_195 (fun h162 => ?_)
                        refine gw_iconst F dX12_go_198 ?_
                        refine gw_iadd F rfl dX12_go_199 ?_
                        obtain ⟨g163, hf⟩ := hf
                        obtain ⟨s164, e165⟩ : ∃ z : sg_M, z = sg_up s160 64 5 ((s160 64 5) + 1) := ⟨_, rfl⟩
                        have hf := hf s164 e165
                        refine gw_put0 F (so_64 hst) (by decide) rfl sg_lay_RX12 (j := 5) (by decide) g163 e165 tyX12_ok nmX12 rfl (tyX12_ok 5 (by decide)) rfl (host := "") (.inl kw_952) dX12_go_200 ?_
                        exact gr_HV F hf (by decide) (by decide) dX12_go_203
                      · have hf := hf.2 c157
                        refine gw_iconst F dX12_go_180 ?_
                        refine gw_goto F (tgt := 185) dX12_go_181 (by decide) ?_
                        obtain ⟨s166, e167⟩ : ∃ z : sg_M, z = sg_up s20 64 7 4 := ⟨_, rfl⟩
                        have hf := hf s166 e167
                        refine gw_put0 F (so_64 hst) (by decide) rfl sg_lay_RX12 (j := 7) (by decide) (by decide) e167 tyX12_ok nmX12 rfl (tyX12_ok 7 (by decide)) rfl (host := "") (.inl kw_954) dX12_go_185 ?_
                        refine gw_aload_n F 1 rfl rfl (by decide) dX12_go_188 ?_
                        refine gw_iload_n F 0 rfl rfl dX12_go_189 ?_
                        obtain ⟨s168, e169⟩ : ∃ z : sg_M, z = sg_up s166 64 9 (s20 65 (s20 64 5)) := ⟨_, rfl⟩
                        have hf := hf s168 e169
                        refine gw_put0 F (so_64 hst) (by decide) rfl sg_lay_RX12 (j := 9) (by decide) h30 e169 tyX12_ok nmX12 rfl (tyX12_ok 9 (by decide)) rfl (host := "") (.inl kw_956) dX12_go_190 ?_
                        refine gw_aload_n F 1 rfl rfl (by decide) dX12_go_193 ?_
                        refine gw_dup F rfl dX12_go_194 ?_
                        refine gw_get0 F (so_64 hst) (by decide) rfl sg_lay_RX12 (j := 5) (by decide) rfl (host := "") (.inl kw_952) dX12_go_195 (fun h170 => ?_)
                        refine gw_iconst F dX12_go_198 ?_
                        refine gw_iadd F rfl dX12_go_199 ?_
                        obtain ⟨g171, hf⟩ := hf
                        obtain ⟨s172, e173⟩ : ∃ z : sg_M, z = sg_up s168 64 5 ((s168 64 5) + 1) := ⟨_, rfl⟩
                        have hf := hf s172 e173
                        refine gw_put0 F (so_64 hst) (by decide) rfl sg_lay_RX12 (j := 5) (by decide) g171 e173 tyX12_ok nmX12 rfl (tyX12_ok 5 (by decide)) rfl (host := "") (.inl kw_952) dX12_go_200 ?_
                        exact gr_HV F hf (by decide) (by decide) dX12_go_203
    · have hf := hf.2 c26
      refine gw_aload_n F 0 rfl rfl (by decide) dX12_go_107 ?_
      refine gw_iconst F dX12_go_108 ?_
      obtain ⟨s174, e175⟩ : ∃ z : sg_M, z = sg_up s20 64 7 0 := ⟨_, rfl⟩
      have hf := hf s174 e175
      refine gw_put0 F (so_64 hst) (by decide) rfl sg_lay_RX12 (j := 7) (by decide) (by decide) e175 tyX12_ok nmX12 rfl (tyX12_ok 7 (by decide)) rfl (host := "") (.inl kw_954) dX12_go_109 ?_
      exact gr_HV F hf (by decide) (by decide) dX12_go_112
  refine gw_icmp_le F (tgt := 96) dX12_go_68 (by decide) h22 h23 (fun c176 => ?_) (fun c176 => ?_)
  · have hf := hf.1 c176
    refine gw_sub [0] rfl ?_
    exact J96  hf
  · have hf := hf.2 c176
    refine gw_aload_n F 0 rfl rfl (by decide) dX12_go_71 ?_
    refine gw_get0 F (so_64 hst) (by decide) rfl sg_lay_RX12 (j := 6) (by decide) rfl (host := "") (.inl kw_953) dX12_go_72 (fun h177 => ?_)
    refine gw_aload_n F 0 rfl rfl (by decide) dX12_go_75 ?_
    refine gw_get0 F (so_64 hst) (by decide) rfl sg_lay_RX12 (j := 4) (by decide) rfl (host := "") (.inl kw_951) dX12_go_76 (fun h178 => ?_)
    refine gw_icmp_lt F (tgt := 96) dX12_go_79 (by decide) h177 h178 (fun c179 => ?_) (fun c179 => ?_)
    · have hf := hf.1 c179
      refine gw_sub [0] rfl ?_
      exact J96  hf
    · have hf := hf.2 c179
      refine gw_aload_n F 0 rfl rfl (by decide) dX12_go_82 ?_
      refine gw_aload_n F 0 rfl rfl (by decide) dX12_go_83 ?_
      refine gw_get0 F (so_64 hst) (by decide) rfl sg_lay_RX12 (j := 4) (by decide) rfl (host := "") (.inl kw_951) dX12_go_84 (fun h180 => ?_)
      obtain ⟨s181, e182⟩ : ∃ z : sg_M, z = sg_up s20 64 6 (s20 64 4) := ⟨_, rfl⟩
      have hf := hf s181 e182
      refine gw_put0 F (so_64 hst) (by decide) rfl sg_lay_RX12 (j := 6) (by decide) h180 e182 tyX12_ok nmX12 rfl (tyX12_ok 6 (by decide)) rfl (host := "") (.inl kw_953) dX12_go_87 ?_
      refine gw_aload_n F 0 rfl rfl (by decide) dX12_go_90 ?_
      refine gw_iconst F dX12_go_91 ?_
      obtain ⟨s183, e184⟩ : ∃ z : sg_M, z = sg_up s181 64 7 1 := ⟨_, rfl⟩
      have hf := hf s183 e184
      refine gw_put0 F (so_64 hst) (by decide) rfl sg_lay_RX12 (j := 7) (by decide) (by decide) e184 tyX12_ok nmX12 rfl (tyX12_ok 7 (by decide)) rfl (host := "") (.inl kw_954) dX12_go_92 ?_
      exact gr_HV F hf (by decide) (by decide) dX12_go_95

theorem dX12_on_0 : decode cX12_on 0 = .ok (.ldc2_w 130, 3) := by decide +kernel
theorem dX12_on_3 : decode cX12_on 3 = .ok (.lload_n 0, 1) := by decide +kernel
theorem dX12_on_4 : decode cX12_on 4 = .ok (.lmul, 1) := by decide +kernel
theorem dX12_on_5 : decode cX12_on 5 = .ok (.iload_n 2, 1) := by decide +kernel
theorem dX12_on_6 : decode cX12_on 6 = .ok (.i2l, 1) := by decide +kernel
theorem dX12_on_7 : decode cX12_on 7 = .ok (.ladd, 1) := by decide +kernel
theorem dX12_on_8 : decode cX12_on 8 = .ok (.ldc2_w 132, 3) := by decide +kernel
theorem dX12_on_11 : decode cX12_on 11 = .ok (.lsub, 1) := by decide +kernel
theorem dX12_on_12 : decode cX12_on 12 = .ok (.lstore 4, 2) := by decide +kernel
theorem dX12_on_14 : decode cX12_on 14 = .ok (.iload_n 3, 1) := by decide +kernel
theorem dX12_on_15 : decode cX12_on 15 = .ok (.ifCond .le 19, 3) := by decide +kernel
theorem dX12_on_18 : decode cX12_on 18 = .ok (.ldc2_w 130, 3) := by decide +kernel
theorem dX12_on_21 : decode cX12_on 21 = .ok (.lload 4, 2) := by decide +kernel
theorem dX12_on_23 : decode cX12_on 23 = .ok (.lmul, 1) := by decide +kernel
theorem dX12_on_24 : decode cX12_on 24 = .ok (.iload_n 3, 1) := by decide +kernel
theorem dX12_on_25 : decode cX12_on 25 = .ok (.i2l, 1) := by decide +kernel
theorem dX12_on_26 : decode cX12_on 26 = .ok (.ladd, 1) := by decide +kernel
theorem dX12_on_27 : decode cX12_on 27 = .ok (.ldc2_w 132, 3) := by decide +kernel
theorem dX12_on_30 : decode cX12_on 30 = .ok (.lsub, 1) := by decide +kernel
theorem dX12_on_31 : decode cX12_on 31 = .ok (.goto 5, 3) := by decide +kernel
theorem dX12_on_34 : decode cX12_on 34 = .ok (.lload 4, 2) := by decide +kernel
theorem dX12_on_36 : decode cX12_on 36 = .ok (.lreturn, 1) := by decide +kernel
theorem hcX12_on : yX12_on.cls ≠ "java/lang/invoke/MethodHandle" ∧ yX12_on.cls ≠ "java/lang/invoke/VarHandle" ∧ (parseMethodDescriptor yX12_on.desc).map (fun d => d.parameters.length) = some 3 := ⟨by decide +kernel, by decide +kernel, by decide +kernel⟩
def fX12_on (x0 : Int) (x2 : Int) (x3 : Int) (Q : Int → Prop) : Prop := ((x3 ≤ 0 → sg_R64 (((27 * x0) + x2) - 96) ∧ Q (((27 * x0) + x2) - 96)) ∧ (¬ (x3 ≤ 0) → sg_R64 (((27 * (((27 * x0) + x2) - 96)) + x3) - 96) ∧ Q (((27 * (((27 * x0) + x2) - 96)) + x3) - 96)))
set_option maxHeartbeats 4000000 in
set_option maxRecDepth 100000 in
theorem CX12_on {l : Launch} {G : sg_G} {La : sg_L} {s0 : sg_M} {x0 : Int} (r0 : sg_R64 x0) {x2 : Int} (r2 : sg_R x2) {x3 : Int} (r3 : sg_R x3) {Q : Int → Prop} (hf : fX12_on x0 x2 x3 Q) : sg_C l G yX12_on cX12_on 6 (some .long) 1 0 0 La s0 [sg_l x0, sg_i x2, sg_i x3] (sg_PJ La s0 Q) := by
  refine sg_body (by decide +kernel) (Nat.le_of_ble_eq_true rfl) ?_
  intro p e s m args below meth c F hnm
  unfold fX12_on at hf
  show sg_W p l e (sg_rm 1 0 0) s m args below meth c (MQ below (sg_Q (some .long) G La s.heap.size (sg_PJ La s0 Q)) args s 0 0 (sg_A La s.heap.size)) 6 G (sg_A La s.heap.size) La s0 0 0 0 [(0, sg_l x0), (2, sg_i x2), (3, sg_i x3)] []
  refine gw_ldc2 F (n := 27) kw_1050 rfl dX12_on_0 ?_
  refine gw_lload_n F 0 rfl rfl dX12_on_3 ?_
  refine gw_lmul F rfl dX12_on_4 ?_
  refine gw_iload_n F 1 rfl rfl dX12_on_5 ?_
  refine gw_i2l F r2 dX12_on_6 ?_
  refine gw_ladd F rfl dX12_on_7 ?_
  refine gw_ldc2 F (n := 96) kw_1051 rfl dX12_on_8 ?_
  refine gw_lsub F rfl dX12_on_11 ?_
  refine gw_lstore F (by decide) rfl dX12_on_12 ?_
  refine gw_iload_n F 3 rfl rfl dX12_on_14 ?_
  refine gw_if_le F (tgt := 34) dX12_on_15 (by decide) r3 (fun c1 => ?_) (fun c1 => ?_)
  · have hf := hf.1 c1
    refine gw_lload F 0 rfl dX12_on_34 ?_
    obtain ⟨g2, hf⟩ := hf
    exact gr_PJ F g2 hf (by decide) (by decide) dX12_on_36
  · have hf := hf.2 c1
    refine gw_ldc2 F (n := 27) kw_1050 rfl dX12_on_18 ?_
    refine gw_lload F 0 rfl dX12_on_21 ?_
    refine gw_lmul F rfl dX12_on_23 ?_
    refine gw_iload_n F 3 rfl rfl dX12_on_24 ?_
    refine gw_i2l F r3 dX12_on_25 ?_
    refine gw_ladd F rfl dX12_on_26 ?_
    refine gw_ldc2 F (n := 96) kw_1051 rfl dX12_on_27 ?_
    refine gw_lsub F rfl dX12_on_30 ?_
    refine gw_goto F (tgt := 36) dX12_on_31 (by decide) ?_
    obtain ⟨g3, hf⟩ := hf
    exact gr_PJ F g3 hf (by decide) (by decide) dX12_on_36

theorem dX12_spelt_0 : decode cX12_spelt 0 = .ok (.ldc2_w 130, 3) := by decide +kernel
theorem dX12_spelt_3 : decode cX12_spelt 3 = .ok (.iload_n 0, 1) := by decide +kernel
theorem dX12_spelt_4 : decode cX12_spelt 4 = .ok (.i2l, 1) := by decide +kernel
theorem dX12_spelt_5 : decode cX12_spelt 5 = .ok (.ldc2_w 132, 3) := by decide +kernel
theorem dX12_spelt_8 : decode cX12_spelt 8 = .ok (.lsub, 1) := by decide +kernel
theorem dX12_spelt_9 : decode cX12_spelt 9 = .ok (.lmul, 1) := by decide +kernel
theorem dX12_spelt_10 : decode cX12_spelt 10 = .ok (.iload_n 1, 1) := by decide +kernel
theorem dX12_spelt_11 : decode cX12_spelt 11 = .ok (.i2l, 1) := by decide +kernel
theorem dX12_spelt_12 : decode cX12_spelt 12 = .ok (.ladd, 1) := by decide +kernel
theorem dX12_spelt_13 : decode cX12_spelt 13 = .ok (.ldc2_w 132, 3) := by decide +kernel
theorem dX12_spelt_16 : decode cX12_spelt 16 = .ok (.lsub, 1) := by decide +kernel
theorem dX12_spelt_17 : decode cX12_spelt 17 = .ok (.lstore 4, 2) := by decide +kernel
theorem dX12_spelt_19 : decode cX12_spelt 19 = .ok (.iload_n 2, 1) := by decide +kernel
theorem dX12_spelt_20 : decode cX12_spelt 20 = .ok (.ifCond .le 18, 3) := by decide +kernel
theorem dX12_spelt_23 : decode cX12_spelt 23 = .ok (.ldc2_w 130, 3) := by decide +kernel
theorem dX12_spelt_26 : decode cX12_spelt 26 = .ok (.lload 4, 2) := by decide +kernel
theorem dX12_spelt_28 : decode cX12_spelt 28 = .ok (.lmul, 1) := by decide +kernel
theorem dX12_spelt_29 : decode cX12_spelt 29 = .ok (.iload_n 2, 1) := by decide +kernel
theorem dX12_spelt_30 : decode cX12_spelt 30 = .ok (.i2l, 1) := by decide +kernel
theorem dX12_spelt_31 : decode cX12_spelt 31 = .ok (.ladd, 1) := by decide +kernel
theorem dX12_spelt_32 : decode cX12_spelt 32 = .ok (.ldc2_w 132, 3) := by decide +kernel
theorem dX12_spelt_35 : decode cX12_spelt 35 = .ok (.lsub, 1) := by decide +kernel
theorem dX12_spelt_36 : decode cX12_spelt 36 = .ok (.lstore 4, 2) := by decide +kernel
theorem dX12_spelt_38 : decode cX12_spelt 38 = .ok (.iload_n 3, 1) := by decide +kernel
theorem dX12_spelt_39 : decode cX12_spelt 39 = .ok (.ifCond .le 19, 3) := by decide +kernel
theorem dX12_spelt_42 : decode cX12_spelt 42 = .ok (.ldc2_w 130, 3) := by decide +kernel
theorem dX12_spelt_45 : decode cX12_spelt 45 = .ok (.lload 4, 2) := by decide +kernel
theorem dX12_spelt_47 : decode cX12_spelt 47 = .ok (.lmul, 1) := by decide +kernel
theorem dX12_spelt_48 : decode cX12_spelt 48 = .ok (.iload_n 3, 1) := by decide +kernel
theorem dX12_spelt_49 : decode cX12_spelt 49 = .ok (.i2l, 1) := by decide +kernel
theorem dX12_spelt_50 : decode cX12_spelt 50 = .ok (.ladd, 1) := by decide +kernel
theorem dX12_spelt_51 : decode cX12_spelt 51 = .ok (.ldc2_w 132, 3) := by decide +kernel
theorem dX12_spelt_54 : decode cX12_spelt 54 = .ok (.lsub, 1) := by decide +kernel
theorem dX12_spelt_55 : decode cX12_spelt 55 = .ok (.goto 5, 3) := by decide +kernel
theorem dX12_spelt_58 : decode cX12_spelt 58 = .ok (.lload 4, 2) := by decide +kernel
theorem dX12_spelt_60 : decode cX12_spelt 60 = .ok (.lreturn, 1) := by decide +kernel
theorem hcX12_spelt : yX12_spelt.cls ≠ "java/lang/invoke/MethodHandle" ∧ yX12_spelt.cls ≠ "java/lang/invoke/VarHandle" ∧ (parseMethodDescriptor yX12_spelt.desc).map (fun d => d.parameters.length) = some 4 := ⟨by decide +kernel, by decide +kernel, by decide +kernel⟩
def fX12_spelt_j38 (x3 : Int) (Q : Int → Prop) (x4_38 : Int) : Prop := ((x3 ≤ 0 → Q x4_38) ∧ (¬ (x3 ≤ 0) → sg_R64 (((27 * x4_38) + x3) - 96) ∧ Q (((27 * x4_38) + x3) - 96)))
def fX12_spelt (x0 : Int) (x1 : Int) (x2 : Int) (x3 : Int) (Q : Int → Prop) : Prop := ((x2 ≤ 0 → sg_R64 (((27 * (x0 - 96)) + x1) - 96) ∧ (fX12_spelt_j38 x3 Q) (((27 * (x0 - 96)) + x1) - 96)) ∧ (¬ (x2 ≤ 0) → ∀ v5 : Int, v5 = (((27 * (((27 * (x0 - 96)) + x1) - 96)) + x2) - 96) → sg_R64 v5 ∧ (fX12_spelt_j38 x3 Q) v5))
set_option maxHeartbeats 4000000 in
set_option maxRecDepth 100000 in
theorem CX12_spelt {l : Launch} {G : sg_G} {La : sg_L} {s0 : sg_M} {x0 : Int} (r0 : sg_R x0) {x1 : Int} (r1 : sg_R x1) {x2 : Int} (r2 : sg_R x2) {x3 : Int} (r3 : sg_R x3) {Q : Int → Prop} (hf : fX12_spelt x0 x1 x2 x3 Q) : sg_C l G yX12_spelt cX12_spelt 6 (some .long) 1 0 0 La s0 [sg_i x0, sg_i x1, sg_i x2, sg_i x3] (sg_PJ La s0 Q) := by
  refine sg_body (by decide +kernel) (Nat.le_of_ble_eq_true rfl) ?_
  intro p e s m args below meth c F hnm
  unfold fX12_spelt at hf
  show sg_W p l e (sg_rm 1 0 0) s m args below meth c (MQ below (sg_Q (some .long) G La s.heap.size (sg_PJ La s0 Q)) args s 0 0 (sg_A La s.heap.size)) 6 G (sg_A La s.heap.size) La s0 0 0 0 [(0, sg_i x0), (1, sg_i x1), (2, sg_i x2), (3, sg_i x3)] []
  refine gw_ldc2 F (n := 27) kw_1050 rfl dX12_spelt_0 ?_
  refine gw_iload_n F 0 rfl rfl dX12_spelt_3 ?_
  refine gw_i2l F r0 dX12_spelt_4 ?_
  refine gw_ldc2 F (n := 96) kw_1051 rfl dX12_spelt_5 ?_
  refine gw_lsub F rfl dX12_spelt_8 ?_
  refine gw_lmul F rfl dX12_spelt_9 ?_
  refine gw_iload_n F 1 rfl rfl dX12_spelt_10 ?_
  refine gw_i2l F r1 dX12_spelt_11 ?_
  refine gw_ladd F rfl dX12_spelt_12 ?_
  refine gw_ldc2 F (n := 96) kw_1051 rfl dX12_spelt_13 ?_
  refine gw_lsub F rfl dX12_spelt_16 ?_
  refine gw_lstore F (by decide) rfl dX12_spelt_17 ?_
  refine gw_iload_n F 3 rfl rfl dX12_spelt_19 ?_
  have J38 : ∀ (x4_38 : Int), sg_R64 x4_38 → (fX12_spelt_j38 x3 Q) x4_38 → sg_W p l e (sg_rm 1 0 0) s m args below meth c (MQ below (sg_Q (some .long) G La s.heap.size (sg_PJ La s0 Q)) args s 0 0 (sg_A La s.heap.size)) 6 G (sg_A La s.heap.size) La s0 0 0 38 [(3, sg_i x3), (4, sg_l x4_38)] [] := by
    intro x4_38 r4_38 hf
    unfold fX12_spelt_j38 at hf
    refine gw_iload_n F 0 rfl rfl dX12_spelt_38 ?_
    refine gw_if_le F (tgt := 58) dX12_spelt_39 (by decide) r3 (fun c1 => ?_) (fun c1 => ?_)
    · have hf := hf.1 c1
      refine gw_lload F 1 rfl dX12_spelt_58 ?_
      exact gr_PJ F r4_38 hf (by decide) (by decide) dX12_spelt_60
    · have hf := hf.2 c1
      refine gw_ldc2 F (n := 27) kw_1050 rfl dX12_spelt_42 ?_
      refine gw_lload F 1 rfl dX12_spelt_45 ?_
      refine gw_lmul F rfl dX12_spelt_47 ?_
      refine gw_iload_n F 0 rfl rfl dX12_spelt_48 ?_
      refine gw_i2l F r3 dX12_spelt_49 ?_
      refine gw_ladd F rfl dX12_spelt_50 ?_
      refine gw_ldc2 F (n := 96) kw_1051 rfl dX12_spelt_51 ?_
      refine gw_lsub F rfl dX12_spelt_54 ?_
      refine gw_goto F (tgt := 60) dX12_spelt_55 (by decide) ?_
      obtain ⟨g2, hf⟩ := hf
      exact gr_PJ F g2 hf (by decide) (by decide) dX12_spelt_60
  refine gw_if_le F (tgt := 38) dX12_spelt_20 (by decide) r2 (fun c3 => ?_) (fun c3 => ?_)
  · have hf := hf.1 c3
    obtain ⟨g4, hf⟩ := hf
    refine gw_sub [4, 0] rfl ?_
    exact J38 (((27 * (x0 - 96)) + x1) - 96) g4 hf
  · have hf := hf.2 c3
    refine gw_ldc2 F (n := 27) kw_1050 rfl dX12_spelt_23 ?_
    refine gw_lload F 0 rfl dX12_spelt_26 ?_
    refine gw_lmul F rfl dX12_spelt_28 ?_
    refine gw_iload_n F 3 rfl rfl dX12_spelt_29 ?_
    refine gw_i2l F r2 dX12_spelt_30 ?_
    refine gw_ladd F rfl dX12_spelt_31 ?_
    refine gw_ldc2 F (n := 96) kw_1051 rfl dX12_spelt_32 ?_
    refine gw_lsub F rfl dX12_spelt_35 ?_
    obtain ⟨v5, e6⟩ : ∃ z : Int, z = (((27 * (((27 * (x0 - 96)) + x1) - 96)) + x2) - 96) := ⟨_, rfl⟩
    obtain ⟨g7, hf⟩ := hf v5 e6
    refine gw_nmJ e6 ?_
    refine gw_lstore F (by decide) rfl dX12_spelt_36 ?_
    refine gw_sub [4, 0] rfl ?_
    exact J38 v5 g7 hf

theorem dX12_wordOf_0 : decode cX12_wordOf 0 = .ok (.iload_n 0, 1) := by decide +kernel
theorem dX12_wordOf_1 : decode cX12_wordOf 1 = .ok (.tableswitch 403 0 20 #[99, 117, 135, 146, 158, 170, 180, 190, 200, 218, 230, 240, 251, 262, 280, 299, 317, 329, 347, 365, 384], 99) := by decide +kernel
theorem dX12_wordOf_100 : decode cX12_wordOf 100 = .ok (.bipush 112, 2) := by decide +kernel
theorem dX12_wordOf_102 : decode cX12_wordOf 102 = .ok (.bipush 105, 2) := by decide +kernel
theorem dX12_wordOf_104 : decode cX12_wordOf 104 = .ok (.bipush 101, 2) := by decide +kernel
theorem dX12_wordOf_106 : decode cX12_wordOf 106 = .ok (.bipush 99, 2) := by decide +kernel
theorem dX12_wordOf_108 : decode cX12_wordOf 108 = .ok (.invokestatic 134, 3) := by decide +kernel
theorem dX12_wordOf_111 : decode cX12_wordOf 111 = .ok (.bipush 101, 2) := by decide +kernel
theorem dX12_wordOf_113 : decode cX12_wordOf 113 = .ok (.iconst 0, 1) := by decide +kernel
theorem dX12_wordOf_114 : decode cX12_wordOf 114 = .ok (.invokestatic 138, 3) := by decide +kernel
theorem dX12_wordOf_117 : decode cX12_wordOf 117 = .ok (.lreturn, 1) := by decide +kernel
theorem dX12_wordOf_118 : decode cX12_wordOf 118 = .ok (.bipush 116, 2) := by decide +kernel
theorem dX12_wordOf_120 : decode cX12_wordOf 120 = .ok (.bipush 101, 2) := by decide +kernel
theorem dX12_wordOf_122 : decode cX12_wordOf 122 = .ok (.bipush 101, 2) := by decide +kernel
theorem dX12_wordOf_124 : decode cX12_wordOf 124 = .ok (.bipush 116, 2) := by decide +kernel
theorem dX12_wordOf_126 : decode cX12_wordOf 126 = .ok (.invokestatic 134, 3) := by decide +kernel
theorem dX12_wordOf_129 : decode cX12_wordOf 129 = .ok (.bipush 104, 2) := by decide +kernel
theorem dX12_wordOf_131 : decode cX12_wordOf 131 = .ok (.iconst 0, 1) := by decide +kernel
theorem dX12_wordOf_132 : decode cX12_wordOf 132 = .ok (.invokestatic 138, 3) := by decide +kernel
theorem dX12_wordOf_135 : decode cX12_wordOf 135 = .ok (.lreturn, 1) := by decide +kernel
theorem dX12_wordOf_136 : decode cX12_wordOf 136 = .ok (.bipush 111, 2) := by decide +kernel
theorem dX12_wordOf_138 : decode cX12_wordOf 138 = .ok (.bipush 119, 2) := by decide +kernel
theorem dX12_wordOf_140 : decode cX12_wordOf 140 = .ok (.bipush 110, 2) := by decide +kernel
theorem dX12_wordOf_142 : decode cX12_wordOf 142 = .ok (.iconst 0, 1) := by decide +kernel
theorem dX12_wordOf_143 : decode cX12_wordOf 143 = .ok (.invokestatic 134, 3) := by decide +kernel
theorem dX12_wordOf_146 : decode cX12_wordOf 146 = .ok (.lreturn, 1) := by decide +kernel
theorem dX12_wordOf_147 : decode cX12_wordOf 147 = .ok (.bipush 117, 2) := by decide +kernel
theorem dX12_wordOf_149 : decode cX12_wordOf 149 = .ok (.bipush 110, 2) := by decide +kernel
theorem dX12_wordOf_151 : decode cX12_wordOf 151 = .ok (.bipush 105, 2) := by decide +kernel
theorem dX12_wordOf_153 : decode cX12_wordOf 153 = .ok (.bipush 116, 2) := by decide +kernel
theorem dX12_wordOf_155 : decode cX12_wordOf 155 = .ok (.invokestatic 134, 3) := by decide +kernel
theorem dX12_wordOf_158 : decode cX12_wordOf 158 = .ok (.lreturn, 1) := by decide +kernel
theorem dX12_wordOf_159 : decode cX12_wordOf 159 = .ok (.bipush 98, 2) := by decide +kernel
theorem dX12_wordOf_161 : decode cX12_wordOf 161 = .ok (.bipush 101, 2) := by decide +kernel
theorem dX12_wordOf_163 : decode cX12_wordOf 163 = .ok (.bipush 97, 2) := by decide +kernel
theorem dX12_wordOf_165 : decode cX12_wordOf 165 = .ok (.bipush 114, 2) := by decide +kernel
theorem dX12_wordOf_167 : decode cX12_wordOf 167 = .ok (.invokestatic 134, 3) := by decide +kernel
theorem dX12_wordOf_170 : decode cX12_wordOf 170 = .ok (.lreturn, 1) := by decide +kernel
theorem dX12_wordOf_171 : decode cX12_wordOf 171 = .ok (.bipush 97, 2) := by decide +kernel
theorem dX12_wordOf_173 : decode cX12_wordOf 173 = .ok (.bipush 116, 2) := by decide +kernel
theorem dX12_wordOf_175 : decode cX12_wordOf 175 = .ok (.iconst 0, 1) := by decide +kernel
theorem dX12_wordOf_176 : decode cX12_wordOf 176 = .ok (.iconst 0, 1) := by decide +kernel
theorem dX12_wordOf_177 : decode cX12_wordOf 177 = .ok (.invokestatic 134, 3) := by decide +kernel
theorem dX12_wordOf_180 : decode cX12_wordOf 180 = .ok (.lreturn, 1) := by decide +kernel
theorem dX12_wordOf_181 : decode cX12_wordOf 181 = .ok (.bipush 116, 2) := by decide +kernel
theorem dX12_wordOf_183 : decode cX12_wordOf 183 = .ok (.bipush 111, 2) := by decide +kernel
theorem dX12_wordOf_185 : decode cX12_wordOf 185 = .ok (.iconst 0, 1) := by decide +kernel
theorem dX12_wordOf_186 : decode cX12_wordOf 186 = .ok (.iconst 0, 1) := by decide +kernel
theorem dX12_wordOf_187 : decode cX12_wordOf 187 = .ok (.invokestatic 134, 3) := by decide +kernel
theorem dX12_wordOf_190 : decode cX12_wordOf 190 = .ok (.lreturn, 1) := by decide +kernel
theorem dX12_wordOf_191 : decode cX12_wordOf 191 = .ok (.bipush 105, 2) := by decide +kernel
theorem dX12_wordOf_193 : decode cX12_wordOf 193 = .ok (.bipush 110, 2) := by decide +kernel
theorem dX12_wordOf_195 : decode cX12_wordOf 195 = .ok (.iconst 0, 1) := by decide +kernel
theorem dX12_wordOf_196 : decode cX12_wordOf 196 = .ok (.iconst 0, 1) := by decide +kernel
theorem dX12_wordOf_197 : decode cX12_wordOf 197 = .ok (.invokestatic 134, 3) := by decide +kernel
theorem dX12_wordOf_200 : decode cX12_wordOf 200 = .ok (.lreturn, 1) := by decide +kernel
theorem dX12_wordOf_201 : decode cX12_wordOf 201 = .ok (.bipush 115, 2) := by decide +kernel
theorem dX12_wordOf_203 : decode cX12_wordOf 203 = .ok (.bipush 104, 2) := by decide +kernel
theorem dX12_wordOf_205 : decode cX12_wordOf 205 = .ok (.bipush 97, 2) := by decide +kernel
theorem dX12_wordOf_207 : decode cX12_wordOf 207 = .ok (.bipush 107, 2) := by decide +kernel
theorem dX12_wordOf_209 : decode cX12_wordOf 209 = .ok (.invokestatic 134, 3) := by decide +kernel
theorem dX12_wordOf_212 : decode cX12_wordOf 212 = .ok (.bipush 101, 2) := by decide +kernel
theorem dX12_wordOf_214 : decode cX12_wordOf 214 = .ok (.iconst 0, 1) := by decide +kernel
theorem dX12_wordOf_215 : decode cX12_wordOf 215 = .ok (.invokestatic 138, 3) := by decide +kernel
theorem dX12_wordOf_218 : decode cX12_wordOf 218 = .ok (.lreturn, 1) := by decide +kernel
theorem dX12_wordOf_219 : decode cX12_wordOf 219 = .ok (.bipush 119, 2) := by decide +kernel
theorem dX12_wordOf_221 : decode cX12_wordOf 221 = .ok (.bipush 97, 2) := by decide +kernel
theorem dX12_wordOf_223 : decode cX12_wordOf 223 = .ok (.bipush 105, 2) := by decide +kernel
theorem dX12_wordOf_225 : decode cX12_wordOf 225 = .ok (.bipush 116, 2) := by decide +kernel
theorem dX12_wordOf_227 : decode cX12_wordOf 227 = .ok (.invokestatic 134, 3) := by decide +kernel
theorem dX12_wordOf_230 : decode cX12_wordOf 230 = .ok (.lreturn, 1) := by decide +kernel
theorem dX12_wordOf_231 : decode cX12_wordOf 231 = .ok (.bipush 111, 2) := by decide +kernel
theorem dX12_wordOf_233 : decode cX12_wordOf 233 = .ok (.bipush 114, 2) := by decide +kernel
theorem dX12_wordOf_235 : decode cX12_wordOf 235 = .ok (.iconst 0, 1) := by decide +kernel
theorem dX12_wordOf_236 : decode cX12_wordOf 236 = .ok (.iconst 0, 1) := by decide +kernel
theorem dX12_wordOf_237 : decode cX12_wordOf 237 = .ok (.invokestatic 134, 3) := by decide +kernel
theorem dX12_wordOf_240 : decode cX12_wordOf 240 = .ok (.lreturn, 1) := by decide +kernel
theorem dX12_wordOf_241 : decode cX12_wordOf 241 = .ok (.bipush 97, 2) := by decide +kernel
theorem dX12_wordOf_243 : decode cX12_wordOf 243 = .ok (.bipush 110, 2) := by decide +kernel
theorem dX12_wordOf_245 : decode cX12_wordOf 245 = .ok (.bipush 100, 2) := by decide +kernel
theorem dX12_wordOf_247 : decode cX12_wordOf 247 = .ok (.iconst 0, 1) := by decide +kernel
theorem dX12_wordOf_248 : decode cX12_wordOf 248 = .ok (.invokestatic 134, 3) := by decide +kernel
theorem dX12_wordOf_251 : decode cX12_wordOf 251 = .ok (.lreturn, 1) := by decide +kernel
theorem dX12_wordOf_252 : decode cX12_wordOf 252 = .ok (.bipush 110, 2) := by decide +kernel
theorem dX12_wordOf_254 : decode cX12_wordOf 254 = .ok (.bipush 111, 2) := by decide +kernel
theorem dX12_wordOf_256 : decode cX12_wordOf 256 = .ok (.bipush 116, 2) := by decide +kernel
theorem dX12_wordOf_258 : decode cX12_wordOf 258 = .ok (.iconst 0, 1) := by decide +kernel
theorem dX12_wordOf_259 : decode cX12_wordOf 259 = .ok (.invokestatic 134, 3) := by decide +kernel
theorem dX12_wordOf_262 : decode cX12_wordOf 262 = .ok (.lreturn, 1) := by decide +kernel
theorem dX12_wordOf_263 : decode cX12_wordOf 263 = .ok (.bipush 115, 2) := by decide +kernel
theorem dX12_wordOf_265 : decode cX12_wordOf 265 = .ok (.bipush 105, 2) := by decide +kernel
theorem dX12_wordOf_267 : decode cX12_wordOf 267 = .ok (.bipush 110, 2) := by decide +kernel
theorem dX12_wordOf_269 : decode cX12_wordOf 269 = .ok (.bipush 103, 2) := by decide +kernel
theorem dX12_wordOf_271 : decode cX12_wordOf 271 = .ok (.invokestatic 134, 3) := by decide +kernel
theorem dX12_wordOf_274 : decode cX12_wordOf 274 = .ok (.bipush 115, 2) := by decide +kernel
theorem dX12_wordOf_276 : decode cX12_wordOf 276 = .ok (.iconst 0, 1) := by decide +kernel
theorem dX12_wordOf_277 : decode cX12_wordOf 277 = .ok (.invokestatic 138, 3) := by decide +kernel
theorem dX12_wordOf_280 : decode cX12_wordOf 280 = .ok (.lreturn, 1) := by decide +kernel
theorem dX12_wordOf_281 : decode cX12_wordOf 281 = .ok (.bipush 98, 2) := by decide +kernel
theorem dX12_wordOf_283 : decode cX12_wordOf 283 = .ok (.bipush 114, 2) := by decide +kernel
theorem dX12_wordOf_285 : decode cX12_wordOf 285 = .ok (.bipush 111, 2) := by decide +kernel
theorem dX12_wordOf_287 : decode cX12_wordOf 287 = .ok (.bipush 107, 2) := by decide +kernel
theorem dX12_wordOf_289 : decode cX12_wordOf 289 = .ok (.invokestatic 134, 3) := by decide +kernel
theorem dX12_wordOf_292 : decode cX12_wordOf 292 = .ok (.bipush 101, 2) := by decide +kernel
theorem dX12_wordOf_294 : decode cX12_wordOf 294 = .ok (.bipush 110, 2) := by decide +kernel
theorem dX12_wordOf_296 : decode cX12_wordOf 296 = .ok (.invokestatic 138, 3) := by decide +kernel
theorem dX12_wordOf_299 : decode cX12_wordOf 299 = .ok (.lreturn, 1) := by decide +kernel
theorem dX12_wordOf_300 : decode cX12_wordOf 300 = .ok (.bipush 116, 2) := by decide +kernel
theorem dX12_wordOf_302 : decode cX12_wordOf 302 = .ok (.bipush 119, 2) := by decide +kernel
theorem dX12_wordOf_304 : decode cX12_wordOf 304 = .ok (.bipush 105, 2) := by decide +kernel
theorem dX12_wordOf_306 : decode cX12_wordOf 306 = .ok (.bipush 99, 2) := by decide +kernel
theorem dX12_wordOf_308 : decode cX12_wordOf 308 = .ok (.invokestatic 134, 3) := by decide +kernel
theorem dX12_wordOf_311 : decode cX12_wordOf 311 = .ok (.bipush 101, 2) := by decide +kernel
theorem dX12_wordOf_313 : decode cX12_wordOf 313 = .ok (.iconst 0, 1) := by decide +kernel
theorem dX12_wordOf_314 : decode cX12_wordOf 314 = .ok (.invokestatic 138, 3) := by decide +kernel
theorem dX12_wordOf_317 : decode cX12_wordOf 317 = .ok (.lreturn, 1) := by decide +kernel
theorem dX12_wordOf_318 : decode cX12_wordOf 318 = .ok (.bipush 116, 2) := by decide +kernel
theorem dX12_wordOf_320 : decode cX12_wordOf 320 = .ok (.bipush 111, 2) := by decide +kernel
theorem dX12_wordOf_322 : decode cX12_wordOf 322 = .ok (.bipush 110, 2) := by decide +kernel
theorem dX12_wordOf_324 : decode cX12_wordOf 324 = .ok (.bipush 101, 2) := by decide +kernel
theorem dX12_wordOf_326 : decode cX12_wordOf 326 = .ok (.invokestatic 134, 3) := by decide +kernel
theorem dX12_wordOf_329 : decode cX12_wordOf 329 = .ok (.lreturn, 1) := by decide +kernel
theorem dX12_wordOf_330 : decode cX12_wordOf 330 = .ok (.bipush 112, 2) := by decide +kernel
theorem dX12_wordOf_332 : decode cX12_wordOf 332 = .ok (.bipush 108, 2) := by decide +kernel
theorem dX12_wordOf_334 : decode cX12_wordOf 334 = .ok (.bipush 97, 2) := by decide +kernel
theorem dX12_wordOf_336 : decode cX12_wordOf 336 = .ok (.bipush 99, 2) := by decide +kernel
theorem dX12_wordOf_338 : decode cX12_wordOf 338 = .ok (.invokestatic 134, 3) := by decide +kernel
theorem dX12_wordOf_341 : decode cX12_wordOf 341 = .ok (.bipush 101, 2) := by decide +kernel
theorem dX12_wordOf_343 : decode cX12_wordOf 343 = .ok (.iconst 0, 1) := by decide +kernel
theorem dX12_wordOf_344 : decode cX12_wordOf 344 = .ok (.invokestatic 138, 3) := by decide +kernel
theorem dX12_wordOf_347 : decode cX12_wordOf 347 = .ok (.lreturn, 1) := by decide +kernel
theorem dX12_wordOf_348 : decode cX12_wordOf 348 = .ok (.bipush 114, 2) := by decide +kernel
theorem dX12_wordOf_350 : decode cX12_wordOf 350 = .ok (.bipush 105, 2) := by decide +kernel
theorem dX12_wordOf_352 : decode cX12_wordOf 352 = .ok (.bipush 110, 2) := by decide +kernel
theorem dX12_wordOf_354 : decode cX12_wordOf 354 = .ok (.bipush 103, 2) := by decide +kernel
theorem dX12_wordOf_356 : decode cX12_wordOf 356 = .ok (.invokestatic 134, 3) := by decide +kernel
theorem dX12_wordOf_359 : decode cX12_wordOf 359 = .ok (.bipush 115, 2) := by decide +kernel
theorem dX12_wordOf_361 : decode cX12_wordOf 361 = .ok (.iconst 0, 1) := by decide +kernel
theorem dX12_wordOf_362 : decode cX12_wordOf 362 = .ok (.invokestatic 138, 3) := by decide +kernel
theorem dX12_wordOf_365 : decode cX12_wordOf 365 = .ok (.lreturn, 1) := by decide +kernel
theorem dX12_wordOf_366 : decode cX12_wordOf 366 = .ok (.bipush 115, 2) := by decide +kernel
theorem dX12_wordOf_368 : decode cX12_wordOf 368 = .ok (.bipush 116, 2) := by decide +kernel
theorem dX12_wordOf_370 : decode cX12_wordOf 370 = .ok (.bipush 114, 2) := by decide +kernel
theorem dX12_wordOf_372 : decode cX12_wordOf 372 = .ok (.bipush 97, 2) := by decide +kernel
theorem dX12_wordOf_374 : decode cX12_wordOf 374 = .ok (.invokestatic 134, 3) := by decide +kernel
theorem dX12_wordOf_377 : decode cX12_wordOf 377 = .ok (.bipush 105, 2) := by decide +kernel
theorem dX12_wordOf_379 : decode cX12_wordOf 379 = .ok (.bipush 110, 2) := by decide +kernel
theorem dX12_wordOf_381 : decode cX12_wordOf 381 = .ok (.invokestatic 138, 3) := by decide +kernel
theorem dX12_wordOf_384 : decode cX12_wordOf 384 = .ok (.lreturn, 1) := by decide +kernel
theorem dX12_wordOf_385 : decode cX12_wordOf 385 = .ok (.bipush 112, 2) := by decide +kernel
theorem dX12_wordOf_387 : decode cX12_wordOf 387 = .ok (.bipush 108, 2) := by decide +kernel
theorem dX12_wordOf_389 : decode cX12_wordOf 389 = .ok (.bipush 97, 2) := by decide +kernel
theorem dX12_wordOf_391 : decode cX12_wordOf 391 = .ok (.bipush 99, 2) := by decide +kernel
theorem dX12_wordOf_393 : decode cX12_wordOf 393 = .ok (.invokestatic 134, 3) := by decide +kernel
theorem dX12_wordOf_396 : decode cX12_wordOf 396 = .ok (.bipush 101, 2) := by decide +kernel
theorem dX12_wordOf_398 : decode cX12_wordOf 398 = .ok (.bipush 115, 2) := by decide +kernel
theorem dX12_wordOf_400 : decode cX12_wordOf 400 = .ok (.invokestatic 138, 3) := by decide +kernel
theorem dX12_wordOf_403 : decode cX12_wordOf 403 = .ok (.lreturn, 1) := by decide +kernel
theorem dX12_wordOf_404 : decode cX12_wordOf 404 = .ok (.bipush 116, 2) := by decide +kernel
theorem dX12_wordOf_406 : decode cX12_wordOf 406 = .ok (.bipush 105, 2) := by decide +kernel
theorem dX12_wordOf_408 : decode cX12_wordOf 408 = .ok (.bipush 99, 2) := by decide +kernel
theorem dX12_wordOf_410 : decode cX12_wordOf 410 = .ok (.bipush 107, 2) := by decide +kernel
theorem dX12_wordOf_412 : decode cX12_wordOf 412 = .ok (.invokestatic 134, 3) := by decide +kernel
theorem dX12_wordOf_415 : decode cX12_wordOf 415 = .ok (.lreturn, 1) := by decide +kernel
theorem hcX12_wordOf : yX12_wordOf.cls ≠ "java/lang/invoke/MethodHandle" ∧ yX12_wordOf.cls ≠ "java/lang/invoke/VarHandle" ∧ (parseMethodDescriptor yX12_wordOf.desc).map (fun d => d.parameters.length) = some 1 := ⟨by decide +kernel, by decide +kernel, by decide +kernel⟩
def fX12_wordOf (x0 : Int) (Q : Int → Prop) : Prop := ((x0 < 0 ∨ 20 < x0 → fX12_spelt 116 105 99 107 (fun u2 => Q u2)) ∧ (x0 = 0 → fX12_spelt 112 105 101 99 (fun u4 => fX12_on u4 101 0 (fun u6 => Q u6))) ∧ (x0 = 1 → fX12_spelt 116 101 101 116 (fun u8 => fX12_on u8 104 0 (fun u10 => Q u10))) ∧ (x0 = 2 → fX12_spelt 111 119 110 0 (fun u12 => Q u12)) ∧ (x0 = 3 → fX12_spelt 117 110 105 116 (fun u14 => Q u14)) ∧ (x0 = 4 → fX12_spelt 98 101 97 114 (fun u16 => Q u16)) ∧ (x0 = 5 → fX12_spelt 97 116 0 0 (fun u18 => Q u18)) ∧ (x0 = 6 → fX12_spelt 116 111 0 0 (fun u20 => Q u20)) ∧ (x0 = 7 → fX12_spelt 105 110 0 0 (fun u22 => Q u22)) ∧ (x0 = 8 → fX12_spelt 115 104 97 107 (fun u24 => fX12_on u24 101 0 (fun u26 => Q u26))) ∧ (x0 = 9 → fX12_spelt 119 97 105 116 (fun u28 => Q u28)) ∧ (x0 = 10 → fX12_spelt 111 114 0 0 (fun u30 => Q u30)) ∧ (x0 = 11 → fX12_spelt 97 110 100 0 (fun u32 => Q u32)) ∧ (x0 = 12 → fX12_spelt 110 111 116 0 (fun u34 => Q u34)) ∧ (x0 = 13 → fX12_spelt 115 105 110 103 (fun u36 => fX12_on u36 115 0 (fun u38 => Q u38))) ∧ (x0 = 14 → fX12_spelt 98 114 111 107 (fun u40 => fX12_on u40 101 110 (fun u42 => Q u42))) ∧ (x0 = 15 → fX12_spelt 116 119 105 99 (fun u44 => fX12_on u44 101 0 (fun u46 => Q u46))) ∧ (x0 = 16 → fX12_spelt 116 111 110 101 (fun u48 => Q u48)) ∧ (x0 = 17 → fX12_spelt 112 108 97 99 (fun u50 => fX12_on u50 101 0 (fun u52 => Q u52))) ∧ (x0 = 18 → fX12_spelt 114 105 110 103 (fun u54 => fX12_on u54 115 0 (fun u56 => Q u56))) ∧ (x0 = 19 → fX12_spelt 115 116 114 97 (fun u58 => fX12_on u58 105 110 (fun u60 => Q u60))) ∧ (x0 = 20 → fX12_spelt 112 108 97 99 (fun u62 => fX12_on u62 101 115 (fun u64 => Q u64))))
set_option maxHeartbeats 4000000 in
set_option maxRecDepth 100000 in
theorem CX12_wordOf {l : Launch} {G : sg_G} {La : sg_L} {s0 : sg_M} {x0 : Int} (r0 : sg_R x0) {Q : Int → Prop} (hf : fX12_wordOf x0 Q) : sg_C l G yX12_wordOf cX12_wordOf 1 (some .long) 2 0 0 La s0 [sg_i x0] (sg_PJ La s0 Q) := by
  refine sg_body (by decide +kernel) (Nat.le_of_ble_eq_true rfl) ?_
  intro p e s m args below meth c F hnm
  unfold fX12_wordOf at hf
  show sg_W p l e (sg_rm 2 0 0) s m args below meth c (MQ below (sg_Q (some .long) G La s.heap.size (sg_PJ La s0 Q)) args s 0 0 (sg_A La s.heap.size)) 1 G (sg_A La s.heap.size) La s0 0 0 0 [(0, sg_i x0)] []
  refine gw_iload_n F 0 rfl rfl dX12_wordOf_0 ?_
  refine gw_switch F dX12_wordOf_1 r0 (td := 404) (by decide) (fun c1 => ?_) (fun i hi1 hi2 => ?_)
  · have hf := hf.1 c1
    refine gw_bipush F rfl dX12_wordOf_404 ?_
    refine gw_bipush F rfl dX12_wordOf_406 ?_
    refine gw_bipush F rfl dX12_wordOf_408 ?_
    refine gw_bipush F rfl dX12_wordOf_410 ?_
    refine gk_PJ F (gc_S F (S := []) (As := [sg_i 116, sg_i 105, sg_i 99, sg_i 107]) (CX12_spelt (by decide) (by decide) (by decide) (by decide) hf) kw_1063 kw_103 kw_1061 kw_1062 hcX12_spelt ⟨by decide, by decide⟩ rfl rfl (Nat.le_of_ble_eq_true rfl) ⟨by decide, by decide⟩ dX12_wordOf_412) (fun u2 h3 hf => ?_)
    exact gr_PJ F h3 hf (by decide) (by decide) dX12_wordOf_415
  · rcases (show i = 0 ∨ i = 1 ∨ i = 2 ∨ i = 3 ∨ i = 4 ∨ i = 5 ∨ i = 6 ∨ i = 7 ∨ i = 8 ∨ i = 9 ∨ i = 10 ∨ i = 11 ∨ i = 12 ∨ i = 13 ∨ i = 14 ∨ i = 15 ∨ i = 16 ∨ i = 17 ∨ i = 18 ∨ i = 19 ∨ i = 20 by omega) with rfl | rfl | rfl | rfl | rfl | rfl | rfl | rfl | rfl | rfl | rfl | rfl | rfl | rfl | rfl | rfl | rfl | rfl | rfl | rfl | rfl
    · have hf := hf.2.1 (by omega)
      refine ⟨99, 100, rfl, by decide, ?_⟩
      refine gw_bipush F rfl dX12_wordOf_100 ?_
      refine gw_bipush F rfl dX12_wordOf_102 ?_
      refine gw_bipush F rfl dX12_wordOf_104 ?_
      refine gw_bipush F rfl dX12_wordOf_106 ?_
      refine gk_PJ F (gc_S F (S := []) (As := [sg_i 112, sg_i 105, sg_i 101, sg_i 99]) (CX12_spelt (by decide) (by decide) (by decide) (by decide) hf) kw_1063 kw_103 kw_1061 kw_1062 hcX12_spelt ⟨by decide, by decide⟩ rfl rfl (Nat.le_of_ble_eq_true rfl) ⟨by decide, by decide⟩ dX12_wordOf_108) (fun u4 h5 hf => ?_)
      refine gw_bipush F rfl dX12_wordOf_111 ?_
      refine gw_iconst F dX12_wordOf_113 ?_
      refine gk_PJ F (gc_S F (S := []) (As := [sg_l u4, sg_i 101, sg_i 0]) (CX12_on h5 (by decide) (by decide) hf) kw_1066 kw_103 kw_1064 kw_1065 hcX12_on ⟨by decide, by decide⟩ rfl rfl (Nat.le_of_ble_eq_true rfl) ⟨by decide, by decide⟩ dX12_wordOf_114) (fun u6 h7 hf => ?_)
      exact gr_PJ F h7 hf (by decide) (by decide) dX12_wordOf_117
    · have hf := hf.2.2.1 (by omega)
      refine ⟨117, 118, rfl, by decide, ?_⟩
      refine gw_bipush F rfl dX12_wordOf_118 ?_
      refine gw_bipush F rfl dX12_wordOf_120 ?_
      refine gw_bipush F rfl dX12_wordOf_122 ?_
      refine gw_bipush F rfl dX12_wordOf_124 ?_
      refine gk_PJ F (gc_S F (S := []) (As := [sg_i 116, sg_i 101, sg_i 101, sg_i 116]) (CX12_spelt (by decide) (by decide) (by decide) (by decide) hf) kw_1063 kw_103 kw_1061 kw_1062 hcX12_spelt ⟨by decide, by decide⟩ rfl rfl (Nat.le_of_ble_eq_true rfl) ⟨by decide, by decide⟩ dX12_wordOf_126) (fun u8 h9 hf => ?_)
      refine gw_bipush F rfl dX12_wordOf_129 ?_
      refine gw_iconst F dX12_wordOf_131 ?_
      refine gk_PJ F (gc_S F (S := []) (As := [sg_l u8, sg_i 104, sg_i 0]) (CX12_on h9 (by decide) (by decide) hf) kw_1066 kw_103 kw_1064 kw_1065 hcX12_on ⟨by decide, by decide⟩ rfl rfl (Nat.le_of_ble_eq_true rfl) ⟨by decide, by decide⟩ dX12_wordOf_132) (fun u10 h11 hf => ?_)
      exact gr_PJ F h11 hf (by decide) (by decide) dX12_wordOf_135
    · have hf := hf.2.2.2.1 (by omega)
      refine ⟨135, 136, rfl, by decide, ?_⟩
      refine gw_bipush F rfl dX12_wordOf_136 ?_
      refine gw_bipush F rfl dX12_wordOf_138 ?_
      refine gw_bipush F rfl dX12_wordOf_140 ?_
      refine gw_iconst F dX12_wordOf_142 ?_
      refine gk_PJ F (gc_S F (S := []) (As := [sg_i 111, sg_i 119, sg_i 110, sg_i 0]) (CX12_spelt (by decide) (by decide) (by decide) (by decide) hf) kw_1063 kw_103 kw_1061 kw_1062 hcX12_spelt ⟨by decide, by decide⟩ rfl rfl (Nat.le_of_ble_eq_true rfl) ⟨by decide, by decide⟩ dX12_wordOf_143) (fun u12 h13 hf => ?_)
      exact gr_PJ F h13 hf (by decide) (by decide) dX12_wordOf_146
    · have hf := hf.2.2.2.2.1 (by omega)
      refine ⟨146, 147, rfl, by decide, ?_⟩
      refine gw_bipush F rfl dX12_wordOf_147 ?_
      refine gw_bipush F rfl dX12_wordOf_149 ?_
      refine gw_bipush F rfl dX12_wordOf_151 ?_
      refine gw_bipush F rfl dX12_wordOf_153 ?_
      refine gk_PJ F (gc_S F (S := []) (As := [sg_i 117, sg_i 110, sg_i 105, sg_i 116]) (CX12_spelt (by decide) (by decide) (by decide) (by decide) hf) kw_1063 kw_103 kw_1061 kw_1062 hcX12_spelt ⟨by decide, by decide⟩ rfl rfl (Nat.le_of_ble_eq_true rfl) ⟨by decide, by decide⟩ dX12_wordOf_155) (fun u14 h15 hf => ?_)
      exact gr_PJ F h15 hf (by decide) (by decide) dX12_wordOf_158
    · have hf := hf.2.2.2.2.2.1 (by omega)
      refine ⟨158, 159, rfl, by decide, ?_⟩
      refine gw_bipush F rfl dX12_wordOf_159 ?_
      refine gw_bipush F rfl dX12_wordOf_161 ?_
      refine gw_bipush F rfl dX12_wordOf_163 ?_
      refine gw_bipush F rfl dX12_wordOf_165 ?_
      refine gk_PJ F (gc_S F (S := []) (As := [sg_i 98, sg_i 101, sg_i 97, sg_i 114]) (CX12_spelt (by decide) (by decide) (by decide) (by decide) hf) kw_1063 kw_103 kw_1061 kw_1062 hcX12_spelt ⟨by decide, by decide⟩ rfl rfl (Nat.le_of_ble_eq_true rfl) ⟨by decide, by decide⟩ dX12_wordOf_167) (fun u16 h17 hf => ?_)
      exact gr_PJ F h17 hf (by decide) (by decide) dX12_wordOf_170
    · have hf := hf.2.2.2.2.2.2.1 (by omega)
      refine ⟨170, 171, rfl, by decide, ?_⟩
      refine gw_bipush F rfl dX12_wordOf_171 ?_
      refine gw_bipush F rfl dX12_wordOf_173 ?_
      refine gw_iconst F dX12_wordOf_175 ?_
      refine gw_iconst F dX12_wordOf_176 ?_
      refine gk_PJ F (gc_S F (S := []) (As := [sg_i 97, sg_i 116, sg_i 0, sg_i 0]) (CX12_spelt (by decide) (by decide) (by decide) (by decide) hf) kw_1063 kw_103 kw_1061 kw_1062 hcX12_spelt ⟨by decide, by decide⟩ rfl rfl (Nat.le_of_ble_eq_true rfl) ⟨by decide, by decide⟩ dX12_wordOf_177) (fun u18 h19 hf => ?_)
      exact gr_PJ F h19 hf (by decide) (by decide) dX12_wordOf_180
    · have hf := hf.2.2.2.2.2.2.2.1 (by omega)
      refine ⟨180, 181, rfl, by decide, ?_⟩
      refine gw_bipush F rfl dX12_wordOf_181 ?_
      refine gw_bipush F rfl dX12_wordOf_183 ?_
      refine gw_iconst F dX12_wordOf_185 ?_
      refine gw_iconst F dX12_wordOf_186 ?_
      refine gk_PJ F (gc_S F (S := []) (As := [sg_i 116, sg_i 111, sg_i 0, sg_i 0]) (CX12_spelt (by decide) (by decide) (by decide) (by decide) hf) kw_1063 kw_103 kw_1061 kw_1062 hcX12_spelt ⟨by decide, by decide⟩ rfl rfl (Nat.le_of_ble_eq_true rfl) ⟨by decide, by decide⟩ dX12_wordOf_187) (fun u20 h21 hf => ?_)
      exact gr_PJ F h21 hf (by decide) (by decide) dX12_wordOf_190
    · have hf := hf.2.2.2.2.2.2.2.2.1 (by omega)
      refine ⟨190, 191, rfl, by decide, ?_⟩
      refine gw_bipush F rfl dX12_wordOf_191 ?_
      refine gw_bipush F rfl dX12_wordOf_193 ?_
      refine gw_iconst F dX12_wordOf_195 ?_
      refine gw_iconst F dX12_wordOf_196 ?_
      refine gk_PJ F (gc_S F (S := []) (As := [sg_i 105, sg_i 110, sg_i 0, sg_i 0]) (CX12_spelt (by decide) (by decide) (by decide) (by decide) hf) kw_1063 kw_103 kw_1061 kw_1062 hcX12_spelt ⟨by decide, by decide⟩ rfl rfl (Nat.le_of_ble_eq_true rfl) ⟨by decide, by decide⟩ dX12_wordOf_197) (fun u22 h23 hf => ?_)
      exact gr_PJ F h23 hf (by decide) (by decide) dX12_wordOf_200
    · have hf := hf.2.2.2.2.2.2.2.2.2.1 (by omega)
      refine ⟨200, 201, rfl, by decide, ?_⟩
      refine gw_bipush F rfl dX12_wordOf_201 ?_
      refine gw_bipush F rfl dX12_wordOf_203 ?_
      refine gw_bipush F rfl dX12_wordOf_205 ?_
      refine gw_bipush F rfl dX12_wordOf_207 ?_
      refine gk_PJ F (gc_S F (S := []) (As := [sg_i 115, sg_i 104, sg_i 97, sg_i 107]) (CX12_spelt (by decide) (by decide) (by decide) (by decide) hf) kw_1063 kw_103 kw_1061 kw_1062 hcX12_spelt ⟨by decide, by decide⟩ rfl rfl (Nat.le_of_ble_eq_true rfl) ⟨by decide, by decide⟩ dX12_wordOf_209) (fun u24 h25 hf => ?_)
      refine gw_bipush F rfl dX12_wordOf_212 ?_
      refine gw_iconst F dX12_wordOf_214 ?_
      refine gk_PJ F (gc_S F (S := []) (As := [sg_l u24, sg_i 101, sg_i 0]) (CX12_on h25 (by decide) (by decide) hf) kw_1066 kw_103 kw_1064 kw_1065 hcX12_on ⟨by decide, by decide⟩ rfl rfl (Nat.le_of_ble_eq_true rfl) ⟨by decide, by decide⟩ dX12_wordOf_215) (fun u26 h27 hf => ?_)
      exact gr_PJ F h27 hf (by decide) (by decide) dX12_wordOf_218
    · have hf := hf.2.2.2.2.2.2.2.2.2.2.1 (by omega)
      refine ⟨218, 219, rfl, by decide, ?_⟩
      refine gw_bipush F rfl dX12_wordOf_219 ?_
      refine gw_bipush F rfl dX12_wordOf_221 ?_
      refine gw_bipush F rfl dX12_wordOf_223 ?_
      refine gw_bipush F rfl dX12_wordOf_225 ?_
      refine gk_PJ F (gc_S F (S := []) (As := [sg_i 119, sg_i 97, sg_i 105, sg_i 116]) (CX12_spelt (by decide) (by decide) (by decide) (by decide) hf) kw_1063 kw_103 kw_1061 kw_1062 hcX12_spelt ⟨by decide, by decide⟩ rfl rfl (Nat.le_of_ble_eq_true rfl) ⟨by decide, by decide⟩ dX12_wordOf_227) (fun u28 h29 hf => ?_)
      exact gr_PJ F h29 hf (by decide) (by decide) dX12_wordOf_230
    · have hf := hf.2.2.2.2.2.2.2.2.2.2.2.1 (by omega)
      refine ⟨230, 231, rfl, by decide, ?_⟩
      refine gw_bipush F rfl dX12_wordOf_231 ?_
      refine gw_bipush F rfl dX12_wordOf_233 ?_
      refine gw_iconst F dX12_wordOf_235 ?_
      refine gw_iconst F dX12_wordOf_236 ?_
      refine gk_PJ F (gc_S F (S := []) (As := [sg_i 111, sg_i 114, sg_i 0, sg_i 0]) (CX12_spelt (by decide) (by decide) (by decide) (by decide) hf) kw_1063 kw_103 kw_1061 kw_1062 hcX12_spelt ⟨by decide, by decide⟩ rfl rfl (Nat.le_of_ble_eq_true rfl) ⟨by decide, by decide⟩ dX12_wordOf_237) (fun u30 h31 hf => ?_)
      exact gr_PJ F h31 hf (by decide) (by decide) dX12_wordOf_240
    · have hf := hf.2.2.2.2.2.2.2.2.2.2.2.2.1 (by omega)
      refine ⟨240, 241, rfl, by decide, ?_⟩
      refine gw_bipush F rfl dX12_wordOf_241 ?_
      refine gw_bipush F rfl dX12_wordOf_243 ?_
      refine gw_bipush F rfl dX12_wordOf_245 ?_
      refine gw_iconst F dX12_wordOf_247 ?_
      refine gk_PJ F (gc_S F (S := []) (As := [sg_i 97, sg_i 110, sg_i 100, sg_i 0]) (CX12_spelt (by decide) (by decide) (by decide) (by decide) hf) kw_1063 kw_103 kw_1061 kw_1062 hcX12_spelt ⟨by decide, by decide⟩ rfl rfl (Nat.le_of_ble_eq_true rfl) ⟨by decide, by decide⟩ dX12_wordOf_248) (fun u32 h33 hf => ?_)
      exact gr_PJ F h33 hf (by decide) (by decide) dX12_wordOf_251
    · have hf := hf.2.2.2.2.2.2.2.2.2.2.2.2.2.1 (by omega)
      refine ⟨251, 252, rfl, by decide, ?_⟩
      refine gw_bipush F rfl dX12_wordOf_252 ?_
      refine gw_bipush F rfl dX12_wordOf_254 ?_
      refine gw_bipush F rfl dX12_wordOf_256 ?_
      refine gw_iconst F dX12_wordOf_258 ?_
      refine gk_PJ F (gc_S F (S := []) (As := [sg_i 110, sg_i 111, sg_i 116, sg_i 0]) (CX12_spelt (by decide) (by decide) (by decide) (by decide) hf) kw_1063 kw_103 kw_1061 kw_1062 hcX12_spelt ⟨by decide, by decide⟩ rfl rfl (Nat.le_of_ble_eq_true rfl) ⟨by decide, by decide⟩ dX12_wordOf_259) (fun u34 h35 hf => ?_)
      exact gr_PJ F h35 hf (by decide) (by decide) dX12_wordOf_262
    · have hf := hf.2.2.2.2.2.2.2.2.2.2.2.2.2.2.1 (by omega)
      refine ⟨262, 263, rfl, by decide, ?_⟩
      refine gw_bipush F rfl dX12_wordOf_263 ?_
      refine gw_bipush F rfl dX12_wordOf_265 ?_
      refine gw_bipush F rfl dX12_wordOf_267 ?_
      refine gw_bipush F rfl dX12_wordOf_269 ?_
      refine gk_PJ F (gc_S F (S := []) (As := [sg_i 115, sg_i 105, sg_i 110, sg_i 103]) (CX12_spelt (by decide) (by decide) (by decide) (by decide) hf) kw_1063 kw_103 kw_1061 kw_1062 hcX12_spelt ⟨by decide, by decide⟩ rfl rfl (Nat.le_of_ble_eq_true rfl) ⟨by decide, by decide⟩ dX12_wordOf_271) (fun u36 h37 hf => ?_)
      refine gw_bipush F rfl dX12_wordOf_274 ?_
      refine gw_iconst F dX12_wordOf_276 ?_
      refine gk_PJ F (gc_S F (S := []) (As := [sg_l u36, sg_i 115, sg_i 0]) (CX12_on h37 (by decide) (by decide) hf) kw_1066 kw_103 kw_1064 kw_1065 hcX12_on ⟨by decide, by decide⟩ rfl rfl (Nat.le_of_ble_eq_true rfl) ⟨by decide, by decide⟩ dX12_wordOf_277) (fun u38 h39 hf => ?_)
      exact gr_PJ F h39 hf (by decide) (by decide) dX12_wordOf_280
    · have hf := hf.2.2.2.2.2.2.2.2.2.2.2.2.2.2.2.1 (by omega)
      refine ⟨280, 281, rfl, by decide, ?_⟩
      refine gw_bipush F rfl dX12_wordOf_281 ?_
      refine gw_bipush F rfl dX12_wordOf_283 ?_
      refine gw_bipush F rfl dX12_wordOf_285 ?_
      refine gw_bipush F rfl dX12_wordOf_287 ?_
      refine gk_PJ F (gc_S F (S := []) (As := [sg_i 98, sg_i 114, sg_i 111, sg_i 107]) (CX12_spelt (by decide) (by decide) (by decide) (by decide) hf) kw_1063 kw_103 kw_1061 kw_1062 hcX12_spelt ⟨by decide, by decide⟩ rfl rfl (Nat.le_of_ble_eq_true rfl) ⟨by decide, by decide⟩ dX12_wordOf_289) (fun u40 h41 hf => ?_)
      refine gw_bipush F rfl dX12_wordOf_292 ?_
      refine gw_bipush F rfl dX12_wordOf_294 ?_
      refine gk_PJ F (gc_S F (S := []) (As := [sg_l u40, sg_i 101, sg_i 110]) (CX12_on h41 (by decide) (by decide) hf) kw_1066 kw_103 kw_1064 kw_1065 hcX12_on ⟨by decide, by decide⟩ rfl rfl (Nat.le_of_ble_eq_true rfl) ⟨by decide, by decide⟩ dX12_wordOf_296) (fun u42 h43 hf => ?_)
      exact gr_PJ F h43 hf (by decide) (by decide) dX12_wordOf_299
    · have hf := hf.2.2.2.2.2.2.2.2.2.2.2.2.2.2.2.2.1 (by omega)
      refine ⟨299, 300, rfl, by decide, ?_⟩
      refine gw_bipush F rfl dX12_wordOf_300 ?_
      refine gw_bipush F rfl dX12_wordOf_302 ?_
      refine gw_bipush F rfl dX12_wordOf_304 ?_
      refine gw_bipush F rfl dX12_wordOf_306 ?_
      refine gk_PJ F (gc_S F (S := []) (As := [sg_i 116, sg_i 119, sg_i 105, sg_i 99]) (CX12_spelt (by decide) (by decide) (by decide) (by decide) hf) kw_1063 kw_103 kw_1061 kw_1062 hcX12_spelt ⟨by decide, by decide⟩ rfl rfl (Nat.le_of_ble_eq_true rfl) ⟨by decide, by decide⟩ dX12_wordOf_308) (fun u44 h45 hf => ?_)
      refine gw_bipush F rfl dX12_wordOf_311 ?_
      refine gw_iconst F dX12_wordOf_313 ?_
      refine gk_PJ F (gc_S F (S := []) (As := [sg_l u44, sg_i 101, sg_i 0]) (CX12_on h45 (by decide) (by decide) hf) kw_1066 kw_103 kw_1064 kw_1065 hcX12_on ⟨by decide, by decide⟩ rfl rfl (Nat.le_of_ble_eq_true rfl) ⟨by decide, by decide⟩ dX12_wordOf_314) (fun u46 h47 hf => ?_)
      exact gr_PJ F h47 hf (by decide) (by decide) dX12_wordOf_317
    · have hf := hf.2.2.2.2.2.2.2.2.2.2.2.2.2.2.2.2.2.1 (by omega)
      refine ⟨317, 318, rfl, by decide, ?_⟩
      refine gw_bipush F rfl dX12_wordOf_318 ?_
      refine gw_bipush F rfl dX12_wordOf_320 ?_
      refine gw_bipush F rfl dX12_wordOf_322 ?_
      refine gw_bipush F rfl dX12_wordOf_324 ?_
      refine gk_PJ F (gc_S F (S := []) (As := [sg_i 116, sg_i 111, sg_i 110, sg_i 101]) (CX12_spelt (by decide) (by decide) (by decide) (by decide) hf) kw_1063 kw_103 kw_1061 kw_1062 hcX12_spelt ⟨by decide, by decide⟩ rfl rfl (Nat.le_of_ble_eq_true rfl) ⟨by decide, by decide⟩ dX12_wordOf_326) (fun u48 h49 hf => ?_)
      exact gr_PJ F h49 hf (by decide) (by decide) dX12_wordOf_329
    · have hf := hf.2.2.2.2.2.2.2.2.2.2.2.2.2.2.2.2.2.2.1 (by omega)
      refine ⟨329, 330, rfl, by decide, ?_⟩
      refine gw_bipush F rfl dX12_wordOf_330 ?_
      refine gw_bipush F rfl dX12_wordOf_332 ?_
      refine gw_bipush F rfl dX12_wordOf_334 ?_
      refine gw_bipush F rfl dX12_wordOf_336 ?_
      refine gk_PJ F (gc_S F (S := []) (As := [sg_i 112, sg_i 108, sg_i 97, sg_i 99]) (CX12_spelt (by decide) (by decide) (by decide) (by decide) hf) kw_1063 kw_103 kw_1061 kw_1062 hcX12_spelt ⟨by decide, by decide⟩ rfl rfl (Nat.le_of_ble_eq_true rfl) ⟨by decide, by decide⟩ dX12_wordOf_338) (fun u50 h51 hf => ?_)
      refine gw_bipush F rfl dX12_wordOf_341 ?_
      refine gw_iconst F dX12_wordOf_343 ?_
      refine gk_PJ F (gc_S F (S := []) (As := [sg_l u50, sg_i 101, sg_i 0]) (CX12_on h51 (by decide) (by decide) hf) kw_1066 kw_103 kw_1064 kw_1065 hcX12_on ⟨by decide, by decide⟩ rfl rfl (Nat.le_of_ble_eq_true rfl) ⟨by decide, by decide⟩ dX12_wordOf_344) (fun u52 h53 hf => ?_)
      exact gr_PJ F h53 hf (by decide) (by decide) dX12_wordOf_347
    · have hf := hf.2.2.2.2.2.2.2.2.2.2.2.2.2.2.2.2.2.2.2.1 (by omega)
      refine ⟨347, 348, rfl, by decide, ?_⟩
      refine gw_bipush F rfl dX12_wordOf_348 ?_
      refine gw_bipush F rfl dX12_wordOf_350 ?_
      refine gw_bipush F rfl dX12_wordOf_352 ?_
      refine gw_bipush F rfl dX12_wordOf_354 ?_
      refine gk_PJ F (gc_S F (S := []) (As := [sg_i 114, sg_i 105, sg_i 110, sg_i 103]) (CX12_spelt (by decide) (by decide) (by decide) (by decide) hf) kw_1063 kw_103 kw_1061 kw_1062 hcX12_spelt ⟨by decide, by decide⟩ rfl rfl (Nat.le_of_ble_eq_true rfl) ⟨by decide, by decide⟩ dX12_wordOf_356) (fun u54 h55 hf => ?_)
      refine gw_bipush F rfl dX12_wordOf_359 ?_
      refine gw_iconst F dX12_wordOf_361 ?_
      refine gk_PJ F (gc_S F (S := []) (As := [sg_l u54, sg_i 115, sg_i 0]) (CX12_on h55 (by decide) (by decide) hf) kw_1066 kw_103 kw_1064 kw_1065 hcX12_on ⟨by decide, by decide⟩ rfl rfl (Nat.le_of_ble_eq_true rfl) ⟨by decide, by decide⟩ dX12_wordOf_362) (fun u56 h57 hf => ?_)
      exact gr_PJ F h57 hf (by decide) (by decide) dX12_wordOf_365
    · have hf := hf.2.2.2.2.2.2.2.2.2.2.2.2.2.2.2.2.2.2.2.2.1 (by omega)
      refine ⟨365, 366, rfl, by decide, ?_⟩
      refine gw_bipush F rfl dX12_wordOf_366 ?_
      refine gw_bipush F rfl dX12_wordOf_368 ?_
      refine gw_bipush F rfl dX12_wordOf_370 ?_
      refine gw_bipush F rfl dX12_wordOf_372 ?_
      refine gk_PJ F (gc_S F (S := []) (As := [sg_i 115, sg_i 116, sg_i 114, sg_i 97]) (CX12_spelt (by decide) (by decide) (by decide) (by decide) hf) kw_1063 kw_103 kw_1061 kw_1062 hcX12_spelt ⟨by decide, by decide⟩ rfl rfl (Nat.le_of_ble_eq_true rfl) ⟨by decide, by decide⟩ dX12_wordOf_374) (fun u58 h59 hf => ?_)
      refine gw_bipush F rfl dX12_wordOf_377 ?_
      refine gw_bipush F rfl dX12_wordOf_379 ?_
      refine gk_PJ F (gc_S F (S := []) (As := [sg_l u58, sg_i 105, sg_i 110]) (CX12_on h59 (by decide) (by decide) hf) kw_1066 kw_103 kw_1064 kw_1065 hcX12_on ⟨by decide, by decide⟩ rfl rfl (Nat.le_of_ble_eq_true rfl) ⟨by decide, by decide⟩ dX12_wordOf_381) (fun u60 h61 hf => ?_)
      exact gr_PJ F h61 hf (by decide) (by decide) dX12_wordOf_384
    · have hf := hf.2.2.2.2.2.2.2.2.2.2.2.2.2.2.2.2.2.2.2.2.2 (by omega)
      refine ⟨384, 385, rfl, by decide, ?_⟩
      refine gw_bipush F rfl dX12_wordOf_385 ?_
      refine gw_bipush F rfl dX12_wordOf_387 ?_
      refine gw_bipush F rfl dX12_wordOf_389 ?_
      refine gw_bipush F rfl dX12_wordOf_391 ?_
      refine gk_PJ F (gc_S F (S := []) (As := [sg_i 112, sg_i 108, sg_i 97, sg_i 99]) (CX12_spelt (by decide) (by decide) (by decide) (by decide) hf) kw_1063 kw_103 kw_1061 kw_1062 hcX12_spelt ⟨by decide, by decide⟩ rfl rfl (Nat.le_of_ble_eq_true rfl) ⟨by decide, by decide⟩ dX12_wordOf_393) (fun u62 h63 hf => ?_)
      refine gw_bipush F rfl dX12_wordOf_396 ?_
      refine gw_bipush F rfl dX12_wordOf_398 ?_
      refine gk_PJ F (gc_S F (S := []) (As := [sg_l u62, sg_i 101, sg_i 115]) (CX12_on h63 (by decide) (by decide) hf) kw_1066 kw_103 kw_1064 kw_1065 hcX12_on ⟨by decide, by decide⟩ rfl rfl (Nat.le_of_ble_eq_true rfl) ⟨by decide, by decide⟩ dX12_wordOf_400) (fun u64 h65 hf => ?_)
      exact gr_PJ F h65 hf (by decide) (by decide) dX12_wordOf_403

theorem dX12_isWord_0 : decode cX12_isWord 0 = .ok (.aload_n 0, 1) := by decide +kernel
theorem dX12_isWord_1 : decode cX12_isWord 1 = .ok (.getfield 106, 3) := by decide +kernel
theorem dX12_isWord_4 : decode cX12_isWord 4 = .ok (.iconst 2, 1) := by decide +kernel
theorem dX12_isWord_5 : decode cX12_isWord 5 = .ok (.if_icmp .ne 19, 3) := by decide +kernel
theorem dX12_isWord_8 : decode cX12_isWord 8 = .ok (.aload_n 0, 1) := by decide +kernel
theorem dX12_isWord_9 : decode cX12_isWord 9 = .ok (.getfield 119, 3) := by decide +kernel
theorem dX12_isWord_12 : decode cX12_isWord 12 = .ok (.iload_n 1, 1) := by decide +kernel
theorem dX12_isWord_13 : decode cX12_isWord 13 = .ok (.invokestatic 142, 3) := by decide +kernel
theorem dX12_isWord_16 : decode cX12_isWord 16 = .ok (.lcmp, 1) := by decide +kernel
theorem dX12_isWord_17 : decode cX12_isWord 17 = .ok (.ifCond .ne 7, 3) := by decide +kernel
theorem dX12_isWord_20 : decode cX12_isWord 20 = .ok (.iconst 1, 1) := by decide +kernel
theorem dX12_isWord_21 : decode cX12_isWord 21 = .ok (.goto 4, 3) := by decide +kernel
theorem dX12_isWord_24 : decode cX12_isWord 24 = .ok (.iconst 0, 1) := by decide +kernel
theorem dX12_isWord_25 : decode cX12_isWord 25 = .ok (.ireturn, 1) := by decide +kernel
theorem hcX12_isWord : yX12_isWord.cls ≠ "java/lang/invoke/MethodHandle" ∧ yX12_isWord.cls ≠ "java/lang/invoke/VarHandle" ∧ (parseMethodDescriptor yX12_isWord.desc).map (fun d => d.parameters.length) = some 1 := ⟨by decide +kernel, by decide +kernel, by decide +kernel⟩
def fX12_isWord (s0 : sg_M) (x1 : Int) (Q : Int → Prop) : Prop := (((s0 64 7) ≠ 2 → Q 0) ∧ ((s0 64 7) = 2 → fX12_wordOf x1 (fun u4 => (((sg_cmp (s0 64 12) u4) ≠ 0 → Q 0) ∧ ((sg_cmp (s0 64 12) u4) = 0 → Q 1)))))
set_option maxHeartbeats 4000000 in
set_option maxRecDepth 100000 in
theorem CX12_isWord {l : Launch} {G : sg_G} {La : sg_L} {s0 : sg_M} (hst : sg_St La) {x1 : Int} (r1 : sg_R x1) {Q : Int → Prop} (hf : fX12_isWord s0 x1 Q) : sg_C l G yX12_isWord cX12_isWord 2 (some .boolean) 3 0 0 La s0 [sg_r 64, sg_i x1] (sg_PZ La s0 Q) := by
  refine sg_body (by decide +kernel) (Nat.le_of_ble_eq_true rfl) ?_
  intro p e s m args below meth c F hnm
  unfold fX12_isWord at hf
  show sg_W p l e (sg_rm 3 0 0) s m args below meth c (MQ below (sg_Q (some .boolean) G La s.heap.size (sg_PZ La s0 Q)) args s 0 0 (sg_A La s.heap.size)) 2 G (sg_A La s.heap.size) La s0 0 0 0 [(0, sg_r 64), (1, sg_i x1)] []
  refine gw_aload_n F 0 rfl rfl (by decide) dX12_isWord_0 ?_
  refine gw_get0 F (so_64 hst) (by decide) rfl sg_lay_RX12 (j := 7) (by decide) rfl (host := "") (.inl kw_954) dX12_isWord_1 (fun h1 => ?_)
  refine gw_iconst F dX12_isWord_4 ?_
  refine gw_icmp_ne F (tgt := 24) dX12_isWord_5 (by decide) h1 (by decide) (fun c2 => ?_) (fun c2 => ?_)
  · have hf := hf.1 c2
    refine gw_iconst F dX12_isWord_24 ?_
    exact gr_PZ F (by decide) hf (by decide) (by decide) dX12_isWord_25
  · have hf := hf.2 c2
    refine gw_aload_n F 0 rfl rfl (by decide) dX12_isWord_8 ?_
    refine gw_get2 F (so_64 hst) (by decide) rfl sg_lay_RX12 (j := 12) (by decide) rfl (host := "") (.inl kw_959) dX12_isWord_9 (fun h3 => ?_)
    refine gw_iload_n F 1 rfl rfl dX12_isWord_12 ?_
    refine gk_PJ F (gc_S F (S := [sg_l (s0 64 12)]) (As := [sg_i x1]) (CX12_wordOf r1 hf) kw_1060 kw_103 kw_1058 kw_1059 hcX12_wordOf ⟨by decide, by decide⟩ rfl rfl (Nat.le_of_ble_eq_true rfl) ⟨by decide, by decide⟩ dX12_isWord_13) (fun u4 h5 hf => ?_)
    refine gw_lcmp F h3 h5 rfl dX12_isWord_16 ?_
    refine gw_if_ne F (tgt := 24) dX12_isWord_17 (by decide) (sg_cmp_R _ _) (fun c6 => ?_) (fun c6 => ?_)
    · have hf := hf.1 c6
      refine gw_iconst F dX12_isWord_24 ?_
      exact gr_PZ F (by decide) hf (by decide) (by decide) dX12_isWord_25
    · have hf := hf.2 c6
      refine gw_iconst F dX12_isWord_20 ?_
      refine gw_goto F (tgt := 25) dX12_isWord_21 (by decide) ?_
      exact gr_PZ F (by decide) hf (by decide) (by decide) dX12_isWord_25

theorem dX12_bad_0 : decode cX12_bad 0 = .ok (.aload_n 0, 1) := by decide +kernel
theorem dX12_bad_1 : decode cX12_bad 1 = .ok (.aload_n 0, 1) := by decide +kernel
theorem dX12_bad_2 : decode cX12_bad 2 = .ok (.getfield 106, 3) := by decide +kernel
theorem dX12_bad_5 : decode cX12_bad 5 = .ok (.iconst 1, 1) := by decide +kernel
theorem dX12_bad_6 : decode cX12_bad 6 = .ok (.if_icmp .ne 7, 3) := by decide +kernel
theorem dX12_bad_9 : decode cX12_bad 9 = .ok (.iconst 1, 1) := by decide +kernel
theorem dX12_bad_10 : decode cX12_bad 10 = .ok (.goto 4, 3) := by decide +kernel
theorem dX12_bad_13 : decode cX12_bad 13 = .ok (.iload_n 1, 1) := by decide +kernel
theorem dX12_bad_14 : decode cX12_bad 14 = .ok (.putfield 146, 3) := by decide +kernel
theorem dX12_bad_17 : decode cX12_bad 17 = .ok (.aload_n 0, 1) := by decide +kernel
theorem dX12_bad_18 : decode cX12_bad 18 = .ok (.aload_n 0, 1) := by decide +kernel
theorem dX12_bad_19 : decode cX12_bad 19 = .ok (.getfield 100, 3) := by decide +kernel
theorem dX12_bad_22 : decode cX12_bad 22 = .ok (.putfield 149, 3) := by decide +kernel
theorem dX12_bad_25 : decode cX12_bad 25 = .ok (.iconst 0, 1) := by decide +kernel
theorem dX12_bad_26 : decode cX12_bad 26 = .ok (.ireturn, 1) := by decide +kernel
theorem hcX12_bad : yX12_bad.cls ≠ "java/lang/invoke/MethodHandle" ∧ yX12_bad.cls ≠ "java/lang/invoke/VarHandle" ∧ (parseMethodDescriptor yX12_bad.desc).map (fun d => d.parameters.length) = some 1 := ⟨by decide +kernel, by decide +kernel, by decide +kernel⟩
def fX12_bad (s0 : sg_M) (x1 : Int) (Q : Int → sg_M → Prop) : Prop := (((s0 64 7) ≠ 1 → ∀ s3 : sg_M, s3 = sg_up s0 64 10 x1 → ∀ s6 : sg_M, s6 = sg_up s3 64 11 (s3 64 6) → Q 0 s6) ∧ ((s0 64 7) = 1 → ∀ s8 : sg_M, s8 = sg_up s0 64 10 1 → ∀ s11 : sg_M, s11 = sg_up s8 64 11 (s8 64 6) → Q 0 s11))
set_option maxHeartbeats 4000000 in
set_option maxRecDepth 100000 in
theorem CX12_bad {l : Launch} {G : sg_G} {La : sg_L} {s0 : sg_M} (hst : sg_St La) {x1 : Int} (r1 : sg_R x1) {Q : Int → sg_M → Prop} (hf : fX12_bad s0 x1 Q) : sg_C l G yX12_bad cX12_bad 2 (some .boolean) 1 0 0 La s0 [sg_r 64, sg_i x1] (sg_HZ La Q) := by
  refine sg_body (by decide +kernel) (Nat.le_of_ble_eq_true rfl) ?_
  intro p e s m args below meth c F hnm
  unfold fX12_bad at hf
  show sg_W p l e (sg_rm 1 0 0) s m args below meth c (MQ below (sg_Q (some .boolean) G La s.heap.size (sg_HZ La Q)) args s 0 0 (sg_A La s.heap.size)) 2 G (sg_A La s.heap.size) La s0 0 0 0 [(0, sg_r 64), (1, sg_i x1)] []
  refine gw_aload_n F 0 rfl rfl (by decide) dX12_bad_0 ?_
  refine gw_aload_n F 0 rfl rfl (by decide) dX12_bad_1 ?_
  refine gw_get0 F (so_64 hst) (by decide) rfl sg_lay_RX12 (j := 7) (by decide) rfl (host := "") (.inl kw_954) dX12_bad_2 (fun h1 => ?_)
  refine gw_iconst F dX12_bad_5 ?_
  refine gw_icmp_ne F (tgt := 13) dX12_bad_6 (by decide) h1 (by decide) (fun c2 => ?_) (fun c2 => ?_)
  · have hf := hf.1 c2
    refine gw_iload_n F 1 rfl rfl dX12_bad_13 ?_
    obtain ⟨s3, e4⟩ : ∃ z : sg_M, z = sg_up s0 64 10 x1 := ⟨_, rfl⟩
    have hf := hf s3 e4
    refine gw_put0 F (so_64 hst) (by decide) rfl sg_lay_RX12 (j := 10) (by decide) r1 e4 tyX12_ok nmX12 rfl (tyX12_ok 10 (by decide)) rfl (host := "") (.inl kw_957) dX12_bad_14 ?_
    refine gw_aload_n F 0 rfl rfl (by decide) dX12_bad_17 ?_
    refine gw_aload_n F 0 rfl rfl (by decide) dX12_bad_18 ?_
    refine gw_get0 F (so_64 hst) (by decide) rfl sg_lay_RX12 (j := 6) (by decide) rfl (host := "") (.inl kw_953) dX12_bad_19 (fun h5 => ?_)
    obtain ⟨s6, e7⟩ : ∃ z : sg_M, z = sg_up s3 64 11 (s3 64 6) := ⟨_, rfl⟩
    have hf := hf s6 e7
    refine gw_put0 F (so_64 hst) (by decide) rfl sg_lay_RX12 (j := 11) (by decide) h5 e7 tyX12_ok nmX12 rfl (tyX12_ok 11 (by decide)) rfl (host := "") (.inl kw_958) dX12_bad_22 ?_
    refine gw_iconst F dX12_bad_25 ?_
    exact gr_HZ F (by decide) hf (by decide) (by decide) dX12_bad_26
  · have hf := hf.2 c2
    refine gw_iconst F dX12_bad_9 ?_
    refine gw_goto F (tgt := 14) dX12_bad_10 (by decide) ?_
    obtain ⟨s8, e9⟩ : ∃ z : sg_M, z = sg_up s0 64 10 1 := ⟨_, rfl⟩
    have hf := hf s8 e9
    refine gw_put0 F (so_64 hst) (by decide) rfl sg_lay_RX12 (j := 10) (by decide) (by decide) e9 tyX12_ok nmX12 rfl (tyX12_ok 10 (by decide)) rfl (host := "") (.inl kw_957) dX12_bad_14 ?_
    refine gw_aload_n F 0 rfl rfl (by decide) dX12_bad_17 ?_
    refine gw_aload_n F 0 rfl rfl (by decide) dX12_bad_18 ?_
    refine gw_get0 F (so_64 hst) (by decide) rfl sg_lay_RX12 (j := 6) (by decide) rfl (host := "") (.inl kw_953) dX12_bad_19 (fun h10 => ?_)
    obtain ⟨s11, e12⟩ : ∃ z : sg_M, z = sg_up s8 64 11 (s8 64 6) := ⟨_, rfl⟩
    have hf := hf s11 e12
    refine gw_put0 F (so_64 hst) (by decide) rfl sg_lay_RX12 (j := 11) (by decide) h10 e12 tyX12_ok nmX12 rfl (tyX12_ok 11 (by decide)) rfl (host := "") (.inl kw_958) dX12_bad_22 ?_
    refine gw_iconst F dX12_bad_25 ?_
    exact gr_HZ F (by decide) hf (by decide) (by decide) dX12_bad_26

theorem dX12_isSign_0 : decode cX12_isSign 0 = .ok (.aload_n 0, 1) := by decide +kernel
theorem dX12_isSign_1 : decode cX12_isSign 1 = .ok (.getfield 106, 3) := by decide +kernel
theorem dX12_isSign_4 : decode cX12_isSign 4 = .ok (.iconst 4, 1) := by decide +kernel
theorem dX12_isSign_5 : decode cX12_isSign 5 = .ok (.if_icmp .ne 15, 3) := by decide +kernel
theorem dX12_isSign_8 : decode cX12_isSign 8 = .ok (.aload_n 0, 1) := by decide +kernel
theorem dX12_isSign_9 : decode cX12_isSign 9 = .ok (.getfield 116, 3) := by decide +kernel
theorem dX12_isSign_12 : decode cX12_isSign 12 = .ok (.iload_n 1, 1) := by decide +kernel
theorem dX12_isSign_13 : decode cX12_isSign 13 = .ok (.if_icmp .ne 7, 3) := by decide +kernel
theorem dX12_isSign_16 : decode cX12_isSign 16 = .ok (.iconst 1, 1) := by decide +kernel
theorem dX12_isSign_17 : decode cX12_isSign 17 = .ok (.goto 4, 3) := by decide +kernel
theorem dX12_isSign_20 : decode cX12_isSign 20 = .ok (.iconst 0, 1) := by decide +kernel
theorem dX12_isSign_21 : decode cX12_isSign 21 = .ok (.ireturn, 1) := by decide +kernel
theorem hcX12_isSign : yX12_isSign.cls ≠ "java/lang/invoke/MethodHandle" ∧ yX12_isSign.cls ≠ "java/lang/invoke/VarHandle" ∧ (parseMethodDescriptor yX12_isSign.desc).map (fun d => d.parameters.length) = some 1 := ⟨by decide +kernel, by decide +kernel, by decide +kernel⟩
def fX12_isSign (s0 : sg_M) (x1 : Int) (Q : Int → Prop) : Prop := (((s0 64 7) ≠ 4 → Q 0) ∧ ((s0 64 7) = 4 → (((s0 64 9) ≠ x1 → Q 0) ∧ ((s0 64 9) = x1 → Q 1))))
set_option maxHeartbeats 4000000 in
set_option maxRecDepth 100000 in
theorem CX12_isSign {l : Launch} {G : sg_G} {La : sg_L} {s0 : sg_M} (hst : sg_St La) {x1 : Int} (r1 : sg_R x1) {Q : Int → Prop} (hf : fX12_isSign s0 x1 Q) : sg_C l G yX12_isSign cX12_isSign 2 (some .boolean) 1 0 0 La s0 [sg_r 64, sg_i x1] (sg_PZ La s0 Q) := by
  refine sg_body (by decide +kernel) (Nat.le_of_ble_eq_true rfl) ?_
  intro p e s m args below meth c F hnm
  unfold fX12_isSign at hf
  show sg_W p l e (sg_rm 1 0 0) s m args below meth c (MQ below (sg_Q (some .boolean) G La s.heap.size (sg_PZ La s0 Q)) args s 0 0 (sg_A La s.heap.size)) 2 G (sg_A La s.heap.size) La s0 0 0 0 [(0, sg_r 64), (1, sg_i x1)] []
  refine gw_aload_n F 0 rfl rfl (by decide) dX12_isSign_0 ?_
  refine gw_get0 F (so_64 hst) (by decide) rfl sg_lay_RX12 (j := 7) (by decide) rfl (host := "") (.inl kw_954) dX12_isSign_1 (fun h1 => ?_)
  refine gw_iconst F dX12_isSign_4 ?_
  refine gw_icmp_ne F (tgt := 20) dX12_isSign_5 (by decide) h1 (by decide) (fun c2 => ?_) (fun c2 => ?_)
  · have hf := hf.1 c2
    refine gw_iconst F dX12_isSign_20 ?_
    exact gr_PZ F (by decide) hf (by decide) (by decide) dX12_isSign_21
  · have hf := hf.2 c2
    refine gw_aload_n F 0 rfl rfl (by decide) dX12_isSign_8 ?_
    refine gw_get0 F (so_64 hst) (by decide) rfl sg_lay_RX12 (j := 9) (by decide) rfl (host := "") (.inl kw_956) dX12_isSign_9 (fun h3 => ?_)
    refine gw_iload_n F 1 rfl rfl dX12_isSign_12 ?_
    refine gw_icmp_ne F (tgt := 20) dX12_isSign_13 (by decide) h3 r1 (fun c4 => ?_) (fun c4 => ?_)
    · have hf := hf.1 c4
      refine gw_iconst F dX12_isSign_20 ?_
      exact gr_PZ F (by decide) hf (by decide) (by decide) dX12_isSign_21
    · have hf := hf.2 c4
      refine gw_iconst F dX12_isSign_16 ?_
      refine gw_goto F (tgt := 21) dX12_isSign_17 (by decide) ?_
      exact gr_PZ F (by decide) hf (by decide) (by decide) dX12_isSign_21

theorem dX12_readEnd_0 : decode cX12_readEnd 0 = .ok (.aload_n 0, 1) := by decide +kernel
theorem dX12_readEnd_1 : decode cX12_readEnd 1 = .ok (.bipush 59, 2) := by decide +kernel
theorem dX12_readEnd_3 : decode cX12_readEnd 3 = .ok (.invokevirtual 165, 3) := by decide +kernel
theorem dX12_readEnd_6 : decode cX12_readEnd 6 = .ok (.ifCond .ne 9, 3) := by decide +kernel
theorem dX12_readEnd_9 : decode cX12_readEnd 9 = .ok (.aload_n 0, 1) := by decide +kernel
theorem dX12_readEnd_10 : decode cX12_readEnd 10 = .ok (.iconst 1, 1) := by decide +kernel
theorem dX12_readEnd_11 : decode cX12_readEnd 11 = .ok (.invokevirtual 152, 3) := by decide +kernel
theorem dX12_readEnd_14 : decode cX12_readEnd 14 = .ok (.ireturn, 1) := by decide +kernel
theorem dX12_readEnd_15 : decode cX12_readEnd 15 = .ok (.aload_n 0, 1) := by decide +kernel
theorem dX12_readEnd_16 : decode cX12_readEnd 16 = .ok (.invokevirtual 162, 3) := by decide +kernel
theorem dX12_readEnd_19 : decode cX12_readEnd 19 = .ok (.iconst 1, 1) := by decide +kernel
theorem dX12_readEnd_20 : decode cX12_readEnd 20 = .ok (.ireturn, 1) := by decide +kernel
theorem hcX12_readEnd : yX12_readEnd.cls ≠ "java/lang/invoke/MethodHandle" ∧ yX12_readEnd.cls ≠ "java/lang/invoke/VarHandle" ∧ (parseMethodDescriptor yX12_readEnd.desc).map (fun d => d.parameters.length) = some 0 := ⟨by decide +kernel, by decide +kernel, by decide +kernel⟩
def fX12_readEnd (s0 : sg_M) (Q : Int → sg_M → Prop) : Prop := fX12_isSign s0 59 (fun u1 => ((u1 ≠ 0 → fX12_go s0 (fun s4 => Q 1 s4)) ∧ (u1 = 0 → fX12_bad s0 1 (fun u5 s7 => Q u5 s7))))
set_option maxHeartbeats 4000000 in
set_option maxRecDepth 100000 in
theorem CX12_readEnd {l : Launch} {G : sg_G} {La : sg_L} {s0 : sg_M} (hst : sg_St La) {Q : Int → sg_M → Prop} (hf : fX12_readEnd s0 Q) : sg_C l G yX12_readEnd cX12_readEnd 1 (some .boolean) 3 0 0 La s0 [sg_r 64] (sg_HZ La Q) := by
  refine sg_body (by decide +kernel) (Nat.le_of_ble_eq_true rfl) ?_
  intro p e s m args below meth c F hnm
  unfold fX12_readEnd at hf
  show sg_W p l e (sg_rm 3 0 0) s m args below meth c (MQ below (sg_Q (some .boolean) G La s.heap.size (sg_HZ La Q)) args s 0 0 (sg_A La s.heap.size)) 1 G (sg_A La s.heap.size) La s0 0 0 0 [(0, sg_r 64)] []
  refine gw_aload_n F 0 rfl rfl (by decide) dX12_readEnd_0 ?_
  refine gw_bipush F rfl dX12_readEnd_1 ?_
  refine gk_PZ F (gc_V F (S := []) (As := [sg_i 59]) (T := TX12) (N := 62) (CX12_isSign hst (by decide) hf) (so_64 hst) (by decide) rfl kw_1081 kw_103 kw_1079 kw_1080 kw_50 hcX12_isSign ⟨by decide, by decide⟩ rfl rfl (Nat.le_of_ble_eq_true rfl) ⟨by decide, by decide⟩ dX12_readEnd_3) (fun u1 h2 hf => ?_)
  refine gw_if_ne F (tgt := 15) dX12_readEnd_6 (by decide) (sg_B_R h2) (fun c3 => ?_) (fun c3 => ?_)
  · have hf := hf.1 c3
    refine gw_aload_n F 0 rfl rfl (by decide) dX12_readEnd_15 ?_
    refine gk_HV F (gc_V F (S := []) (As := []) (T := TX12) (N := 62) (CX12_go hst hf) (so_64 hst) (by decide) rfl kw_1040 kw_103 kw_1038 kw_1039 kw_43 hcX12_go ⟨by decide, by decide⟩ rfl rfl (Nat.le_of_ble_eq_true rfl) ⟨by decide, by decide⟩ dX12_readEnd_16) (fun s4 hf => ?_)
    refine gw_iconst F dX12_readEnd_19 ?_
    exact gr_HZ F (by decide) hf (by decide) (by decide) dX12_readEnd_20
  · have hf := hf.2 c3
    refine gw_aload_n F 0 rfl rfl (by decide) dX12_readEnd_9 ?_
    refine gw_iconst F dX12_readEnd_10 ?_
    refine gk_HZ F (gc_V F (S := []) (As := [sg_i 1]) (T := TX12) (N := 62) (CX12_bad hst (by decide) hf) (so_64 hst) (by decide) rfl kw_1069 kw_103 kw_1067 kw_1068 kw_47 hcX12_bad ⟨by decide, by decide⟩ rfl rfl (Nat.le_of_ble_eq_true rfl) ⟨by decide, by decide⟩ dX12_readEnd_11) (fun u5 s7 h6 hf => ?_)
    exact gr_HZ F h6 hf (by decide) (by decide) dX12_readEnd_14

theorem dX12_readLast_0 : decode cX12_readLast 0 = .ok (.aload_n 0, 1) := by decide +kernel
theorem dX12_readLast_1 : decode cX12_readLast 1 = .ok (.getfield 106, 3) := by decide +kernel
theorem dX12_readLast_4 : decode cX12_readLast 4 = .ok (.iconst 3, 1) := by decide +kernel
theorem dX12_readLast_5 : decode cX12_readLast 5 = .ok (.if_icmp .eq 9, 3) := by decide +kernel
theorem dX12_readLast_8 : decode cX12_readLast 8 = .ok (.aload_n 0, 1) := by decide +kernel
theorem dX12_readLast_9 : decode cX12_readLast 9 = .ok (.iconst 1, 1) := by decide +kernel
theorem dX12_readLast_10 : decode cX12_readLast 10 = .ok (.invokevirtual 152, 3) := by decide +kernel
theorem dX12_readLast_13 : decode cX12_readLast 13 = .ok (.ireturn, 1) := by decide +kernel
theorem dX12_readLast_14 : decode cX12_readLast 14 = .ok (.aload_n 0, 1) := by decide +kernel
theorem dX12_readLast_15 : decode cX12_readLast 15 = .ok (.getfield 123, 3) := by decide +kernel
theorem dX12_readLast_18 : decode cX12_readLast 18 = .ok (.iconst 1, 1) := by decide +kernel
theorem dX12_readLast_19 : decode cX12_readLast 19 = .ok (.bipush 99, 2) := by decide +kernel
theorem dX12_readLast_21 : decode cX12_readLast 21 = .ok (.invokestatic 155, 3) := by decide +kernel
theorem dX12_readLast_24 : decode cX12_readLast 24 = .ok (.ifCond .ne 9, 3) := by decide +kernel
theorem dX12_readLast_27 : decode cX12_readLast 27 = .ok (.aload_n 0, 1) := by decide +kernel
theorem dX12_readLast_28 : decode cX12_readLast 28 = .ok (.iconst 2, 1) := by decide +kernel
theorem dX12_readLast_29 : decode cX12_readLast 29 = .ok (.invokevirtual 152, 3) := by decide +kernel
theorem dX12_readLast_32 : decode cX12_readLast 32 = .ok (.ireturn, 1) := by decide +kernel
theorem dX12_readLast_33 : decode cX12_readLast 33 = .ok (.aload_n 0, 1) := by decide +kernel
theorem dX12_readLast_34 : decode cX12_readLast 34 = .ok (.getfield 295, 3) := by decide +kernel
theorem dX12_readLast_37 : decode cX12_readLast 37 = .ok (.aload_n 0, 1) := by decide +kernel
theorem dX12_readLast_38 : decode cX12_readLast 38 = .ok (.getfield 123, 3) := by decide +kernel
theorem dX12_readLast_41 : decode cX12_readLast 41 = .ok (.iadd, 1) := by decide +kernel
theorem dX12_readLast_42 : decode cX12_readLast 42 = .ok (.sipush 200, 3) := by decide +kernel
theorem dX12_readLast_45 : decode cX12_readLast 45 = .ok (.if_icmp .le 9, 3) := by decide +kernel
theorem dX12_readLast_48 : decode cX12_readLast 48 = .ok (.aload_n 0, 1) := by decide +kernel
theorem dX12_readLast_49 : decode cX12_readLast 49 = .ok (.iconst 4, 1) := by decide +kernel
theorem dX12_readLast_50 : decode cX12_readLast 50 = .ok (.invokevirtual 152, 3) := by decide +kernel
theorem dX12_readLast_53 : decode cX12_readLast 53 = .ok (.ireturn, 1) := by decide +kernel
theorem dX12_readLast_54 : decode cX12_readLast 54 = .ok (.aload_n 0, 1) := by decide +kernel
theorem dX12_readLast_55 : decode cX12_readLast 55 = .ok (.aload_n 0, 1) := by decide +kernel
theorem dX12_readLast_56 : decode cX12_readLast 56 = .ok (.getfield 123, 3) := by decide +kernel
theorem dX12_readLast_59 : decode cX12_readLast 59 = .ok (.putfield 159, 3) := by decide +kernel
theorem dX12_readLast_62 : decode cX12_readLast 62 = .ok (.aload_n 0, 1) := by decide +kernel
theorem dX12_readLast_63 : decode cX12_readLast 63 = .ok (.invokevirtual 162, 3) := by decide +kernel
theorem dX12_readLast_66 : decode cX12_readLast 66 = .ok (.iconst 1, 1) := by decide +kernel
theorem dX12_readLast_67 : decode cX12_readLast 67 = .ok (.ireturn, 1) := by decide +kernel
theorem hcX12_readLast : yX12_readLast.cls ≠ "java/lang/invoke/MethodHandle" ∧ yX12_readLast.cls ≠ "java/lang/invoke/VarHandle" ∧ (parseMethodDescriptor yX12_readLast.desc).map (fun d => d.parameters.length) = some 0 := ⟨by decide +kernel, by decide +kernel, by decide +kernel⟩
def fX12_readLast (s0 : sg_M) (Q : Int → sg_M → Prop) : Prop := (((s0 64 7) = 3 → fX12_isIn (s0 64 8) 1 99 (fun u4 => ((u4 ≠ 0 → sg_R ((s0 64 43) + (s0 64 8)) ∧ ((((s0 64 43) + (s0 64 8)) ≤ 200 → ∀ s12 : sg_M, s12 = sg_up s0 64 13 (s0 64 8) → fX12_go s12 (fun s14 => Q 1 s14)) ∧ (¬ (((s0 64 43) + (s0 64 8)) ≤ 200) → fX12_bad s0 4 (fun u15 s17 => Q u15 s17)))) ∧ (u4 = 0 → fX12_bad s0 2 (fun u18 s20 => Q u18 s20))))) ∧ (¬ ((s0 64 7) = 3) → fX12_bad s0 1 (fun u21 s23 => Q u21 s23)))
set_option maxHeartbeats 4000000 in
set_option maxRecDepth 100000 in
theorem CX12_readLast {l : Launch} {G : sg_G} {La : sg_L} {s0 : sg_M} (hst : sg_St La) {Q : Int → sg_M → Prop} (hf : fX12_readLast s0 Q) : sg_C l G yX12_readLast cX12_readLast 1 (some .boolean) 3 0 0 La s0 [sg_r 64] (sg_HZ La Q) := by
  refine sg_body (by decide +kernel) (Nat.le_of_ble_eq_true rfl) ?_
  intro p e s m args below meth c F hnm
  unfold fX12_readLast at hf
  show sg_W p l e (sg_rm 3 0 0) s m args below meth c (MQ below (sg_Q (some .boolean) G La s.heap.size (sg_HZ La Q)) args s 0 0 (sg_A La s.heap.size)) 1 G (sg_A La s.heap.size) La s0 0 0 0 [(0, sg_r 64)] []
  refine gw_aload_n F 0 rfl rfl (by decide) dX12_readLast_0 ?_
  refine gw_get0 F (so_64 hst) (by decide) rfl sg_lay_RX12 (j := 7) (by decide) rfl (host := "") (.inl kw_954) dX12_readLast_1 (fun h1 => ?_)
  refine gw_iconst F dX12_readLast_4 ?_
  refine gw_icmp_eq F (tgt := 14) dX12_readLast_5 (by decide) h1 (by decide) (fun c2 => ?_) (fun c2 => ?_)
  · have hf := hf.1 c2
    refine gw_aload_n F 0 rfl rfl (by decide) dX12_readLast_14 ?_
    refine gw_get0 F (so_64 hst) (by decide) rfl sg_lay_RX12 (j := 8) (by decide) rfl (host := "") (.inl kw_955) dX12_readLast_15 (fun h3 => ?_)
    refine gw_iconst F dX12_readLast_18 ?_
    refine gw_bipush F rfl dX12_readLast_19 ?_
    refine gk_PZ F (gc_S F (S := []) (As := [sg_i (s0 64 8), sg_i 1, sg_i 99]) (CX12_isIn h3 (by decide) (by decide) hf) kw_1075 kw_103 kw_1073 kw_1074 hcX12_isIn ⟨by decide, by decide⟩ rfl rfl (Nat.le_of_ble_eq_true rfl) ⟨by decide, by decide⟩ dX12_readLast_21) (fun u4 h5 hf => ?_)
    refine gw_if_ne F (tgt := 33) dX12_readLast_24 (by decide) (sg_B_R h5) (fun c6 => ?_) (fun c6 => ?_)
    · have hf := hf.1 c6
      refine gw_aload_n F 0 rfl rfl (by decide) dX12_readLast_33 ?_
      refine gw_get0 F (so_64 hst) (by decide) rfl sg_lay_RX12 (j := 43) (by decide) rfl (host := "") (.inl kw_990) dX12_readLast_34 (fun h7 => ?_)
      refine gw_aload_n F 0 rfl rfl (by decide) dX12_readLast_37 ?_
      refine gw_get0 F (so_64 hst) (by decide) rfl sg_lay_RX12 (j := 8) (by decide) rfl (host := "") (.inl kw_955) dX12_readLast_38 (fun h8 => ?_)
      refine gw_iadd F rfl dX12_readLast_41 ?_
      refine gw_sipush F rfl dX12_readLast_42 ?_
      obtain ⟨g9, hf⟩ := hf
      refine gw_icmp_le F (tgt := 54) dX12_readLast_45 (by decide) g9 (by decide) (fun c10 => ?_) (fun c10 => ?_)
      · have hf := hf.1 c10
        refine gw_aload_n F 0 rfl rfl (by decide) dX12_readLast_54 ?_
        refine gw_aload_n F 0 rfl rfl (by decide) dX12_readLast_55 ?_
        refine gw_get0 F (so_64 hst) (by decide) rfl sg_lay_RX12 (j := 8) (by decide) rfl (host := "") (.inl kw_955) dX12_readLast_56 (fun h11 => ?_)
        obtain ⟨s12, e13⟩ : ∃ z : sg_M, z = sg_up s0 64 13 (s0 64 8) := ⟨_, rfl⟩
        have hf := hf s12 e13
        refine gw_put0 F (so_64 hst) (by decide) rfl sg_lay_RX12 (j := 13) (by decide) h11 e13 tyX12_ok nmX12 rfl (tyX12_ok 13 (by decide)) rfl (host := "") (.inl kw_960) dX12_readLast_59 ?_
        refine gw_aload_n F 0 rfl rfl (by decide) dX12_readLast_62 ?_
        refine gk_HV F (gc_V F (S := []) (As := []) (T := TX12) (N := 62) (CX12_go hst hf) (so_64 hst) (by decide) rfl kw_1040 kw_103 kw_1038 kw_1039 kw_43 hcX12_go ⟨by decide, by decide⟩ rfl rfl (Nat.le_of_ble_eq_true rfl) ⟨by decide, by decide⟩ dX12_readLast_63) (fun s14 hf => ?_)
        refine gw_iconst F dX12_readLast_66 ?_
        exact gr_HZ F (by decide) hf (by decide) (by decide) dX12_readLast_67
      · have hf := hf.2 c10
        refine gw_aload_n F 0 rfl rfl (by decide) dX12_readLast_48 ?_
        refine gw_iconst F dX12_readLast_49 ?_
        refine gk_HZ F (gc_V F (S := []) (As := [sg_i 4]) (T := TX12) (N := 62) (CX12_bad hst (by decide) hf) (so_64 hst) (by decide) rfl kw_1069 kw_103 kw_1067 kw_1068 kw_47 hcX12_bad ⟨by decide, by decide⟩ rfl rfl (Nat.le_of_ble_eq_true rfl) ⟨by decide, by decide⟩ dX12_readLast_50) (fun u15 s17 h16 hf => ?_)
        exact gr_HZ F h16 hf (by decide) (by decide) dX12_readLast_53
    · have hf := hf.2 c6
      refine gw_aload_n F 0 rfl rfl (by decide) dX12_readLast_27 ?_
      refine gw_iconst F dX12_readLast_28 ?_
      refine gk_HZ F (gc_V F (S := []) (As := [sg_i 2]) (T := TX12) (N := 62) (CX12_bad hst (by decide) hf) (so_64 hst) (by decide) rfl kw_1069 kw_103 kw_1067 kw_1068 kw_47 hcX12_bad ⟨by decide, by decide⟩ rfl rfl (Nat.le_of_ble_eq_true rfl) ⟨by decide, by decide⟩ dX12_readLast_29) (fun u18 s20 h19 hf => ?_)
      exact gr_HZ F h19 hf (by decide) (by decide) dX12_readLast_32
  · have hf := hf.2 c2
    refine gw_aload_n F 0 rfl rfl (by decide) dX12_readLast_8 ?_
    refine gw_iconst F dX12_readLast_9 ?_
    refine gk_HZ F (gc_V F (S := []) (As := [sg_i 1]) (T := TX12) (N := 62) (CX12_bad hst (by decide) hf) (so_64 hst) (by decide) rfl kw_1069 kw_103 kw_1067 kw_1068 kw_47 hcX12_bad ⟨by decide, by decide⟩ rfl rfl (Nat.le_of_ble_eq_true rfl) ⟨by decide, by decide⟩ dX12_readLast_10) (fun u21 s23 h22 hf => ?_)
    exact gr_HZ F h22 hf (by decide) (by decide) dX12_readLast_13

theorem dX12_readNumber_0 : decode cX12_readNumber 0 = .ok (.aload_n 0, 1) := by decide +kernel
theorem dX12_readNumber_1 : decode cX12_readNumber 1 = .ok (.getfield 106, 3) := by decide +kernel
theorem dX12_readNumber_4 : decode cX12_readNumber 4 = .ok (.iconst 3, 1) := by decide +kernel
theorem dX12_readNumber_5 : decode cX12_readNumber 5 = .ok (.if_icmp .eq 9, 3) := by decide +kernel
theorem dX12_readNumber_8 : decode cX12_readNumber 8 = .ok (.aload_n 0, 1) := by decide +kernel
theorem dX12_readNumber_9 : decode cX12_readNumber 9 = .ok (.iconst 1, 1) := by decide +kernel
theorem dX12_readNumber_10 : decode cX12_readNumber 10 = .ok (.invokevirtual 152, 3) := by decide +kernel
theorem dX12_readNumber_13 : decode cX12_readNumber 13 = .ok (.ireturn, 1) := by decide +kernel
theorem dX12_readNumber_14 : decode cX12_readNumber 14 = .ok (.aload_n 0, 1) := by decide +kernel
theorem dX12_readNumber_15 : decode cX12_readNumber 15 = .ok (.getfield 123, 3) := by decide +kernel
theorem dX12_readNumber_18 : decode cX12_readNumber 18 = .ok (.iload_n 1, 1) := by decide +kernel
theorem dX12_readNumber_19 : decode cX12_readNumber 19 = .ok (.iload_n 2, 1) := by decide +kernel
theorem dX12_readNumber_20 : decode cX12_readNumber 20 = .ok (.invokestatic 155, 3) := by decide +kernel
theorem dX12_readNumber_23 : decode cX12_readNumber 23 = .ok (.ifCond .ne 9, 3) := by decide +kernel
theorem dX12_readNumber_26 : decode cX12_readNumber 26 = .ok (.aload_n 0, 1) := by decide +kernel
theorem dX12_readNumber_27 : decode cX12_readNumber 27 = .ok (.iconst 2, 1) := by decide +kernel
theorem dX12_readNumber_28 : decode cX12_readNumber 28 = .ok (.invokevirtual 152, 3) := by decide +kernel
theorem dX12_readNumber_31 : decode cX12_readNumber 31 = .ok (.ireturn, 1) := by decide +kernel
theorem dX12_readNumber_32 : decode cX12_readNumber 32 = .ok (.aload_n 0, 1) := by decide +kernel
theorem dX12_readNumber_33 : decode cX12_readNumber 33 = .ok (.aload_n 0, 1) := by decide +kernel
theorem dX12_readNumber_34 : decode cX12_readNumber 34 = .ok (.getfield 123, 3) := by decide +kernel
theorem dX12_readNumber_37 : decode cX12_readNumber 37 = .ok (.putfield 159, 3) := by decide +kernel
theorem dX12_readNumber_40 : decode cX12_readNumber 40 = .ok (.aload_n 0, 1) := by decide +kernel
theorem dX12_readNumber_41 : decode cX12_readNumber 41 = .ok (.invokevirtual 162, 3) := by decide +kernel
theorem dX12_readNumber_44 : decode cX12_readNumber 44 = .ok (.iconst 1, 1) := by decide +kernel
theorem dX12_readNumber_45 : decode cX12_readNumber 45 = .ok (.ireturn, 1) := by decide +kernel
theorem hcX12_readNumber : yX12_readNumber.cls ≠ "java/lang/invoke/MethodHandle" ∧ yX12_readNumber.cls ≠ "java/lang/invoke/VarHandle" ∧ (parseMethodDescriptor yX12_readNumber.desc).map (fun d => d.parameters.length) = some 2 := ⟨by decide +kernel, by decide +kernel, by decide +kernel⟩
def fX12_readNumber (s0 : sg_M) (x1 : Int) (x2 : Int) (Q : Int → sg_M → Prop) : Prop := (((s0 64 7) = 3 → fX12_isIn (s0 64 8) x1 x2 (fun u4 => ((u4 ≠ 0 → ∀ s8 : sg_M, s8 = sg_up s0 64 13 (s0 64 8) → fX12_go s8 (fun s10 => Q 1 s10)) ∧ (u4 = 0 → fX12_bad s0 2 (fun u11 s13 => Q u11 s13))))) ∧ (¬ ((s0 64 7) = 3) → fX12_bad s0 1 (fun u14 s16 => Q u14 s16)))
set_option maxHeartbeats 4000000 in
set_option maxRecDepth 100000 in
theorem CX12_readNumber {l : Launch} {G : sg_G} {La : sg_L} {s0 : sg_M} (hst : sg_St La) {x1 : Int} (r1 : sg_R x1) {x2 : Int} (r2 : sg_R x2) {Q : Int → sg_M → Prop} (hf : fX12_readNumber s0 x1 x2 Q) : sg_C l G yX12_readNumber cX12_readNumber 3 (some .boolean) 3 0 0 La s0 [sg_r 64, sg_i x1, sg_i x2] (sg_HZ La Q) := by
  refine sg_body (by decide +kernel) (Nat.le_of_ble_eq_true rfl) ?_
  intro p e s m args below meth c F hnm
  unfold fX12_readNumber at hf
  show sg_W p l e (sg_rm 3 0 0) s m args below meth c (MQ below (sg_Q (some .boolean) G La s.heap.size (sg_HZ La Q)) args s 0 0 (sg_A La s.heap.size)) 3 G (sg_A La s.heap.size) La s0 0 0 0 [(0, sg_r 64), (1, sg_i x1), (2, sg_i x2)] []
  refine gw_aload_n F 0 rfl rfl (by decide) dX12_readNumber_0 ?_
  refine gw_get0 F (so_64 hst) (by decide) rfl sg_lay_RX12 (j := 7) (by decide) rfl (host := "") (.inl kw_954) dX12_readNumber_1 (fun h1 => ?_)
  refine gw_iconst F dX12_readNumber_4 ?_
  refine gw_icmp_eq F (tgt := 14) dX12_readNumber_5 (by decide) h1 (by decide) (fun c2 => ?_) (fun c2 => ?_)
  · have hf := hf.1 c2
    refine gw_aload_n F 0 rfl rfl (by decide) dX12_readNumber_14 ?_
    refine gw_get0 F (so_64 hst) (by decide) rfl sg_lay_RX12 (j := 8) (by decide) rfl (host := "") (.inl kw_955) dX12_readNumber_15 (fun h3 => ?_)
    refine gw_iload_n F 1 rfl rfl dX12_readNumber_18 ?_
    refine gw_iload_n F 2 rfl rfl dX12_readNumber_19 ?_
    refine gk_PZ F (gc_S F (S := []) (As := [sg_i (s0 64 8), sg_i x1, sg_i x2]) (CX12_isIn h3 r1 r2 hf) kw_1075 kw_103 kw_1073 kw_1074 hcX12_isIn ⟨by decide, by decide⟩ rfl rfl (Nat.le_of_ble_eq_true rfl) ⟨by decide, by decide⟩ dX12_readNumber_20) (fun u4 h5 hf => ?_)
    refine gw_if_ne F (tgt := 32) dX12_readNumber_23 (by decide) (sg_B_R h5) (fun c6 => ?_) (fun c6 => ?_)
    · have hf := hf.1 c6
      refine gw_aload_n F 0 rfl rfl (by decide) dX12_readNumber_32 ?_
      refine gw_aload_n F 0 rfl rfl (by decide) dX12_readNumber_33 ?_
      refine gw_get0 F (so_64 hst) (by decide) rfl sg_lay_RX12 (j := 8) (by decide) rfl (host := "") (.inl kw_955) dX12_readNumber_34 (fun h7 => ?_)
      obtain ⟨s8, e9⟩ : ∃ z : sg_M, z = sg_up s0 64 13 (s0 64 8) := ⟨_, rfl⟩
      have hf := hf s8 e9
      refine gw_put0 F (so_64 hst) (by decide) rfl sg_lay_RX12 (j := 13) (by decide) h7 e9 tyX12_ok nmX12 rfl (tyX12_ok 13 (by decide)) rfl (host := "") (.inl kw_960) dX12_readNumber_37 ?_
      refine gw_aload_n F 0 rfl rfl (by decide) dX12_readNumber_40 ?_
      refine gk_HV F (gc_V F (S := []) (As := []) (T := TX12) (N := 62) (CX12_go hst hf) (so_64 hst) (by decide) rfl kw_1040 kw_103 kw_1038 kw_1039 kw_43 hcX12_go ⟨by decide, by decide⟩ rfl rfl (Nat.le_of_ble_eq_true rfl) ⟨by decide, by decide⟩ dX12_readNumber_41) (fun s10 hf => ?_)
      refine gw_iconst F dX12_readNumber_44 ?_
      exact gr_HZ F (by decide) hf (by decide) (by decide) dX12_readNumber_45
    · have hf := hf.2 c6
      refine gw_aload_n F 0 rfl rfl (by decide) dX12_readNumber_26 ?_
      refine gw_iconst F dX12_readNumber_27 ?_
      refine gk_HZ F (gc_V F (S := []) (As := [sg_i 2]) (T := TX12) (N := 62) (CX12_bad hst (by decide) hf) (so_64 hst) (by decide) rfl kw_1069 kw_103 kw_1067 kw_1068 kw_47 hcX12_bad ⟨by decide, by decide⟩ rfl rfl (Nat.le_of_ble_eq_true rfl) ⟨by decide, by decide⟩ dX12_readNumber_28) (fun u11 s13 h12 hf => ?_)
      exact gr_HZ F h12 hf (by decide) (by decide) dX12_readNumber_31
  · have hf := hf.2 c2
    refine gw_aload_n F 0 rfl rfl (by decide) dX12_readNumber_8 ?_
    refine gw_iconst F dX12_readNumber_9 ?_
    refine gk_HZ F (gc_V F (S := []) (As := [sg_i 1]) (T := TX12) (N := 62) (CX12_bad hst (by decide) hf) (so_64 hst) (by decide) rfl kw_1069 kw_103 kw_1067 kw_1068 kw_47 hcX12_bad ⟨by decide, by decide⟩ rfl rfl (Nat.le_of_ble_eq_true rfl) ⟨by decide, by decide⟩ dX12_readNumber_10) (fun u14 s16 h15 hf => ?_)
    exact gr_HZ F h15 hf (by decide) (by decide) dX12_readNumber_13

theorem dX12_readSigned_0 : decode cX12_readSigned 0 = .ok (.aload_n 0, 1) := by decide +kernel
theorem dX12_readSigned_1 : decode cX12_readSigned 1 = .ok (.bipush 45, 2) := by decide +kernel
theorem dX12_readSigned_3 : decode cX12_readSigned 3 = .ok (.invokevirtual 165, 3) := by decide +kernel
theorem dX12_readSigned_6 : decode cX12_readSigned 6 = .ok (.istore_n 2, 1) := by decide +kernel
theorem dX12_readSigned_7 : decode cX12_readSigned 7 = .ok (.iload_n 2, 1) := by decide +kernel
theorem dX12_readSigned_8 : decode cX12_readSigned 8 = .ok (.ifCond .eq 7, 3) := by decide +kernel
theorem dX12_readSigned_11 : decode cX12_readSigned 11 = .ok (.aload_n 0, 1) := by decide +kernel
theorem dX12_readSigned_12 : decode cX12_readSigned 12 = .ok (.invokevirtual 162, 3) := by decide +kernel
theorem dX12_readSigned_15 : decode cX12_readSigned 15 = .ok (.aload_n 0, 1) := by decide +kernel
theorem dX12_readSigned_16 : decode cX12_readSigned 16 = .ok (.iconst 0, 1) := by decide +kernel
theorem dX12_readSigned_17 : decode cX12_readSigned 17 = .ok (.iload_n 1, 1) := by decide +kernel
theorem dX12_readSigned_18 : decode cX12_readSigned 18 = .ok (.invokevirtual 168, 3) := by decide +kernel
theorem dX12_readSigned_21 : decode cX12_readSigned 21 = .ok (.ifCond .ne 5, 3) := by decide +kernel
theorem dX12_readSigned_24 : decode cX12_readSigned 24 = .ok (.iconst 0, 1) := by decide +kernel
theorem dX12_readSigned_25 : decode cX12_readSigned 25 = .ok (.ireturn, 1) := by decide +kernel
theorem dX12_readSigned_26 : decode cX12_readSigned 26 = .ok (.iload_n 2, 1) := by decide +kernel
theorem dX12_readSigned_27 : decode cX12_readSigned 27 = .ok (.ifCond .eq 12, 3) := by decide +kernel
theorem dX12_readSigned_30 : decode cX12_readSigned 30 = .ok (.aload_n 0, 1) := by decide +kernel
theorem dX12_readSigned_31 : decode cX12_readSigned 31 = .ok (.aload_n 0, 1) := by decide +kernel
theorem dX12_readSigned_32 : decode cX12_readSigned 32 = .ok (.getfield 159, 3) := by decide +kernel
theorem dX12_readSigned_35 : decode cX12_readSigned 35 = .ok (.ineg, 1) := by decide +kernel
theorem dX12_readSigned_36 : decode cX12_readSigned 36 = .ok (.putfield 159, 3) := by decide +kernel
theorem dX12_readSigned_39 : decode cX12_readSigned 39 = .ok (.iconst 1, 1) := by decide +kernel
theorem dX12_readSigned_40 : decode cX12_readSigned 40 = .ok (.ireturn, 1) := by decide +kernel
theorem hcX12_readSigned : yX12_readSigned.cls ≠ "java/lang/invoke/MethodHandle" ∧ yX12_readSigned.cls ≠ "java/lang/invoke/VarHandle" ∧ (parseMethodDescriptor yX12_readSigned.desc).map (fun d => d.parameters.length) = some 1 := ⟨by decide +kernel, by decide +kernel, by decide +kernel⟩
def fX12_readSigned_j15 (x1 : Int) (u1 : Int) (Q : Int → sg_M → Prop) (s_15 : sg_M) : Prop := fX12_readNumber s_15 0 x1 (fun u3 s5 => ((u3 ≠ 0 → ((u1 = 0 → Q 1 s5) ∧ (¬ (u1 = 0) → sg_R (-(s5 64 13)) ∧ ∀ s10 : sg_M, s10 = sg_up s5 64 13 (-(s5 64 13)) → Q 1 s10))) ∧ (u3 = 0 → Q 0 s5)))
def fX12_readSigned (s0 : sg_M) (x1 : Int) (Q : Int → sg_M → Prop) : Prop := fX12_isSign s0 45 (fun u1 => ((u1 = 0 → (fX12_readSigned_j15 x1 u1 Q) s0) ∧ (¬ (u1 = 0) → fX12_go s0 (fun s13 => (fX12_readSigned_j15 x1 u1 Q) s13))))
set_option maxHeartbeats 4000000 in
set_option maxRecDepth 100000 in
theorem CX12_readSigned {l : Launch} {G : sg_G} {La : sg_L} {s0 : sg_M} (hst : sg_St La) {x1 : Int} (r1 : sg_R x1) {Q : Int → sg_M → Prop} (hf : fX12_readSigned s0 x1 Q) : sg_C l G yX12_readSigned cX12_readSigned 3 (some .boolean) 4 0 0 La s0 [sg_r 64, sg_i x1] (sg_HZ La Q) := by
  refine sg_body (by decide +kernel) (Nat.le_of_ble_eq_true rfl) ?_
  intro p e s m args below meth c F hnm
  unfold fX12_readSigned at hf
  show sg_W p l e (sg_rm 4 0 0) s m args below meth c (MQ below (sg_Q (some .boolean) G La s.heap.size (sg_HZ La Q)) args s 0 0 (sg_A La s.heap.size)) 3 G (sg_A La s.heap.size) La s0 0 0 0 [(0, sg_r 64), (1, sg_i x1)] []
  refine gw_aload_n F 0 rfl rfl (by decide) dX12_readSigned_0 ?_
  refine gw_bipush F rfl dX12_readSigned_1 ?_
  refine gk_PZ F (gc_V F (S := []) (As := [sg_i 45]) (T := TX12) (N := 62) (CX12_isSign hst (by decide) hf) (so_64 hst) (by decide) rfl kw_1081 kw_103 kw_1079 kw_1080 kw_50 hcX12_isSign ⟨by decide, by decide⟩ rfl rfl (Nat.le_of_ble_eq_true rfl) ⟨by decide, by decide⟩ dX12_readSigned_3) (fun u1 h2 hf => ?_)
  refine gw_istore_n F rfl (by decide) rfl dX12_readSigned_6 ?_
  refine gw_iload_n F 0 rfl rfl dX12_readSigned_7 ?_
  have J15 : ∀ (s_15 : sg_M), (fX12_readSigned_j15 x1 u1 Q) s_15 → sg_W p l e (sg_rm 4 0 0) s m args below meth c (MQ below (sg_Q (some .boolean) G La s.heap.size (sg_HZ La Q)) args s 0 0 (sg_A La s.heap.size)) 3 G (sg_A La s.heap.size) La s_15 0 0 15 [(0, sg_r 64), (1, sg_i x1), (2, sg_i u1)] [] := by
    intro s_15 hf
    unfold fX12_readSigned_j15 at hf
    refine gw_aload_n F 0 rfl rfl (by decide) dX12_readSigned_15 ?_
    refine gw_iconst F dX12_readSigned_16 ?_
    refine gw_iload_n F 1 rfl rfl dX12_readSigned_17 ?_
    refine gk_HZ F (gc_V F (S := []) (As := [sg_i 0, sg_i x1]) (T := TX12) (N := 62) (CX12_readNumber hst (by decide) r1 hf) (so_64 hst) (by decide) rfl kw_1072 kw_103 kw_1070 kw_1071 kw_48 hcX12_readNumber ⟨by decide, by decide⟩ rfl rfl (Nat.le_of_ble_eq_true rfl) ⟨by decide, by decide⟩ dX12_readSigned_18) (fun u3 s5 h4 hf => ?_)
    refine gw_if_ne F (tgt := 26) dX12_readSigned_21 (by decide) (sg_B_R h4) (fun c6 => ?_) (fun c6 => ?_)
    · have hf := hf.1 c6
      refine gw_iload_n F 2 rfl rfl dX12_readSigned_26 ?_
      refine gw_if_eq F (tgt := 39) dX12_readSigned_27 (by decide) (sg_B_R h2) (fun c7 => ?_) (fun c7 => ?_)
      · have hf := hf.1 c7
        refine gw_iconst F dX12_readSigned_39 ?_
        exact gr_HZ F (by decide) hf (by decide) (by decide) dX12_readSigned_40
      · have hf := hf.2 c7
        refine gw_aload_n F 0 rfl rfl (by decide) dX12_readSigned_30 ?_
        refine gw_aload_n F 0 rfl rfl (by decide) dX12_readSigned_31 ?_
        refine gw_get0 F (so_64 hst) (by decide) rfl sg_lay_RX12 (j := 13) (by decide) rfl (host := "") (.inl kw_960) dX12_readSigned_32 (fun h8 => ?_)
        refine gw_ineg F rfl dX12_readSigned_35 ?_
        obtain ⟨g9, hf⟩ := hf
        obtain ⟨s10, e11⟩ : ∃ z : sg_M, z = sg_up s5 64 13 (-(s5 64 13)) := ⟨_, rfl⟩
        have hf := hf s10 e11
        refine gw_put0 F (so_64 hst) (by decide) rfl sg_lay_RX12 (j := 13) (by decide) g9 e11 tyX12_ok nmX12 rfl (tyX12_ok 13 (by decide)) rfl (host := "") (.inl kw_960) dX12_readSigned_36 ?_
        refine gw_iconst F dX12_readSigned_39 ?_
        exact gr_HZ F (by decide) hf (by decide) (by decide) dX12_readSigned_40
    · have hf := hf.2 c6
      refine gw_iconst F dX12_readSigned_24 ?_
      exact gr_HZ F (by decide) hf (by decide) (by decide) dX12_readSigned_25
  refine gw_if_eq F (tgt := 15) dX12_readSigned_8 (by decide) (sg_B_R h2) (fun c12 => ?_) (fun c12 => ?_)
  · have hf := hf.1 c12
    refine gw_sub [1, 2, 0] rfl ?_
    exact J15 s0 hf
  · have hf := hf.2 c12
    refine gw_aload_n F 1 rfl rfl (by decide) dX12_readSigned_11 ?_
    refine gk_HV F (gc_V F (S := []) (As := []) (T := TX12) (N := 62) (CX12_go hst hf) (so_64 hst) (by decide) rfl kw_1040 kw_103 kw_1038 kw_1039 kw_43 hcX12_go ⟨by decide, by decide⟩ rfl rfl (Nat.le_of_ble_eq_true rfl) ⟨by decide, by decide⟩ dX12_readSigned_12) (fun s13 hf => ?_)
    refine gw_sub [1, 2, 0] rfl ?_
    exact J15 s13 hf

theorem dX12_readWord_0 : decode cX12_readWord 0 = .ok (.aload_n 0, 1) := by decide +kernel
theorem dX12_readWord_1 : decode cX12_readWord 1 = .ok (.iload_n 1, 1) := by decide +kernel
theorem dX12_readWord_2 : decode cX12_readWord 2 = .ok (.invokevirtual 172, 3) := by decide +kernel
theorem dX12_readWord_5 : decode cX12_readWord 5 = .ok (.ifCond .ne 9, 3) := by decide +kernel
theorem dX12_readWord_8 : decode cX12_readWord 8 = .ok (.aload_n 0, 1) := by decide +kernel
theorem dX12_readWord_9 : decode cX12_readWord 9 = .ok (.iconst 1, 1) := by decide +kernel
theorem dX12_readWord_10 : decode cX12_readWord 10 = .ok (.invokevirtual 152, 3) := by decide +kernel
theorem dX12_readWord_13 : decode cX12_readWord 13 = .ok (.ireturn, 1) := by decide +kernel
theorem dX12_readWord_14 : decode cX12_readWord 14 = .ok (.aload_n 0, 1) := by decide +kernel
theorem dX12_readWord_15 : decode cX12_readWord 15 = .ok (.invokevirtual 162, 3) := by decide +kernel
theorem dX12_readWord_18 : decode cX12_readWord 18 = .ok (.iconst 1, 1) := by decide +kernel
theorem dX12_readWord_19 : decode cX12_readWord 19 = .ok (.ireturn, 1) := by decide +kernel
theorem hcX12_readWord : yX12_readWord.cls ≠ "java/lang/invoke/MethodHandle" ∧ yX12_readWord.cls ≠ "java/lang/invoke/VarHandle" ∧ (parseMethodDescriptor yX12_readWord.desc).map (fun d => d.parameters.length) = some 1 := ⟨by decide +kernel, by decide +kernel, by decide +kernel⟩
def fX12_readWord (s0 : sg_M) (x1 : Int) (Q : Int → sg_M → Prop) : Prop := fX12_isWord s0 x1 (fun u1 => ((u1 ≠ 0 → fX12_go s0 (fun s4 => Q 1 s4)) ∧ (u1 = 0 → fX12_bad s0 1 (fun u5 s7 => Q u5 s7))))
set_option maxHeartbeats 4000000 in
set_option maxRecDepth 100000 in
theorem CX12_readWord {l : Launch} {G : sg_G} {La : sg_L} {s0 : sg_M} (hst : sg_St La) {x1 : Int} (r1 : sg_R x1) {Q : Int → sg_M → Prop} (hf : fX12_readWord s0 x1 Q) : sg_C l G yX12_readWord cX12_readWord 2 (some .boolean) 4 0 0 La s0 [sg_r 64, sg_i x1] (sg_HZ La Q) := by
  refine sg_body (by decide +kernel) (Nat.le_of_ble_eq_true rfl) ?_
  intro p e s m args below meth c F hnm
  unfold fX12_readWord at hf
  show sg_W p l e (sg_rm 4 0 0) s m args below meth c (MQ below (sg_Q (some .boolean) G La s.heap.size (sg_HZ La Q)) args s 0 0 (sg_A La s.heap.size)) 2 G (sg_A La s.heap.size) La s0 0 0 0 [(0, sg_r 64), (1, sg_i x1)] []
  refine gw_aload_n F 0 rfl rfl (by decide) dX12_readWord_0 ?_
  refine gw_iload_n F 1 rfl rfl dX12_readWord_1 ?_
  refine gk_PZ F (gc_V F (S := []) (As := [sg_i x1]) (T := TX12) (N := 62) (CX12_isWord hst r1 hf) (so_64 hst) (by decide) rfl kw_1057 kw_103 kw_1055 kw_1056 kw_46 hcX12_isWord ⟨by decide, by decide⟩ rfl rfl (Nat.le_of_ble_eq_true rfl) ⟨by decide, by decide⟩ dX12_readWord_2) (fun u1 h2 hf => ?_)
  refine gw_if_ne F (tgt := 14) dX12_readWord_5 (by decide) (sg_B_R h2) (fun c3 => ?_) (fun c3 => ?_)
  · have hf := hf.1 c3
    refine gw_aload_n F 0 rfl rfl (by decide) dX12_readWord_14 ?_
    refine gk_HV F (gc_V F (S := []) (As := []) (T := TX12) (N := 62) (CX12_go hst hf) (so_64 hst) (by decide) rfl kw_1040 kw_103 kw_1038 kw_1039 kw_43 hcX12_go ⟨by decide, by decide⟩ rfl rfl (Nat.le_of_ble_eq_true rfl) ⟨by decide, by decide⟩ dX12_readWord_15) (fun s4 hf => ?_)
    refine gw_iconst F dX12_readWord_18 ?_
    exact gr_HZ F (by decide) hf (by decide) (by decide) dX12_readWord_19
  · have hf := hf.2 c3
    refine gw_aload_n F 0 rfl rfl (by decide) dX12_readWord_8 ?_
    refine gw_iconst F dX12_readWord_9 ?_
    refine gk_HZ F (gc_V F (S := []) (As := [sg_i 1]) (T := TX12) (N := 62) (CX12_bad hst (by decide) hf) (so_64 hst) (by decide) rfl kw_1069 kw_103 kw_1067 kw_1068 kw_47 hcX12_bad ⟨by decide, by decide⟩ rfl rfl (Nat.le_of_ble_eq_true rfl) ⟨by decide, by decide⟩ dX12_readWord_10) (fun u5 s7 h6 hf => ?_)
    exact gr_HZ F h6 hf (by decide) (by decide) dX12_readWord_13

theorem dX12_readTime_0 : decode cX12_readTime 0 = .ok (.aload_n 0, 1) := by decide +kernel
theorem dX12_readTime_1 : decode cX12_readTime 1 = .ok (.bipush 7, 2) := by decide +kernel
theorem dX12_readTime_3 : decode cX12_readTime 3 = .ok (.invokevirtual 289, 3) := by decide +kernel
theorem dX12_readTime_6 : decode cX12_readTime 6 = .ok (.ifCond .ne 5, 3) := by decide +kernel
theorem dX12_readTime_9 : decode cX12_readTime 9 = .ok (.iconst 0, 1) := by decide +kernel
theorem dX12_readTime_10 : decode cX12_readTime 10 = .ok (.ireturn, 1) := by decide +kernel
theorem dX12_readTime_11 : decode cX12_readTime 11 = .ok (.aload_n 0, 1) := by decide +kernel
theorem dX12_readTime_12 : decode cX12_readTime 12 = .ok (.invokevirtual 292, 3) := by decide +kernel
theorem dX12_readTime_15 : decode cX12_readTime 15 = .ok (.ireturn, 1) := by decide +kernel
theorem hcX12_readTime : yX12_readTime.cls ≠ "java/lang/invoke/MethodHandle" ∧ yX12_readTime.cls ≠ "java/lang/invoke/VarHandle" ∧ (parseMethodDescriptor yX12_readTime.desc).map (fun d => d.parameters.length) = some 0 := ⟨by decide +kernel, by decide +kernel, by decide +kernel⟩
def fX12_readTime (s0 : sg_M) (Q : Int → sg_M → Prop) : Prop := fX12_readWord s0 7 (fun u1 s3 => ((u1 ≠ 0 → fX12_readLast s3 (fun u5 s7 => Q u5 s7)) ∧ (u1 = 0 → Q 0 s3)))
set_option maxHeartbeats 4000000 in
set_option maxRecDepth 100000 in
theorem CX12_readTime {l : Launch} {G : sg_G} {La : sg_L} {s0 : sg_M} (hst : sg_St La) {Q : Int → sg_M → Prop} (hf : fX12_readTime s0 Q) : sg_C l G yX12_readTime cX12_readTime 1 (some .boolean) 5 0 0 La s0 [sg_r 64] (sg_HZ La Q) := by
  refine sg_body (by decide +kernel) (Nat.le_of_ble_eq_true rfl) ?_
  intro p e s m args below meth c F hnm
  unfold fX12_readTime at hf
  show sg_W p l e (sg_rm 5 0 0) s m args below meth c (MQ below (sg_Q (some .boolean) G La s.heap.size (sg_HZ La Q)) args s 0 0 (sg_A La s.heap.size)) 1 G (sg_A La s.heap.size) La s0 0 0 0 [(0, sg_r 64)] []
  refine gw_aload_n F 0 rfl rfl (by decide) dX12_readTime_0 ?_
  refine gw_bipush F rfl dX12_readTime_1 ?_
  refine gk_HZ F (gc_V F (S := []) (As := [sg_i 7]) (T := TX12) (N := 62) (CX12_readWord hst (by decide) hf) (so_64 hst) (by decide) rfl kw_1177 kw_103 kw_1175 kw_1176 kw_65 hcX12_readWord ⟨by decide, by decide⟩ rfl rfl (Nat.le_of_ble_eq_true rfl) ⟨by decide, by decide⟩ dX12_readTime_3) (fun u1 s3 h2 hf => ?_)
  refine gw_if_ne F (tgt := 11) dX12_readTime_6 (by decide) (sg_B_R h2) (fun c4 => ?_) (fun c4 => ?_)
  · have hf := hf.1 c4
    refine gw_aload_n F 0 rfl rfl (by decide) dX12_readTime_11 ?_
    refine gk_HZ F (gc_V F (S := []) (As := []) (T := TX12) (N := 62) (CX12_readLast hst hf) (so_64 hst) (by decide) rfl kw_1180 kw_103 kw_1178 kw_1179 kw_66 hcX12_readLast ⟨by decide, by decide⟩ rfl rfl (Nat.le_of_ble_eq_true rfl) ⟨by decide, by decide⟩ dX12_readTime_12) (fun u5 s7 h6 hf => ?_)
    exact gr_HZ F h6 hf (by decide) (by decide) dX12_readTime_15
  · have hf := hf.2 c4
    refine gw_iconst F dX12_readTime_9 ?_
    exact gr_HZ F (by decide) hf (by decide) (by decide) dX12_readTime_10

theorem dX12_tickTo_0 : decode cX12_tickTo 0 = .ok (.aload_n 0, 1) := by decide +kernel
theorem dX12_tickTo_1 : decode cX12_tickTo 1 = .ok (.getfield 22, 3) := by decide +kernel
theorem dX12_tickTo_4 : decode cX12_tickTo 4 = .ok (.aload_n 0, 1) := by decide +kernel
theorem dX12_tickTo_5 : decode cX12_tickTo 5 = .ok (.getfield 295, 3) := by decide +kernel
theorem dX12_tickTo_8 : decode cX12_tickTo 8 = .ok (.iload_n 1, 1) := by decide +kernel
theorem dX12_tickTo_9 : decode cX12_tickTo 9 = .ok (.iastore, 1) := by decide +kernel
theorem dX12_tickTo_10 : decode cX12_tickTo 10 = .ok (.aload_n 0, 1) := by decide +kernel
theorem dX12_tickTo_11 : decode cX12_tickTo 11 = .ok (.getfield 25, 3) := by decide +kernel
theorem dX12_tickTo_14 : decode cX12_tickTo 14 = .ok (.aload_n 0, 1) := by decide +kernel
theorem dX12_tickTo_15 : decode cX12_tickTo 15 = .ok (.getfield 295, 3) := by decide +kernel
theorem dX12_tickTo_18 : decode cX12_tickTo 18 = .ok (.iload_n 2, 1) := by decide +kernel
theorem dX12_tickTo_19 : decode cX12_tickTo 19 = .ok (.iastore, 1) := by decide +kernel
theorem dX12_tickTo_20 : decode cX12_tickTo 20 = .ok (.aload_n 0, 1) := by decide +kernel
theorem dX12_tickTo_21 : decode cX12_tickTo 21 = .ok (.dup, 1) := by decide +kernel
theorem dX12_tickTo_22 : decode cX12_tickTo 22 = .ok (.getfield 295, 3) := by decide +kernel
theorem dX12_tickTo_25 : decode cX12_tickTo 25 = .ok (.iconst 1, 1) := by decide +kernel
theorem dX12_tickTo_26 : decode cX12_tickTo 26 = .ok (.iadd, 1) := by decide +kernel
theorem dX12_tickTo_27 : decode cX12_tickTo 27 = .ok (.putfield 295, 3) := by decide +kernel
theorem dX12_tickTo_30 : decode cX12_tickTo 30 = .ok (.return_, 1) := by decide +kernel
theorem hcX12_tickTo : yX12_tickTo.cls ≠ "java/lang/invoke/MethodHandle" ∧ yX12_tickTo.cls ≠ "java/lang/invoke/VarHandle" ∧ (parseMethodDescriptor yX12_tickTo.desc).map (fun d => d.parameters.length) = some 2 := ⟨by decide +kernel, by decide +kernel, by decide +kernel⟩
def fX12_tickTo (s0 : sg_M) (x1 : Int) (x2 : Int) (Q : sg_M → Prop) : Prop := (0 ≤ (s0 64 43) ∧ (s0 64 43) < 200) ∧ ∀ s4 : sg_M, s4 = sg_up s0 69 (s0 64 43) x1 → (0 ≤ (s4 64 43) ∧ (s4 64 43) < 200) ∧ ∀ s9 : sg_M, s9 = sg_up s4 70 (s4 64 43) x2 → sg_R ((s9 64 43) + 1) ∧ ∀ s13 : sg_M, s13 = sg_up s9 64 43 ((s9 64 43) + 1) → Q s13
set_option maxHeartbeats 4000000 in
set_option maxRecDepth 100000 in
theorem CX12_tickTo {l : Launch} {G : sg_G} {La : sg_L} {s0 : sg_M} (hst : sg_St La) {x1 : Int} (r1 : sg_R x1) {x2 : Int} (r2 : sg_R x2) {Q : sg_M → Prop} (hf : fX12_tickTo s0 x1 x2 Q) : sg_C l G yX12_tickTo cX12_tickTo 3 (none) 1 0 0 La s0 [sg_r 64, sg_i x1, sg_i x2] (sg_HV La Q) := by
  refine sg_body (by decide +kernel) (Nat.le_of_ble_eq_true rfl) ?_
  intro p e s m args below meth c F hnm
  unfold fX12_tickTo at hf
  show sg_W p l e (sg_rm 1 0 0) s m args below meth c (MQ below (sg_Q (none) G La s.heap.size (sg_HV La Q)) args s 0 0 (sg_A La s.heap.size)) 3 G (sg_A La s.heap.size) La s0 0 0 0 [(0, sg_r 64), (1, sg_i x1), (2, sg_i x2)] []
  refine gw_aload_n F 0 rfl rfl (by decide) dX12_tickTo_0 ?_
  refine gw_get7 F (so_64 hst) (by decide) rfl sg_lay_RX12 (j := 17) (by decide) (o1 := 69) (by first | rfl | omega) rfl (host := "") (.inl kw_964) dX12_tickTo_1 (fun h1 => ?_)
  refine gw_aload_n F 0 rfl rfl (by decide) dX12_tickTo_4 ?_
  refine gw_get0 F (so_64 hst) (by decide) rfl sg_lay_RX12 (j := 43) (by decide) rfl (host := "") (.inl kw_990) dX12_tickTo_5 (fun h2 => ?_)
  refine gw_iload_n F 1 rfl rfl dX12_tickTo_8 ?_
  obtain ⟨⟨b30, b31⟩, hf⟩ := hf
  obtain ⟨s4, e5⟩ : ∃ z : sg_M, z = sg_up s0 69 (s0 64 43) x1 := ⟨_, rfl⟩
  have hf := hf s4 e5
  refine gw_iast F (sa_69 hst) b30 b31 r1 e5 dX12_tickTo_9 ?_
  refine gw_aload_n F 0 rfl rfl (by decide) dX12_tickTo_10 ?_
  refine gw_get7 F (so_64 hst) (by decide) rfl sg_lay_RX12 (j := 18) (by decide) (o1 := 70) (by first | rfl | omega) rfl (host := "") (.inl kw_965) dX12_tickTo_11 (fun h6 => ?_)
  refine gw_aload_n F 0 rfl rfl (by decide) dX12_tickTo_14 ?_
  refine gw_get0 F (so_64 hst) (by decide) rfl sg_lay_RX12 (j := 43) (by decide) rfl (host := "") (.inl kw_990) dX12_tickTo_15 (fun h7 => ?_)
  refine gw_iload_n F 2 rfl rfl dX12_tickTo_18 ?_
  obtain ⟨⟨b80, b81⟩, hf⟩ := hf
  obtain ⟨s9, e10⟩ : ∃ z : sg_M, z = sg_up s4 70 (s4 64 43) x2 := ⟨_, rfl⟩
  have hf := hf s9 e10
  refine gw_iast F (sa_70 hst) b80 b81 r2 e10 dX12_tickTo_19 ?_
  refine gw_aload_n F 0 rfl rfl (by decide) dX12_tickTo_20 ?_
  refine gw_dup F rfl dX12_tickTo_21 ?_
  refine gw_get0 F (so_64 hst) (by decide) rfl sg_lay_RX12 (j := 43) (by decide) rfl (host := "") (.inl kw_990) dX12_tickTo_22 (fun h11 => ?_)
  refine gw_iconst F dX12_tickTo_25 ?_
  refine gw_iadd F rfl dX12_tickTo_26 ?_
  obtain ⟨g12, hf⟩ := hf
  obtain ⟨s13, e14⟩ : ∃ z : sg_M, z = sg_up s9 64 43 ((s9 64 43) + 1) := ⟨_, rfl⟩
  have hf := hf s13 e14
  refine gw_put0 F (so_64 hst) (by decide) rfl sg_lay_RX12 (j := 43) (by decide) g12 e14 tyX12_ok nmX12 rfl (tyX12_ok 43 (by decide)) rfl (host := "") (.inl kw_990) dX12_tickTo_27 ?_
  exact gr_HV F hf (by decide) (by decide) dX12_tickTo_30

theorem dX12_readStep_0 : decode cX12_readStep 0 = .ok (.aload_n 0, 1) := by decide +kernel
theorem dX12_readStep_1 : decode cX12_readStep 1 = .ok (.iconst 5, 1) := by decide +kernel
theorem dX12_readStep_2 : decode cX12_readStep 2 = .ok (.invokevirtual 172, 3) := by decide +kernel
theorem dX12_readStep_5 : decode cX12_readStep 5 = .ok (.ifCond .ne 12, 3) := by decide +kernel
theorem dX12_readStep_8 : decode cX12_readStep 8 = .ok (.aload_n 0, 1) := by decide +kernel
theorem dX12_readStep_9 : decode cX12_readStep 9 = .ok (.bipush 6, 2) := by decide +kernel
theorem dX12_readStep_11 : decode cX12_readStep 11 = .ok (.invokevirtual 172, 3) := by decide +kernel
theorem dX12_readStep_14 : decode cX12_readStep 14 = .ok (.ifCond .eq 139, 3) := by decide +kernel
theorem dX12_readStep_17 : decode cX12_readStep 17 = .ok (.aload_n 0, 1) := by decide +kernel
theorem dX12_readStep_18 : decode cX12_readStep 18 = .ok (.bipush 6, 2) := by decide +kernel
theorem dX12_readStep_20 : decode cX12_readStep 20 = .ok (.invokevirtual 172, 3) := by decide +kernel
theorem dX12_readStep_23 : decode cX12_readStep 23 = .ok (.istore_n 1, 1) := by decide +kernel
theorem dX12_readStep_24 : decode cX12_readStep 24 = .ok (.aload_n 0, 1) := by decide +kernel
theorem dX12_readStep_25 : decode cX12_readStep 25 = .ok (.invokevirtual 162, 3) := by decide +kernel
theorem dX12_readStep_28 : decode cX12_readStep 28 = .ok (.aload_n 0, 1) := by decide +kernel
theorem dX12_readStep_29 : decode cX12_readStep 29 = .ok (.sipush 9999, 3) := by decide +kernel
theorem dX12_readStep_32 : decode cX12_readStep 32 = .ok (.invokevirtual 193, 3) := by decide +kernel
theorem dX12_readStep_35 : decode cX12_readStep 35 = .ok (.ifCond .ne 5, 3) := by decide +kernel
theorem dX12_readStep_38 : decode cX12_readStep 38 = .ok (.iconst 0, 1) := by decide +kernel
theorem dX12_readStep_39 : decode cX12_readStep 39 = .ok (.ireturn, 1) := by decide +kernel
theorem dX12_readStep_40 : decode cX12_readStep 40 = .ok (.aload_n 0, 1) := by decide +kernel
theorem dX12_readStep_41 : decode cX12_readStep 41 = .ok (.getfield 159, 3) := by decide +kernel
theorem dX12_readStep_44 : decode cX12_readStep 44 = .ok (.istore_n 2, 1) := by decide +kernel
theorem dX12_readStep_45 : decode cX12_readStep 45 = .ok (.aload_n 0, 1) := by decide +kernel
theorem dX12_readStep_46 : decode cX12_readStep 46 = .ok (.sipush 9999, 3) := by decide +kernel
theorem dX12_readStep_49 : decode cX12_readStep 49 = .ok (.invokevirtual 193, 3) := by decide +kernel
theorem dX12_readStep_52 : decode cX12_readStep 52 = .ok (.ifCond .ne 5, 3) := by decide +kernel
theorem dX12_readStep_55 : decode cX12_readStep 55 = .ok (.iconst 0, 1) := by decide +kernel
theorem dX12_readStep_56 : decode cX12_readStep 56 = .ok (.ireturn, 1) := by decide +kernel
theorem dX12_readStep_57 : decode cX12_readStep 57 = .ok (.aload_n 0, 1) := by decide +kernel
theorem dX12_readStep_58 : decode cX12_readStep 58 = .ok (.getfield 159, 3) := by decide +kernel
theorem dX12_readStep_61 : decode cX12_readStep 61 = .ok (.istore_n 3, 1) := by decide +kernel
theorem dX12_readStep_62 : decode cX12_readStep 62 = .ok (.iconst 0, 1) := by decide +kernel
theorem dX12_readStep_63 : decode cX12_readStep 63 = .ok (.istore 4, 2) := by decide +kernel
theorem dX12_readStep_65 : decode cX12_readStep 65 = .ok (.iload_n 1, 1) := by decide +kernel
theorem dX12_readStep_66 : decode cX12_readStep 66 = .ok (.ifCond .eq 18, 3) := by decide +kernel
theorem dX12_readStep_69 : decode cX12_readStep 69 = .ok (.aload_n 0, 1) := by decide +kernel
theorem dX12_readStep_70 : decode cX12_readStep 70 = .ok (.invokevirtual 298, 3) := by decide +kernel
theorem dX12_readStep_73 : decode cX12_readStep 73 = .ok (.ifCond .ne 5, 3) := by decide +kernel
theorem dX12_readStep_76 : decode cX12_readStep 76 = .ok (.iconst 0, 1) := by decide +kernel
theorem dX12_readStep_77 : decode cX12_readStep 77 = .ok (.ireturn, 1) := by decide +kernel
theorem dX12_readStep_78 : decode cX12_readStep 78 = .ok (.aload_n 0, 1) := by decide +kernel
theorem dX12_readStep_79 : decode cX12_readStep 79 = .ok (.getfield 159, 3) := by decide +kernel
theorem dX12_readStep_82 : decode cX12_readStep 82 = .ok (.istore 4, 2) := by decide +kernel
theorem dX12_readStep_84 : decode cX12_readStep 84 = .ok (.iconst 1, 1) := by decide +kernel
theorem dX12_readStep_85 : decode cX12_readStep 85 = .ok (.istore 5, 2) := by decide +kernel
theorem dX12_readStep_87 : decode cX12_readStep 87 = .ok (.iload 5, 2) := by decide +kernel
theorem dX12_readStep_89 : decode cX12_readStep 89 = .ok (.iload 4, 2) := by decide +kernel
theorem dX12_readStep_91 : decode cX12_readStep 91 = .ok (.if_icmp .gt 47, 3) := by decide +kernel
theorem dX12_readStep_94 : decode cX12_readStep 94 = .ok (.aload_n 0, 1) := by decide +kernel
theorem dX12_readStep_95 : decode cX12_readStep 95 = .ok (.aload_n 0, 1) := by decide +kernel
theorem dX12_readStep_96 : decode cX12_readStep 96 = .ok (.getfield 301, 3) := by decide +kernel
theorem dX12_readStep_99 : decode cX12_readStep 99 = .ok (.iload_n 2, 1) := by decide +kernel
theorem dX12_readStep_100 : decode cX12_readStep 100 = .ok (.aload_n 0, 1) := by decide +kernel
theorem dX12_readStep_101 : decode cX12_readStep 101 = .ok (.getfield 301, 3) := by decide +kernel
theorem dX12_readStep_104 : decode cX12_readStep 104 = .ok (.isub, 1) := by decide +kernel
theorem dX12_readStep_105 : decode cX12_readStep 105 = .ok (.iload 5, 2) := by decide +kernel
theorem dX12_readStep_107 : decode cX12_readStep 107 = .ok (.imul, 1) := by decide +kernel
theorem dX12_readStep_108 : decode cX12_readStep 108 = .ok (.iload 4, 2) := by decide +kernel
theorem dX12_readStep_110 : decode cX12_readStep 110 = .ok (.idiv, 1) := by decide +kernel
theorem dX12_readStep_111 : decode cX12_readStep 111 = .ok (.iadd, 1) := by decide +kernel
theorem dX12_readStep_112 : decode cX12_readStep 112 = .ok (.aload_n 0, 1) := by decide +kernel
theorem dX12_readStep_113 : decode cX12_readStep 113 = .ok (.getfield 304, 3) := by decide +kernel
theorem dX12_readStep_116 : decode cX12_readStep 116 = .ok (.iload_n 3, 1) := by decide +kernel
theorem dX12_readStep_117 : decode cX12_readStep 117 = .ok (.aload_n 0, 1) := by decide +kernel
theorem dX12_readStep_118 : decode cX12_readStep 118 = .ok (.getfield 304, 3) := by decide +kernel
theorem dX12_readStep_121 : decode cX12_readStep 121 = .ok (.isub, 1) := by decide +kernel
theorem dX12_readStep_122 : decode cX12_readStep 122 = .ok (.iload 5, 2) := by decide +kernel
theorem dX12_readStep_124 : decode cX12_readStep 124 = .ok (.imul, 1) := by decide +kernel
theorem dX12_readStep_125 : decode cX12_readStep 125 = .ok (.iload 4, 2) := by decide +kernel
theorem dX12_readStep_127 : decode cX12_readStep 127 = .ok (.idiv, 1) := by decide +kernel
theorem dX12_readStep_128 : decode cX12_readStep 128 = .ok (.iadd, 1) := by decide +kernel
theorem dX12_readStep_129 : decode cX12_readStep 129 = .ok (.invokevirtual 307, 3) := by decide +kernel
theorem dX12_readStep_132 : decode cX12_readStep 132 = .ok (.iinc 5 1, 3) := by decide +kernel
theorem dX12_readStep_135 : decode cX12_readStep 135 = .ok (.goto (-48), 3) := by decide +kernel
theorem dX12_readStep_138 : decode cX12_readStep 138 = .ok (.aload_n 0, 1) := by decide +kernel
theorem dX12_readStep_139 : decode cX12_readStep 139 = .ok (.iload_n 2, 1) := by decide +kernel
theorem dX12_readStep_140 : decode cX12_readStep 140 = .ok (.putfield 301, 3) := by decide +kernel
theorem dX12_readStep_143 : decode cX12_readStep 143 = .ok (.aload_n 0, 1) := by decide +kernel
theorem dX12_readStep_144 : decode cX12_readStep 144 = .ok (.iload_n 3, 1) := by decide +kernel
theorem dX12_readStep_145 : decode cX12_readStep 145 = .ok (.putfield 304, 3) := by decide +kernel
theorem dX12_readStep_148 : decode cX12_readStep 148 = .ok (.aload_n 0, 1) := by decide +kernel
theorem dX12_readStep_149 : decode cX12_readStep 149 = .ok (.invokevirtual 189, 3) := by decide +kernel
theorem dX12_readStep_152 : decode cX12_readStep 152 = .ok (.ireturn, 1) := by decide +kernel
theorem dX12_readStep_153 : decode cX12_readStep 153 = .ok (.aload_n 0, 1) := by decide +kernel
theorem dX12_readStep_154 : decode cX12_readStep 154 = .ok (.bipush 8, 2) := by decide +kernel
theorem dX12_readStep_156 : decode cX12_readStep 156 = .ok (.invokevirtual 172, 3) := by decide +kernel
theorem dX12_readStep_159 : decode cX12_readStep 159 = .ok (.ifCond .eq 107, 3) := by decide +kernel
theorem dX12_readStep_162 : decode cX12_readStep 162 = .ok (.aload_n 0, 1) := by decide +kernel
theorem dX12_readStep_163 : decode cX12_readStep 163 = .ok (.invokevirtual 162, 3) := by decide +kernel
theorem dX12_readStep_166 : decode cX12_readStep 166 = .ok (.aload_n 0, 1) := by decide +kernel
theorem dX12_readStep_167 : decode cX12_readStep 167 = .ok (.iconst 0, 1) := by decide +kernel
theorem dX12_readStep_168 : decode cX12_readStep 168 = .ok (.sipush 999, 3) := by decide +kernel
theorem dX12_readStep_171 : decode cX12_readStep 171 = .ok (.invokevirtual 168, 3) := by decide +kernel
theorem dX12_readStep_174 : decode cX12_readStep 174 = .ok (.ifCond .ne 5, 3) := by decide +kernel
theorem dX12_readStep_177 : decode cX12_readStep 177 = .ok (.iconst 0, 1) := by decide +kernel
theorem dX12_readStep_178 : decode cX12_readStep 178 = .ok (.ireturn, 1) := by decide +kernel
theorem dX12_readStep_179 : decode cX12_readStep 179 = .ok (.aload_n 0, 1) := by decide +kernel
theorem dX12_readStep_180 : decode cX12_readStep 180 = .ok (.getfield 159, 3) := by decide +kernel
theorem dX12_readStep_183 : decode cX12_readStep 183 = .ok (.istore_n 1, 1) := by decide +kernel
theorem dX12_readStep_184 : decode cX12_readStep 184 = .ok (.aload_n 0, 1) := by decide +kernel
theorem dX12_readStep_185 : decode cX12_readStep 185 = .ok (.invokevirtual 298, 3) := by decide +kernel
theorem dX12_readStep_188 : decode cX12_readStep 188 = .ok (.ifCond .ne 5, 3) := by decide +kernel
theorem dX12_readStep_191 : decode cX12_readStep 191 = .ok (.iconst 0, 1) := by decide +kernel
theorem dX12_readStep_192 : decode cX12_readStep 192 = .ok (.ireturn, 1) := by decide +kernel
theorem dX12_readStep_193 : decode cX12_readStep 193 = .ok (.aload_n 0, 1) := by decide +kernel
theorem dX12_readStep_194 : decode cX12_readStep 194 = .ok (.getfield 159, 3) := by decide +kernel
theorem dX12_readStep_197 : decode cX12_readStep 197 = .ok (.istore_n 2, 1) := by decide +kernel
theorem dX12_readStep_198 : decode cX12_readStep 198 = .ok (.iconst 1, 1) := by decide +kernel
theorem dX12_readStep_199 : decode cX12_readStep 199 = .ok (.istore_n 3, 1) := by decide +kernel
theorem dX12_readStep_200 : decode cX12_readStep 200 = .ok (.iload_n 3, 1) := by decide +kernel
theorem dX12_readStep_201 : decode cX12_readStep 201 = .ok (.iload_n 2, 1) := by decide +kernel
theorem dX12_readStep_202 : decode cX12_readStep 202 = .ok (.if_icmp .gt 59, 3) := by decide +kernel
theorem dX12_readStep_205 : decode cX12_readStep 205 = .ok (.aload_n 0, 1) := by decide +kernel
theorem dX12_readStep_206 : decode cX12_readStep 206 = .ok (.aload_n 0, 1) := by decide +kernel
theorem dX12_readStep_207 : decode cX12_readStep 207 = .ok (.getfield 301, 3) := by decide +kernel
theorem dX12_readStep_210 : decode cX12_readStep 210 = .ok (.iload_n 3, 1) := by decide +kernel
theorem dX12_readStep_211 : decode cX12_readStep 211 = .ok (.iconst 4, 1) := by decide +kernel
theorem dX12_readStep_212 : decode cX12_readStep 212 = .ok (.irem, 1) := by decide +kernel
theorem dX12_readStep_213 : decode cX12_readStep 213 = .ok (.iconst 1, 1) := by decide +kernel
theorem dX12_readStep_214 : decode cX12_readStep 214 = .ok (.if_icmp .ne 15, 3) := by decide +kernel
theorem dX12_readStep_217 : decode cX12_readStep 217 = .ok (.aload_n 0, 1) := by decide +kernel
theorem dX12_readStep_218 : decode cX12_readStep 218 = .ok (.getfield 304, 3) := by decide +kernel
theorem dX12_readStep_221 : decode cX12_readStep 221 = .ok (.iload_n 1, 1) := by decide +kernel
theorem dX12_readStep_222 : decode cX12_readStep 222 = .ok (.iadd, 1) := by decide +kernel
theorem dX12_readStep_223 : decode cX12_readStep 223 = .ok (.invokestatic 311, 3) := by decide +kernel
theorem dX12_readStep_226 : decode cX12_readStep 226 = .ok (.goto 26, 3) := by decide +kernel
theorem dX12_readStep_229 : decode cX12_readStep 229 = .ok (.iload_n 3, 1) := by decide +kernel
theorem dX12_readStep_230 : decode cX12_readStep 230 = .ok (.iconst 4, 1) := by decide +kernel
theorem dX12_readStep_231 : decode cX12_readStep 231 = .ok (.irem, 1) := by decide +kernel
theorem dX12_readStep_232 : decode cX12_readStep 232 = .ok (.iconst 3, 1) := by decide +kernel
theorem dX12_readStep_233 : decode cX12_readStep 233 = .ok (.if_icmp .ne 15, 3) := by decide +kernel
theorem dX12_readStep_236 : decode cX12_readStep 236 = .ok (.aload_n 0, 1) := by decide +kernel
theorem dX12_readStep_237 : decode cX12_readStep 237 = .ok (.getfield 304, 3) := by decide +kernel
theorem dX12_readStep_240 : decode cX12_readStep 240 = .ok (.iload_n 1, 1) := by decide +kernel
theorem dX12_readStep_241 : decode cX12_readStep 241 = .ok (.isub, 1) := by decide +kernel
theorem dX12_readStep_242 : decode cX12_readStep 242 = .ok (.invokestatic 311, 3) := by decide +kernel
theorem dX12_readStep_245 : decode cX12_readStep 245 = .ok (.goto 7, 3) := by decide +kernel
theorem dX12_readStep_248 : decode cX12_readStep 248 = .ok (.aload_n 0, 1) := by decide +kernel
theorem dX12_readStep_249 : decode cX12_readStep 249 = .ok (.getfield 304, 3) := by decide +kernel
theorem dX12_readStep_252 : decode cX12_readStep 252 = .ok (.invokevirtual 307, 3) := by decide +kernel
theorem dX12_readStep_255 : decode cX12_readStep 255 = .ok (.iinc 3 1, 3) := by decide +kernel
theorem dX12_readStep_258 : decode cX12_readStep 258 = .ok (.goto (-58), 3) := by decide +kernel
theorem dX12_readStep_261 : decode cX12_readStep 261 = .ok (.aload_n 0, 1) := by decide +kernel
theorem dX12_readStep_262 : decode cX12_readStep 262 = .ok (.invokevirtual 189, 3) := by decide +kernel
theorem dX12_readStep_265 : decode cX12_readStep 265 = .ok (.ireturn, 1) := by decide +kernel
theorem dX12_readStep_266 : decode cX12_readStep 266 = .ok (.aload_n 0, 1) := by decide +kernel
theorem dX12_readStep_267 : decode cX12_readStep 267 = .ok (.bipush 9, 2) := by decide +kernel
theorem dX12_readStep_269 : decode cX12_readStep 269 = .ok (.invokevirtual 289, 3) := by decide +kernel
theorem dX12_readStep_272 : decode cX12_readStep 272 = .ok (.ifCond .eq 10, 3) := by decide +kernel
theorem dX12_readStep_275 : decode cX12_readStep 275 = .ok (.aload_n 0, 1) := by decide +kernel
theorem dX12_readStep_276 : decode cX12_readStep 276 = .ok (.invokevirtual 292, 3) := by decide +kernel
theorem dX12_readStep_279 : decode cX12_readStep 279 = .ok (.ifCond .ne 5, 3) := by decide +kernel
theorem dX12_readStep_282 : decode cX12_readStep 282 = .ok (.iconst 0, 1) := by decide +kernel
theorem dX12_readStep_283 : decode cX12_readStep 283 = .ok (.ireturn, 1) := by decide +kernel
theorem dX12_readStep_284 : decode cX12_readStep 284 = .ok (.aload_n 0, 1) := by decide +kernel
theorem dX12_readStep_285 : decode cX12_readStep 285 = .ok (.getfield 159, 3) := by decide +kernel
theorem dX12_readStep_288 : decode cX12_readStep 288 = .ok (.istore_n 1, 1) := by decide +kernel
theorem dX12_readStep_289 : decode cX12_readStep 289 = .ok (.iconst 0, 1) := by decide +kernel
theorem dX12_readStep_290 : decode cX12_readStep 290 = .ok (.istore_n 2, 1) := by decide +kernel
theorem dX12_readStep_291 : decode cX12_readStep 291 = .ok (.iload_n 2, 1) := by decide +kernel
theorem dX12_readStep_292 : decode cX12_readStep 292 = .ok (.iload_n 1, 1) := by decide +kernel
theorem dX12_readStep_293 : decode cX12_readStep 293 = .ok (.if_icmp .ge 21, 3) := by decide +kernel
theorem dX12_readStep_296 : decode cX12_readStep 296 = .ok (.aload_n 0, 1) := by decide +kernel
theorem dX12_readStep_297 : decode cX12_readStep 297 = .ok (.aload_n 0, 1) := by decide +kernel
theorem dX12_readStep_298 : decode cX12_readStep 298 = .ok (.getfield 301, 3) := by decide +kernel
theorem dX12_readStep_301 : decode cX12_readStep 301 = .ok (.aload_n 0, 1) := by decide +kernel
theorem dX12_readStep_302 : decode cX12_readStep 302 = .ok (.getfield 304, 3) := by decide +kernel
theorem dX12_readStep_305 : decode cX12_readStep 305 = .ok (.invokevirtual 307, 3) := by decide +kernel
theorem dX12_readStep_308 : decode cX12_readStep 308 = .ok (.iinc 2 1, 3) := by decide +kernel
theorem dX12_readStep_311 : decode cX12_readStep 311 = .ok (.goto (-20), 3) := by decide +kernel
theorem dX12_readStep_314 : decode cX12_readStep 314 = .ok (.aload_n 0, 1) := by decide +kernel
theorem dX12_readStep_315 : decode cX12_readStep 315 = .ok (.invokevirtual 189, 3) := by decide +kernel
theorem dX12_readStep_318 : decode cX12_readStep 318 = .ok (.ireturn, 1) := by decide +kernel
theorem hcX12_readStep : yX12_readStep.cls ≠ "java/lang/invoke/MethodHandle" ∧ yX12_readStep.cls ≠ "java/lang/invoke/VarHandle" ∧ (parseMethodDescriptor yX12_readStep.desc).map (fun d => d.parameters.length) = some 0 := ⟨by decide +kernel, by decide +kernel, by decide +kernel⟩
def fX12_readStep_L87 (s8 : sg_M) (s13 : sg_M) (x4_84 : Int) (Q : Int → sg_M → Prop) : Nat → sg_M → Int → Prop
  | 0, _, _ => False
  | n_87 + 1, s_87, x5_87 => ((x4_84 < x5_87 → ∀ s17 : sg_M, s17 = sg_up s_87 64 44 (s8 64 13) → ∀ s19 : sg_M, s19 = sg_up s17 64 45 (s13 64 13) → fX12_readEnd s19 (fun u21 s23 => Q u21 s23)) ∧ (¬ (x4_84 < x5_87) → sg_R (((s8 64 13) - (s_87 64 44)) * x5_87) ∧ (x4_84 ≠ 0) ∧ sg_R (((s13 64 13) - (s_87 64 45)) * x5_87) ∧ (x4_84 ≠ 0) ∧ sg_R ((s_87 64 44) + (Int.tdiv (((s8 64 13) - (s_87 64 44)) * x5_87) x4_84)) ∧ sg_R ((s_87 64 45) + (Int.tdiv (((s13 64 13) - (s_87 64 45)) * x5_87) x4_84)) ∧ fX12_tickTo s_87 ((s_87 64 44) + (Int.tdiv (((s8 64 13) - (s_87 64 44)) * x5_87) x4_84)) ((s_87 64 45) + (Int.tdiv (((s13 64 13) - (s_87 64 45)) * x5_87) x4_84)) (fun s34 => sg_R (x5_87 + 1) ∧ (fX12_readStep_L87 s8 s13 x4_84 Q n_87) s34 (x5_87 + 1))))
def fX12_readStep_j84 (s8 : sg_M) (s13 : sg_M) (Q : Int → sg_M → Prop) (s_84 : sg_M) (x4_84 : Int) : Prop := (∃ n36 : Nat, fX12_readStep_L87 s8 s13 x4_84 Q n36 s_84 1)
def fX12_readStep_j17 (s0 : sg_M) (Q : Int → sg_M → Prop)  : Prop := fX12_isWord s0 6 (fun u3 => fX12_go s0 (fun s5 => fX12_readSigned s5 9999 (fun u6 s8 => ((u6 ≠ 0 → fX12_readSigned s8 9999 (fun u11 s13 => ((u11 ≠ 0 → ((u3 = 0 → (fX12_readStep_j84 s8 s13 Q) s13 0) ∧ (¬ (u3 = 0) → fX12_readTime s13 (fun u38 s40 => ((u38 ≠ 0 → (fX12_readStep_j84 s8 s13 Q) s40 (s40 64 13)) ∧ (u38 = 0 → Q 0 s40)))))) ∧ (u11 = 0 → Q 0 s13)))) ∧ (u6 = 0 → Q 0 s8)))))
def fX12_readStep_L291 (s56 : sg_M) (Q : Int → sg_M → Prop) : Nat → sg_M → Int → Prop
  | 0, _, _ => False
  | n_291 + 1, s_291, x2_291 => (((s56 64 13) ≤ x2_291 → fX12_readEnd s_291 (fun u60 s62 => Q u60 s62)) ∧ (¬ ((s56 64 13) ≤ x2_291) → fX12_tickTo s_291 (s_291 64 44) (s_291 64 45) (fun s65 => sg_R (x2_291 + 1) ∧ (fX12_readStep_L291 s56 Q n_291) s65 (x2_291 + 1))))
def fX12_readStep_j252 (s_200 : sg_M) (x3_200 : Int) (k200 : sg_M → Int → Prop) (y0_252 : Int) : Prop := fX12_tickTo s_200 (s_200 64 44) y0_252 (fun s84 => sg_R (x3_200 + 1) ∧ k200 s84 (x3_200 + 1))
def fX12_readStep_L200 (s71 : sg_M) (s76 : sg_M) (Q : Int → sg_M → Prop) : Nat → sg_M → Int → Prop
  | 0, _, _ => False
  | n_200 + 1, s_200, x3_200 => (((s76 64 13) < x3_200 → fX12_readEnd s_200 (fun u80 s82 => Q u80 s82)) ∧ (¬ ((s76 64 13) < x3_200) → sg_R (Int.tmod x3_200 4) ∧ (((Int.tmod x3_200 4) ≠ 1 → sg_R (Int.tmod x3_200 4) ∧ (((Int.tmod x3_200 4) ≠ 3 → (fX12_readStep_j252 s_200 x3_200 (fX12_readStep_L200 s71 s76 Q n_200)) (s_200 64 45)) ∧ ((Int.tmod x3_200 4) = 3 → sg_R ((s_200 64 45) - (s71 64 13)) ∧ fX12_cut ((s_200 64 45) - (s71 64 13)) (fun u93 => (fX12_readStep_j252 s_200 x3_200 (fX12_readStep_L200 s71 s76 Q n_200)) u93)))) ∧ ((Int.tmod x3_200 4) = 1 → sg_R ((s_200 64 45) + (s71 64 13)) ∧ fX12_cut ((s_200 64 45) + (s71 64 13)) (fun u97 => (fX12_readStep_j252 s_200 x3_200 (fX12_readStep_L200 s71 s76 Q n_200)) u97)))))
def fX12_readStep (s0 : sg_M) (Q : Int → sg_M → Prop) : Prop := fX12_isWord s0 5 (fun u1 => ((u1 ≠ 0 → (fX12_readStep_j17 s0 Q)) ∧ (u1 = 0 → fX12_isWord s0 6 (fun u44 => ((u44 = 0 → fX12_isWord s0 8 (fun u47 => ((u47 = 0 → fX12_readWord s0 9 (fun u50 s52 => ((u50 = 0 → Q 0 s52) ∧ (¬ (u50 = 0) → fX12_readLast s52 (fun u54 s56 => ((u54 ≠ 0 → (∃ n67 : Nat, fX12_readStep_L291 s56 Q n67 s56 0)) ∧ (u54 = 0 → Q 0 s56))))))) ∧ (¬ (u47 = 0) → fX12_go s0 (fun s68 => fX12_readNumber s68 0 999 (fun u69 s71 => ((u69 ≠ 0 → fX12_readTime s71 (fun u74 s76 => ((u74 ≠ 0 → (∃ n99 : Nat, fX12_readStep_L200 s71 s76 Q n99 s76 1)) ∧ (u74 = 0 → Q 0 s76)))) ∧ (u69 = 0 → Q 0 s71)))))))) ∧ (¬ (u44 = 0) → (fX12_readStep_j17 s0 Q)))))))
set_option maxHeartbeats 4000000 in
set_option maxRecDepth 100000 in
theorem CX12_readStep {l : Launch} {G : sg_G} {La : sg_L} {s0 : sg_M} (hst : sg_St La) {Q : Int → sg_M → Prop} (hf : fX12_readStep s0 Q) : sg_C l G yX12_readStep cX12_readStep 6 (some .boolean) 6 0 0 La s0 [sg_r 64] (sg_HZ La Q) := by
  refine sg_body (by decide +kernel) (Nat.le_of_ble_eq_true rfl) ?_
  intro p e s m args below meth c F hnm
  unfold fX12_readStep at hf
  show sg_W p l e (sg_rm 6 0 0) s m args below meth c (MQ below (sg_Q (some .boolean) G La s.heap.size (sg_HZ La Q)) args s 0 0 (sg_A La s.heap.size)) 6 G (sg_A La s.heap.size) La s0 0 0 0 [(0, sg_r 64)] []
  refine gw_aload_n F 0 rfl rfl (by decide) dX12_readStep_0 ?_
  refine gw_iconst F dX12_readStep_1 ?_
  refine gk_PZ F (gc_V F (S := []) (As := [sg_i 5]) (T := TX12) (N := 62) (CX12_isWord hst (by decide) hf) (so_64 hst) (by decide) rfl kw_1057 kw_103 kw_1055 kw_1056 kw_46 hcX12_isWord ⟨by decide, by decide⟩ rfl rfl (Nat.le_of_ble_eq_true rfl) ⟨by decide, by decide⟩ dX12_readStep_2) (fun u1 h2 hf => ?_)
  have J17 : (fX12_readStep_j17 s0 Q) → sg_W p l e (sg_rm 6 0 0) s m args below meth c (MQ below (sg_Q (some .boolean) G La s.heap.size (sg_HZ La Q)) args s 0 0 (sg_A La s.heap.size)) 6 G (sg_A La s.heap.size) La s0 0 0 17 [(0, sg_r 64)] [] := by
    intro hf
    unfold fX12_readStep_j17 at hf
    refine gw_aload_n F 0 rfl rfl (by decide) dX12_readStep_17 ?_
    refine gw_bipush F rfl dX12_readStep_18 ?_
    refine gk_PZ F (gc_V F (S := []) (As := [sg_i 6]) (T := TX12) (N := 62) (CX12_isWord hst (by decide) hf) (so_64 hst) (by decide) rfl kw_1057 kw_103 kw_1055 kw_1056 kw_46 hcX12_isWord ⟨by decide, by decide⟩ rfl rfl (Nat.le_of_ble_eq_true rfl) ⟨by decide, by decide⟩ dX12_readStep_20) (fun u3 h4 hf => ?_)
    refine gw_istore_n F rfl (by decide) rfl dX12_readStep_23 ?_
    refine gw_aload_n F 1 rfl rfl (by decide) dX12_readStep_24 ?_
    refine gk_HV F (gc_V F (S := []) (As := []) (T := TX12) (N := 62) (CX12_go hst hf) (so_64 hst) (by decide) rfl kw_1040 kw_103 kw_1038 kw_1039 kw_43 hcX12_go ⟨by decide, by decide⟩ rfl rfl (Nat.le_of_ble_eq_true rfl) ⟨by decide, by decide⟩ dX12_readStep_25) (fun s5 hf => ?_)
    refine gw_aload_n F 1 rfl rfl (by decide) dX12_readStep_28 ?_
    refine gw_sipush F rfl dX12_readStep_29 ?_
    refine gk_HZ F (gc_V F (S := []) (As := [sg_i 9999]) (T := TX12) (N := 62) (CX12_readSigned hst (by decide) hf) (so_64 hst) (by decide) rfl kw_1084 kw_103 kw_1082 kw_1083 kw_51 hcX12_readSigned ⟨by decide, by decide⟩ rfl rfl (Nat.le_of_ble_eq_true rfl) ⟨by decide, by decide⟩ dX12_readStep_32) (fun u6 s8 h7 hf => ?_)
    refine gw_if_ne F (tgt := 40) dX12_readStep_35 (by decide) (sg_B_R h7) (fun c9 => ?_) (fun c9 => ?_)
    · have hf := hf.1 c9
      refine gw_aload_n F 1 rfl rfl (by decide) dX12_readStep_40 ?_
      refine gw_get0 F (so_64 hst) (by decide) rfl sg_lay_RX12 (j := 13) (by decide) rfl (host := "") (.inl kw_960) dX12_readStep_41 (fun h10 => ?_)
      refine gw_istore_n F rfl (by decide) rfl dX12_readStep_44 ?_
      refine gw_aload_n F 2 rfl rfl (by decide) dX12_readStep_45 ?_
      refine gw_sipush F rfl dX12_readStep_46 ?_
      refine gk_HZ F (gc_V F (S := []) (As := [sg_i 9999]) (T := TX12) (N := 62) (CX12_readSigned hst (by decide) hf) (so_64 hst) (by decide) rfl kw_1084 kw_103 kw_1082 kw_1083 kw_51 hcX12_readSigned ⟨by decide, by decide⟩ rfl rfl (Nat.le_of_ble_eq_true rfl) ⟨by decide, by decide⟩ dX12_readStep_49) (fun u11 s13 h12 hf => ?_)
      refine gw_if_ne F (tgt := 57) dX12_readStep_52 (by decide) (sg_B_R h12) (fun c14 => ?_) (fun c14 => ?_)
      · have hf := hf.1 c14
        refine gw_aload_n F 2 rfl rfl (by decide) dX12_readStep_57 ?_
        refine gw_get0 F (so_64 hst) (by decide) rfl sg_lay_RX12 (j := 13) (by decide) rfl (host := "") (.inl kw_960) dX12_readStep_58 (fun h15 => ?_)
        refine gw_istore_n F rfl (by decide) rfl dX12_readStep_61 ?_
        refine gw_iconst F dX12_readStep_62 ?_
        refine gw_istore F (by decide) rfl dX12_readStep_63 ?_
        refine gw_iload_n F 3 rfl rfl dX12_readStep_65 ?_
        have J84 : ∀ (s_84 : sg_M) (x4_84 : Int), sg_R x4_84 → (fX12_readStep_j84 s8 s13 Q) s_84 x4_84 → sg_W p l e (sg_rm 6 0 0) s m args below meth c (MQ below (sg_Q (some .boolean) G La s.heap.size (sg_HZ La Q)) args s 0 0 (sg_A La s.heap.size)) 6 G (sg_A La s.heap.size) La s_84 0 0 84 [(0, sg_r 64), (2, sg_i (s8 64 13)), (3, sg_i (s13 64 13)), (4, sg_i x4_84)] [] := by
          intro s_84 x4_84 r4_84 hf
          unfold fX12_readStep_j84 at hf
          refine gw_iconst F dX12_readStep_84 ?_
          refine gw_istore F (by decide) rfl dX12_readStep_85 ?_
          have L87 : ∀ n_87 : Nat, ∀ (s_87 : sg_M) (x5_87 : Int), sg_R x5_87 → fX12_readStep_L87 s8 s13 x4_84 Q n_87 s_87 x5_87 → sg_W p l e (sg_rm 6 0 0) s m args below meth c (MQ below (sg_Q (some .boolean) G La s.heap.size (sg_HZ La Q)) args s 0 0 (sg_A La s.heap.size)) 6 G (sg_A La s.heap.size) La s_87 0 0 87 [(0, sg_r 64), (2, sg_i (s8 64 13)), (3, sg_i (s13 64 13)), (4, sg_i x4_84), (5, sg_i x5_87)] [] := by
            intro n_87
            induction n_87 with
            | zero => intro s_87 x5_87 r5_87 hf; exact hf.elim
            | succ n_87 ih =>
              intro s_87 x5_87 r5_87 hf
              unfold fX12_readStep_L87 at hf
              refine gw_iload F 4 rfl dX12_readStep_87 ?_
              refine gw_iload F 3 rfl dX12_readStep_89 ?_
              refine gw_icmp_gt F (tgt := 138) dX12_readStep_91 (by decide) r5_87 r4_84 (fun c16 => ?_) (fun c16 => ?_)
              · have hf := hf.1 c16
                refine gw_aload_n F 0 rfl rfl (by decide) dX12_readStep_138 ?_
                refine gw_iload_n F 1 rfl rfl dX12_readStep_139 ?_
                obtain ⟨s17, e18⟩ : ∃ z : sg_M, z = sg_up s_87 64 44 (s8 64 13) := ⟨_, rfl⟩
                have hf := hf s17 e18
                refine gw_put0 F (so_64 hst) (by decide) rfl sg_lay_RX12 (j := 44) (by decide) h10 e18 tyX12_ok nmX12 rfl (tyX12_ok 44 (by decide)) rfl (host := "") (.inl kw_991) dX12_readStep_140 ?_
                refine gw_aload_n F 0 rfl rfl (by decide) dX12_readStep_143 ?_
                refine gw_iload_n F 2 rfl rfl dX12_readStep_144 ?_
                obtain ⟨s19, e20⟩ : ∃ z : sg_M, z = sg_up s17 64 45 (s13 64 13) := ⟨_, rfl⟩
                have hf := hf s19 e20
                refine gw_put0 F (so_64 hst) (by decide) rfl sg_lay_RX12 (j := 45) (by decide) h15 e20 tyX12_ok nmX12 rfl (tyX12_ok 45 (by decide)) rfl (host := "") (.inl kw_992) dX12_readStep_145 ?_
                refine gw_aload_n F 0 rfl rfl (by decide) dX12_readStep_148 ?_
                refine gk_HZ F (gc_V F (S := []) (As := []) (T := TX12) (N := 62) (CX12_readEnd hst hf) (so_64 hst) (by decide) rfl kw_1078 kw_103 kw_1076 kw_1077 kw_49 hcX12_readEnd ⟨by decide, by decide⟩ rfl rfl (Nat.le_of_ble_eq_true rfl) ⟨by decide, by decide⟩ dX12_readStep_149) (fun u21 s23 h22 hf => ?_)
                exact gr_HZ F h22 hf (by decide) (by decide) dX12_readStep_152
              · have hf := hf.2 c16
                refine gw_aload_n F 0 rfl rfl (by decide) dX12_readStep_94 ?_
                refine gw_aload_n F 0 rfl rfl (by decide) dX12_readStep_95 ?_
                refine gw_get0 F (so_64 hst) (by decide) rfl sg_lay_RX12 (j := 44) (by decide) rfl (host := "") (.inl kw_991) dX12_readStep_96 (fun h24 => ?_)
                refine gw_iload_n F 1 rfl rfl dX12_readStep_99 ?_
                refine gw_aload_n F 0 rfl rfl (by decide) dX12_readStep_100 ?_
                refine gw_get0 F (so_64 hst) (by decide) rfl sg_lay_RX12 (j := 44) (by decide) rfl (host := "") (.inl kw_991) dX12_readStep_101 (fun h25 => ?_)
                refine gw_isub F rfl dX12_readStep_104 ?_
                refine gw_iload F 4 rfl dX12_readStep_105 ?_
                refine gw_imul F rfl dX12_readStep_107 ?_
                refine gw_iload F 3 rfl dX12_readStep_108 ?_
                obtain ⟨g26, hf⟩ := hf
                obtain ⟨g27, hf⟩ := hf
                refine gw_idiv F g26 r4_84 g27 rfl dX12_readStep_110 ?_
                refine gw_iadd F rfl dX12_readStep_111 ?_
                refine gw_aload_n F 0 rfl rfl (by decide) dX12_readStep_112 ?_
                refine gw_get0 F (so_64 hst) (by decide) rfl sg_lay_RX12 (j := 45) (by decide) rfl (host := "") (.inl kw_992) dX12_readStep_113 (fun h28 => ?_)
                refine gw_iload_n F 2 rfl rfl dX12_readStep_116 ?_
                refine gw_aload_n F 0 rfl rfl (by decide) dX12_readStep_117 ?_
                refine gw_get0 F (so_64 hst) (by decide) rfl sg_lay_RX12 (j := 45) (by decide) rfl (host := "") (.inl kw_992) dX12_readStep_118 (fun h29 => ?_)
                refine gw_isub F rfl dX12_readStep_121 ?_
                refine gw_iload F 4 rfl dX12_readStep_122 ?_
                refine gw_imul F rfl dX12_readStep_124 ?_
                refine gw_iload F 3 rfl dX12_readStep_125 ?_
                obtain ⟨g30, hf⟩ := hf
                obtain ⟨g31, hf⟩ := hf
                refine gw_idiv F g30 r4_84 g31 rfl dX12_readStep_127 ?_
                refine gw_iadd F rfl dX12_readStep_128 ?_
                obtain ⟨g32, hf⟩ := hf
                obtain ⟨g33, hf⟩ := hf
                refine gk_HV F (gc_V F (S := []) (As := [sg_i ((s_87 64 44) + (Int.tdiv (((s8 64 13) - (s_87 64 44)) * x5_87) x4_84)), sg_i ((s_87 64 45) + (Int.tdiv (((s13 64 13) - (s_87 64 45)) * x5_87) x4_84))]) (T := TX12) (N := 62) (CX12_tickTo hst g32 g33 hf) (so_64 hst) (by decide) rfl kw_1183 kw_103 kw_1181 kw_1182 kw_67 hcX12_tickTo ⟨by decide, by decide⟩ rfl rfl (Nat.le_of_ble_eq_true rfl) ⟨by decide, by decide⟩ dX12_readStep_129) (fun s34 hf => ?_)
                refine gw_iinc F (z := (x5_87 + 1)) 4 rfl (by omega) (by decide) rfl dX12_readStep_132 ?_
                refine gw_goto F (tgt := 87) dX12_readStep_135 (by decide) ?_
                obtain ⟨g35, hf⟩ := hf
                refine gw_sub [1, 2, 3, 4, 0] rfl ?_
                exact ih s34 (x5_87 + 1) g35 hf
          obtain ⟨n36, hf⟩ := hf
          refine gw_sub [1, 2, 3, 4, 0] rfl ?_
          refine L87   n36 s_84 1 (by decide) hf
        refine gw_if_eq F (tgt := 84) dX12_readStep_66 (by decide) (sg_B_R h4) (fun c37 => ?_) (fun c37 => ?_)
        · have hf := hf.1 c37
          refine gw_sub [4, 2, 1, 0] rfl ?_
          exact J84 s13 0 (by decide) hf
        · have hf := hf.2 c37
          refine gw_aload_n F 4 rfl rfl (by decide) dX12_readStep_69 ?_
          refine gk_HZ F (gc_V F (S := []) (As := []) (T := TX12) (N := 62) (CX12_readTime hst hf) (so_64 hst) (by decide) rfl kw_1174 kw_103 kw_1172 kw_1173 kw_64 hcX12_readTime ⟨by decide, by decide⟩ rfl rfl (Nat.le_of_ble_eq_true rfl) ⟨by decide, by decide⟩ dX12_readStep_70) (fun u38 s40 h39 hf => ?_)
          refine gw_if_ne F (tgt := 78) dX12_readStep_73 (by decide) (sg_B_R h39) (fun c41 => ?_) (fun c41 => ?_)
          · have hf := hf.1 c41
            refine gw_aload_n F 4 rfl rfl (by decide) dX12_readStep_78 ?_
            refine gw_get0 F (so_64 hst) (by decide) rfl sg_lay_RX12 (j := 13) (by decide) rfl (host := "") (.inl kw_960) dX12_readStep_79 (fun h42 => ?_)
            refine gw_istore F (by decide) rfl dX12_readStep_82 ?_
            refine gw_sub [4, 2, 1, 0] rfl ?_
            exact J84 s40 (s40 64 13) h42 hf
          · have hf := hf.2 c41
            refine gw_iconst F dX12_readStep_76 ?_
            exact gr_HZ F (by decide) hf (by decide) (by decide) dX12_readStep_77
      · have hf := hf.2 c14
        refine gw_iconst F dX12_readStep_55 ?_
        exact gr_HZ F (by decide) hf (by decide) (by decide) dX12_readStep_56
    · have hf := hf.2 c9
      refine gw_iconst F dX12_readStep_38 ?_
      exact gr_HZ F (by decide) hf (by decide) (by decide) dX12_readStep_39
  refine gw_if_ne F (tgt := 17) dX12_readStep_5 (by decide) (sg_B_R h2) (fun c43 => ?_) (fun c43 => ?_)
  · have hf := hf.1 c43
    refine gw_sub [0] rfl ?_
    exact J17  hf
  · have hf := hf.2 c43
    refine gw_aload_n F 0 rfl rfl (by decide) dX12_readStep_8 ?_
    refine gw_bipush F rfl dX12_readStep_9 ?_
    refine gk_PZ F (gc_V F (S := []) (As := [sg_i 6]) (T := TX12) (N := 62) (CX12_isWord hst (by decide) hf) (so_64 hst) (by decide) rfl kw_1057 kw_103 kw_1055 kw_1056 kw_46 hcX12_isWord ⟨by decide, by decide⟩ rfl rfl (Nat.le_of_ble_eq_true rfl) ⟨by decide, by decide⟩ dX12_readStep_11) (fun u44 h45 hf => ?_)
    refine gw_if_eq F (tgt := 153) dX12_readStep_14 (by decide) (sg_B_R h45) (fun c46 => ?_) (fun c46 => ?_)
    · have hf := hf.1 c46
      refine gw_aload_n F 0 rfl rfl (by decide) dX12_readStep_153 ?_
      refine gw_bipush F rfl dX12_readStep_154 ?_
      refine gk_PZ F (gc_V F (S := []) (As := [sg_i 8]) (T := TX12) (N := 62) (CX12_isWord hst (by decide) hf) (so_64 hst) (by decide) rfl kw_1057 kw_103 kw_1055 kw_1056 kw_46 hcX12_isWord ⟨by decide, by decide⟩ rfl rfl (Nat.le_of_ble_eq_true rfl) ⟨by decide, by decide⟩ dX12_readStep_156) (fun u47 h48 hf => ?_)
      refine gw_if_eq F (tgt := 266) dX12_readStep_159 (by decide) (sg_B_R h48) (fun c49 => ?_) (fun c49 => ?_)
      · have hf := hf.1 c49
        refine gw_aload_n F 0 rfl rfl (by decide) dX12_readStep_266 ?_
        refine gw_bipush F rfl dX12_readStep_267 ?_
        refine gk_HZ F (gc_V F (S := []) (As := [sg_i 9]) (T := TX12) (N := 62) (CX12_readWord hst (by decide) hf) (so_64 hst) (by decide) rfl kw_1177 kw_103 kw_1175 kw_1176 kw_65 hcX12_readWord ⟨by decide, by decide⟩ rfl rfl (Nat.le_of_ble_eq_true rfl) ⟨by decide, by decide⟩ dX12_readStep_269) (fun u50 s52 h51 hf => ?_)
        refine gw_if_eq F (tgt := 282) dX12_readStep_272 (by decide) (sg_B_R h51) (fun c53 => ?_) (fun c53 => ?_)
        · have hf := hf.1 c53
          refine gw_iconst F dX12_readStep_282 ?_
          exact gr_HZ F (by decide) hf (by decide) (by decide) dX12_readStep_283
        · have hf := hf.2 c53
          refine gw_aload_n F 0 rfl rfl (by decide) dX12_readStep_275 ?_
          refine gk_HZ F (gc_V F (S := []) (As := []) (T := TX12) (N := 62) (CX12_readLast hst hf) (so_64 hst) (by decide) rfl kw_1180 kw_103 kw_1178 kw_1179 kw_66 hcX12_readLast ⟨by decide, by decide⟩ rfl rfl (Nat.le_of_ble_eq_true rfl) ⟨by decide, by decide⟩ dX12_readStep_276) (fun u54 s56 h55 hf => ?_)
          refine gw_if_ne F (tgt := 284) dX12_readStep_279 (by decide) (sg_B_R h55) (fun c57 => ?_) (fun c57 => ?_)
          · have hf := hf.1 c57
            refine gw_aload_n F 0 rfl rfl (by decide) dX12_readStep_284 ?_
            refine gw_get0 F (so_64 hst) (by decide) rfl sg_lay_RX12 (j := 13) (by decide) rfl (host := "") (.inl kw_960) dX12_readStep_285 (fun h58 => ?_)
            refine gw_istore_n F rfl (by decide) rfl dX12_readStep_288 ?_
            refine gw_iconst F dX12_readStep_289 ?_
            refine gw_istore_n F rfl (by decide) rfl dX12_readStep_290 ?_
            have L291 : ∀ n_291 : Nat, ∀ (s_291 : sg_M) (x2_291 : Int), sg_R x2_291 → fX12_readStep_L291 s56 Q n_291 s_291 x2_291 → sg_W p l e (sg_rm 6 0 0) s m args below meth c (MQ below (sg_Q (some .boolean) G La s.heap.size (sg_HZ La Q)) args s 0 0 (sg_A La s.heap.size)) 6 G (sg_A La s.heap.size) La s_291 0 0 291 [(0, sg_r 64), (1, sg_i (s56 64 13)), (2, sg_i x2_291)] [] := by
              intro n_291
              induction n_291 with
              | zero => intro s_291 x2_291 r2_291 hf; exact hf.elim
              | succ n_291 ih =>
                intro s_291 x2_291 r2_291 hf
                unfold fX12_readStep_L291 at hf
                refine gw_iload_n F 2 rfl rfl dX12_readStep_291 ?_
                refine gw_iload_n F 1 rfl rfl dX12_readStep_292 ?_
                refine gw_icmp_ge F (tgt := 314) dX12_readStep_293 (by decide) r2_291 h58 (fun c59 => ?_) (fun c59 => ?_)
                · have hf := hf.1 c59
                  refine gw_aload_n F 0 rfl rfl (by decide) dX12_readStep_314 ?_
                  refine gk_HZ F (gc_V F (S := []) (As := []) (T := TX12) (N := 62) (CX12_readEnd hst hf) (so_64 hst) (by decide) rfl kw_1078 kw_103 kw_1076 kw_1077 kw_49 hcX12_readEnd ⟨by decide, by decide⟩ rfl rfl (Nat.le_of_ble_eq_true rfl) ⟨by decide, by decide⟩ dX12_readStep_315) (fun u60 s62 h61 hf => ?_)
                  exact gr_HZ F h61 hf (by decide) (by decide) dX12_readStep_318
                · have hf := hf.2 c59
                  refine gw_aload_n F 0 rfl rfl (by decide) dX12_readStep_296 ?_
                  refine gw_aload_n F 0 rfl rfl (by decide) dX12_readStep_297 ?_
                  refine gw_get0 F (so_64 hst) (by decide) rfl sg_lay_RX12 (j := 44) (by decide) rfl (host := "") (.inl kw_991) dX12_readStep_298 (fun h63 => ?_)
                  refine gw_aload_n F 0 rfl rfl (by decide) dX12_readStep_301 ?_
                  refine gw_get0 F (so_64 hst) (by decide) rfl sg_lay_RX12 (j := 45) (by decide) rfl (host := "") (.inl kw_992) dX12_readStep_302 (fun h64 => ?_)
                  refine gk_HV F (gc_V F (S := []) (As := [sg_i (s_291 64 44), sg_i (s_291 64 45)]) (T := TX12) (N := 62) (CX12_tickTo hst h63 h64 hf) (so_64 hst) (by decide) rfl kw_1183 kw_103 kw_1181 kw_1182 kw_67 hcX12_tickTo ⟨by decide, by decide⟩ rfl rfl (Nat.le_of_ble_eq_true rfl) ⟨by decide, by decide⟩ dX12_readStep_305) (fun s65 hf => ?_)
                  refine gw_iinc F (z := (x2_291 + 1)) 2 rfl (by omega) (by decide) rfl dX12_readStep_308 ?_
                  refine gw_goto F (tgt := 291) dX12_readStep_311 (by decide) ?_
                  obtain ⟨g66, hf⟩ := hf
                  refine gw_sub [1, 2, 0] rfl ?_
                  exact ih s65 (x2_291 + 1) g66 hf
            obtain ⟨n67, hf⟩ := hf
            refine gw_sub [2, 1, 0] rfl ?_
            refine L291   n67 s56 0 (by decide) hf
          · have hf := hf.2 c57
            refine gw_iconst F dX12_readStep_282 ?_
            exact gr_HZ F (by decide) hf (by decide) (by decide) dX12_readStep_283
      · have hf := hf.2 c49
        refine gw_aload_n F 0 rfl rfl (by decide) dX12_readStep_162 ?_
        refine gk_HV F (gc_V F (S := []) (As := []) (T := TX12) (N := 62) (CX12_go hst hf) (so_64 hst) (by decide) rfl kw_1040 kw_103 kw_1038 kw_1039 kw_43 hcX12_go ⟨by decide, by decide⟩ rfl rfl (Nat.le_of_ble_eq_true rfl) ⟨by decide, by decide⟩ dX12_readStep_163) (fun s68 hf => ?_)
        refine gw_aload_n F 0 rfl rfl (by decide) dX12_readStep_166 ?_
        refine gw_iconst F dX12_readStep_167 ?_
        refine gw_sipush F rfl dX12_readStep_168 ?_
        refine gk_HZ F (gc_V F (S := []) (As := [sg_i 0, sg_i 999]) (T := TX12) (N := 62) (CX12_readNumber hst (by decide) (by decide) hf) (so_64 hst) (by decide) rfl kw_1072 kw_103 kw_1070 kw_1071 kw_48 hcX12_readNumber ⟨by decide, by decide⟩ rfl rfl (Nat.le_of_ble_eq_true rfl) ⟨by decide, by decide⟩ dX12_readStep_171) (fun u69 s71 h70 hf => ?_)
        refine gw_if_ne F (tgt := 179) dX12_readStep_174 (by decide) (sg_B_R h70) (fun c72 => ?_) (fun c72 => ?_)
        · have hf := hf.1 c72
          refine gw_aload_n F 0 rfl rfl (by decide) dX12_readStep_179 ?_
          refine gw_get0 F (so_64 hst) (by decide) rfl sg_lay_RX12 (j := 13) (by decide) rfl (host := "") (.inl kw_960) dX12_readStep_180 (fun h73 => ?_)
          refine gw_istore_n F rfl (by decide) rfl dX12_readStep_183 ?_
          refine gw_aload_n F 1 rfl rfl (by decide) dX12_readStep_184 ?_
          refine gk_HZ F (gc_V F (S := []) (As := []) (T := TX12) (N := 62) (CX12_readTime hst hf) (so_64 hst) (by decide) rfl kw_1174 kw_103 kw_1172 kw_1173 kw_64 hcX12_readTime ⟨by decide, by decide⟩ rfl rfl (Nat.le_of_ble_eq_true rfl) ⟨by decide, by decide⟩ dX12_readStep_185) (fun u74 s76 h75 hf => ?_)
          refine gw_if_ne F (tgt := 193) dX12_readStep_188 (by decide) (sg_B_R h75) (fun c77 => ?_) (fun c77 => ?_)
          · have hf := hf.1 c77
            refine gw_aload_n F 1 rfl rfl (by decide) dX12_readStep_193 ?_
            refine gw_get0 F (so_64 hst) (by decide) rfl sg_lay_RX12 (j := 13) (by decide) rfl (host := "") (.inl kw_960) dX12_readStep_194 (fun h78 => ?_)
            refine gw_istore_n F rfl (by decide) rfl dX12_readStep_197 ?_
            refine gw_iconst F dX12_readStep_198 ?_
            refine gw_istore_n F rfl (by decide) rfl dX12_readStep_199 ?_
            have L200 : ∀ n_200 : Nat, ∀ (s_200 : sg_M) (x3_200 : Int), sg_R x3_200 → fX12_readStep_L200 s71 s76 Q n_200 s_200 x3_200 → sg_W p l e (sg_rm 6 0 0) s m args below meth c (MQ below (sg_Q (some .boolean) G La s.heap.size (sg_HZ La Q)) args s 0 0 (sg_A La s.heap.size)) 6 G (sg_A La s.heap.size) La s_200 0 0 200 [(0, sg_r 64), (1, sg_i (s71 64 13)), (2, sg_i (s76 64 13)), (3, sg_i x3_200)] [] := by
              intro n_200
              induction n_200 with
              | zero => intro s_200 x3_200 r3_200 hf; exact hf.elim
              | succ n_200 ih =>
                intro s_200 x3_200 r3_200 hf
                unfold fX12_readStep_L200 at hf
                refine gw_iload_n F 3 rfl rfl dX12_readStep_200 ?_
                refine gw_iload_n F 2 rfl rfl dX12_readStep_201 ?_
                refine gw_icmp_gt F (tgt := 261) dX12_readStep_202 (by decide) r3_200 h78 (fun c79 => ?_) (fun c79 => ?_)
                · have hf := hf.1 c79
                  refine gw_aload_n F 0 rfl rfl (by decide) dX12_readStep_261 ?_
                  refine gk_HZ F (gc_V F (S := []) (As := []) (T := TX12) (N := 62) (CX12_readEnd hst hf) (so_64 hst) (by decide) rfl kw_1078 kw_103 kw_1076 kw_1077 kw_49 hcX12_readEnd ⟨by decide, by decide⟩ rfl rfl (Nat.le_of_ble_eq_true rfl) ⟨by decide, by decide⟩ dX12_readStep_262) (fun u80 s82 h81 hf => ?_)
                  exact gr_HZ F h81 hf (by decide) (by decide) dX12_readStep_265
                · have hf := hf.2 c79
                  refine gw_aload_n F 0 rfl rfl (by decide) dX12_readStep_205 ?_
                  refine gw_aload_n F 0 rfl rfl (by decide) dX12_readStep_206 ?_
                  refine gw_get0 F (so_64 hst) (by decide) rfl sg_lay_RX12 (j := 44) (by decide) rfl (host := "") (.inl kw_991) dX12_readStep_207 (fun h83 => ?_)
                  refine gw_iload_n F 3 rfl rfl dX12_readStep_210 ?_
                  refine gw_iconst F dX12_readStep_211 ?_
                  refine gw_irem F r3_200 (by decide) (by decide) rfl dX12_readStep_212 ?_
                  refine gw_iconst F dX12_readStep_213 ?_
                  have J252 : ∀ (y0_252 : Int), sg_R y0_252 → (fX12_readStep_j252 s_200 x3_200 (fX12_readStep_L200 s71 s76 Q n_200)) y0_252 → sg_W p l e (sg_rm 6 0 0) s m args below meth c (MQ below (sg_Q (some .boolean) G La s.heap.size (sg_HZ La Q)) args s 0 0 (sg_A La s.heap.size)) 6 G (sg_A La s.heap.size) La s_200 0 0 252 [(0, sg_r 64), (1, sg_i (s71 64 13)), (2, sg_i (s76 64 13)), (3, sg_i x3_200)] [sg_i y0_252, sg_i (s_200 64 44), sg_r 64] := by
                    intro y0_252 ry0_252 hf
                    unfold fX12_readStep_j252 at hf
                    refine gk_HV F (gc_V F (S := []) (As := [sg_i (s_200 64 44), sg_i y0_252]) (T := TX12) (N := 62) (CX12_tickTo hst h83 ry0_252 hf) (so_64 hst) (by decide) rfl kw_1183 kw_103 kw_1181 kw_1182 kw_67 hcX12_tickTo ⟨by decide, by decide⟩ rfl rfl (Nat.le_of_ble_eq_true rfl) ⟨by decide, by decide⟩ dX12_readStep_252) (fun s84 hf => ?_)
                    refine gw_iinc F (z := (x3_200 + 1)) 3 rfl (by omega) (by decide) rfl dX12_readStep_255 ?_
                    refine gw_goto F (tgt := 200) dX12_readStep_258 (by decide) ?_
                    obtain ⟨g85, hf⟩ := hf
                    refine gw_sub [1, 2, 3, 0] rfl ?_
                    exact ih s84 (x3_200 + 1) g85 hf
                  obtain ⟨g86, hf⟩ := hf
                  refine gw_icmp_ne F (tgt := 229) dX12_readStep_214 (by decide) g86 (by decide) (fun c87 => ?_) (fun c87 => ?_)
                  · have hf := hf.1 c87
                    refine gw_iload_n F 3 rfl rfl dX12_readStep_229 ?_
                    refine gw_iconst F dX12_readStep_230 ?_
                    refine gw_irem F r3_200 (by decide) (by decide) rfl dX12_readStep_231 ?_
                    refine gw_iconst F dX12_readStep_232 ?_
                    obtain ⟨g88, hf⟩ := hf
                    refine gw_icmp_ne F (tgt := 248) dX12_readStep_233 (by decide) g88 (by decide) (fun c89 => ?_) (fun c89 => ?_)
                    · have hf := hf.1 c89
                      refine gw_aload_n F 0 rfl rfl (by decide) dX12_readStep_248 ?_
                      refine gw_get0 F (so_64 hst) (by decide) rfl sg_lay_RX12 (j := 45) (by decide) rfl (host := "") (.inl kw_992) dX12_readStep_249 (fun h90 => ?_)
                      refine gw_sub [0, 1, 2, 3] rfl ?_
                      exact J252 (s_200 64 45) h90 hf
                    · have hf := hf.2 c89
                      refine gw_aload_n F 0 rfl rfl (by decide) dX12_readStep_236 ?_
                      refine gw_get0 F (so_64 hst) (by decide) rfl sg_lay_RX12 (j := 45) (by decide) rfl (host := "") (.inl kw_992) dX12_readStep_237 (fun h91 => ?_)
                      refine gw_iload_n F 1 rfl rfl dX12_readStep_240 ?_
                      refine gw_isub F rfl dX12_readStep_241 ?_
                      obtain ⟨g92, hf⟩ := hf
                      refine gk_PI F (gc_S F (S := [sg_i (s_200 64 44), sg_r 64]) (As := [sg_i ((s_200 64 45) - (s71 64 13))]) (CX12_cut g92 hf) kw_1186 kw_103 kw_1184 kw_1185 hcX12_cut ⟨by decide, by decide⟩ rfl rfl (Nat.le_of_ble_eq_true rfl) ⟨by decide, by decide⟩ dX12_readStep_242) (fun u93 h94 hf => ?_)
                      refine gw_goto F (tgt := 252) dX12_readStep_245 (by decide) ?_
                      refine gw_sub [0, 1, 2, 3] rfl ?_
                      exact J252 u93 h94 hf
                  · have hf := hf.2 c87
                    refine gw_aload_n F 0 rfl rfl (by decide) dX12_readStep_217 ?_
                    refine gw_get0 F (so_64 hst) (by decide) rfl sg_lay_RX12 (j := 45) (by decide) rfl (host := "") (.inl kw_992) dX12_readStep_218 (fun h95 => ?_)
                    refine gw_iload_n F 1 rfl rfl dX12_readStep_221 ?_
                    refine gw_iadd F rfl dX12_readStep_222 ?_
                    obtain ⟨g96, hf⟩ := hf
                    refine gk_PI F (gc_S F (S := [sg_i (s_200 64 44), sg_r 64]) (As := [sg_i ((s_200 64 45) + (s71 64 13))]) (CX12_cut g96 hf) kw_1186 kw_103 kw_1184 kw_1185 hcX12_cut ⟨by decide, by decide⟩ rfl rfl (Nat.le_of_ble_eq_true rfl) ⟨by decide, by decide⟩ dX12_readStep_223) (fun u97 h98 hf => ?_)
                    refine gw_goto F (tgt := 252) dX12_readStep_226 (by decide) ?_
                    refine gw_sub [0, 1, 2, 3] rfl ?_
                    exact J252 u97 h98 hf
            obtain ⟨n99, hf⟩ := hf
            refine gw_sub [3, 2, 1, 0] rfl ?_
            refine L200   n99 s76 1 (by decide) hf
          · have hf := hf.2 c77
            refine gw_iconst F dX12_readStep_191 ?_
            exact gr_HZ F (by decide) hf (by decide) (by decide) dX12_readStep_192
        · have hf := hf.2 c72
          refine gw_iconst F dX12_readStep_177 ?_
          exact gr_HZ F (by decide) hf (by decide) (by decide) dX12_readStep_178
    · have hf := hf.2 c46
      refine gw_sub [0] rfl ?_
      exact J17  hf
