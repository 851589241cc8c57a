theorem dX1_has_0 : decode cX1_has 0 = .ok (.iload_n 1, 1) := by decide +kernel
theorem dX1_has_1 : decode cX1_has 1 = .ok (.ifCond .lt 21, 3) := by decide +kernel
theorem dX1_has_4 : decode cX1_has 4 = .ok (.iload_n 1, 1) := by decide +kernel
theorem dX1_has_5 : decode cX1_has 5 = .ok (.aload_n 0, 1) := by decide +kernel
theorem dX1_has_6 : decode cX1_has 6 = .ok (.getfield 24, 3) := by decide +kernel
theorem dX1_has_9 : decode cX1_has 9 = .ok (.if_icmp .ge 13, 3) := by decide +kernel
theorem dX1_has_12 : decode cX1_has 12 = .ok (.iload_n 1, 1) := by decide +kernel
theorem dX1_has_13 : decode cX1_has 13 = .ok (.bipush 60, 2) := by decide +kernel
theorem dX1_has_15 : decode cX1_has 15 = .ok (.if_icmp .ge 7, 3) := by decide +kernel
theorem dX1_has_18 : decode cX1_has 18 = .ok (.iconst 1, 1) := by decide +kernel
theorem dX1_has_19 : decode cX1_has 19 = .ok (.goto 4, 3) := by decide +kernel
theorem dX1_has_22 : decode cX1_has 22 = .ok (.iconst 0, 1) := by decide +kernel
theorem dX1_has_23 : decode cX1_has 23 = .ok (.ireturn, 1) := by decide +kernel
theorem hcX1_has : yX1_has.cls ≠ "java/lang/invoke/MethodHandle" ∧ yX1_has.cls ≠ "java/lang/invoke/VarHandle" ∧ (parseMethodDescriptor yX1_has.desc).map (fun d => d.parameters.length) = some 1 := ⟨by decide +kernel, by decide +kernel, by decide +kernel⟩
def fX1_has (s0 : sg_M) (o : Int) (x1 : Int) (Q : Int → Prop) : Prop := ((x1 < 0 → Q 0) ∧ (¬ (x1 < 0) → (((s0 o 4) ≤ x1 → Q 0) ∧ (¬ ((s0 o 4) ≤ x1) → ((60 ≤ x1 → Q 0) ∧ (¬ (60 ≤ x1) → Q 1))))))
set_option maxHeartbeats 4000000 in
set_option maxRecDepth 100000 in
theorem CX1_has {l : Launch} {G : sg_G} {La : sg_L} {s0 : sg_M} {o : Int} (to : sg_O La o 1) {x1 : Int} (r1 : sg_R x1) {Q : Int → Prop} (hf : fX1_has s0 o x1 Q) : sg_C l G yX1_has cX1_has 2 (some .boolean) 1 0 0 La s0 [sg_r o, sg_i x1] (sg_PZ La s0 Q) := by
  refine sg_body (by decide +kernel) (Nat.le_of_ble_eq_true rfl) ?_
  intro p e s m args below meth c F hnm
  unfold fX1_has at hf
  show sg_W p l e (sg_rm 1 0 0) s m args below meth c (MQ below (sg_Q (some .boolean) G La s.heap.size (sg_PZ La s0 Q)) args s 0 0 (sg_A La s.heap.size)) 2 G (sg_A La s.heap.size) La s0 0 0 0 [(0, sg_r o), (1, sg_i x1)] []
  refine gw_iload_n F 1 rfl rfl dX1_has_0 ?_
  refine gw_if_lt F (tgt := 22) dX1_has_1 (by decide) r1 (fun c1 => ?_) (fun c1 => ?_)
  · have hf := hf.1 c1
    refine gw_iconst F dX1_has_22 ?_
    exact gr_PZ F (by decide) hf (by decide) (by decide) dX1_has_23
  · have hf := hf.2 c1
    refine gw_iload_n F 1 rfl rfl dX1_has_4 ?_
    refine gw_aload_n F 0 rfl rfl to.1 dX1_has_5 ?_
    refine gw_get0 F to (by decide) rfl sg_lay_RX1 (j := 4) (by decide) rfl (host := "") (.inl kw_163) dX1_has_6 (fun h2 => ?_)
    refine gw_icmp_ge F (tgt := 22) dX1_has_9 (by decide) r1 h2 (fun c3 => ?_) (fun c3 => ?_)
    · have hf := hf.1 c3
      refine gw_iconst F dX1_has_22 ?_
      exact gr_PZ F (by decide) hf (by decide) (by decide) dX1_has_23
    · have hf := hf.2 c3
      refine gw_iload_n F 1 rfl rfl dX1_has_12 ?_
      refine gw_bipush F rfl dX1_has_13 ?_
      refine gw_icmp_ge F (tgt := 22) dX1_has_15 (by decide) r1 (by decide) (fun c4 => ?_) (fun c4 => ?_)
      · have hf := hf.1 c4
        refine gw_iconst F dX1_has_22 ?_
        exact gr_PZ F (by decide) hf (by decide) (by decide) dX1_has_23
      · have hf := hf.2 c4
        refine gw_iconst F dX1_has_18 ?_
        refine gw_goto F (tgt := 23) dX1_has_19 (by decide) ?_
        exact gr_PZ F (by decide) hf (by decide) (by decide) dX1_has_23

theorem dX12_init_0 : decode cX12_init 0 = .ok (.aload_n 0, 1) := by decide +kernel
theorem dX12_init_1 : decode cX12_init 1 = .ok (.invokespecial 1, 3) := by decide +kernel
theorem dX12_init_4 : decode cX12_init 4 = .ok (.aload_n 0, 1) := by decide +kernel
theorem dX12_init_5 : decode cX12_init 5 = .ok (.sipush 540, 3) := by decide +kernel
theorem dX12_init_8 : decode cX12_init 8 = .ok (.newarray .int, 2) := by decide +kernel
theorem dX12_init_10 : decode cX12_init 10 = .ok (.putfield 7, 3) := by decide +kernel
theorem dX12_init_13 : decode cX12_init 13 = .ok (.aload_n 0, 1) := by decide +kernel
theorem dX12_init_14 : decode cX12_init 14 = .ok (.sipush 2040, 3) := by decide +kernel
theorem dX12_init_17 : decode cX12_init 17 = .ok (.newarray .int, 2) := by decide +kernel
theorem dX12_init_19 : decode cX12_init 19 = .ok (.putfield 13, 3) := by decide +kernel
theorem dX12_init_22 : decode cX12_init 22 = .ok (.aload_n 0, 1) := by decide +kernel
theorem dX12_init_23 : decode cX12_init 23 = .ok (.sipush 260, 3) := by decide +kernel
theorem dX12_init_26 : decode cX12_init 26 = .ok (.newarray .int, 2) := by decide +kernel
theorem dX12_init_28 : decode cX12_init 28 = .ok (.putfield 16, 3) := by decide +kernel
theorem dX12_init_31 : decode cX12_init 31 = .ok (.aload_n 0, 1) := by decide +kernel
theorem dX12_init_32 : decode cX12_init 32 = .ok (.sipush 4080, 3) := by decide +kernel
theorem dX12_init_35 : decode cX12_init 35 = .ok (.newarray .int, 2) := by decide +kernel
theorem dX12_init_37 : decode cX12_init 37 = .ok (.putfield 19, 3) := by decide +kernel
theorem dX12_init_40 : decode cX12_init 40 = .ok (.aload_n 0, 1) := by decide +kernel
theorem dX12_init_41 : decode cX12_init 41 = .ok (.sipush 200, 3) := by decide +kernel
theorem dX12_init_44 : decode cX12_init 44 = .ok (.newarray .int, 2) := by decide +kernel
theorem dX12_init_46 : decode cX12_init 46 = .ok (.putfield 22, 3) := by decide +kernel
theorem dX12_init_49 : decode cX12_init 49 = .ok (.aload_n 0, 1) := by decide +kernel
theorem dX12_init_50 : decode cX12_init 50 = .ok (.sipush 200, 3) := by decide +kernel
theorem dX12_init_53 : decode cX12_init 53 = .ok (.newarray .int, 2) := by decide +kernel
theorem dX12_init_55 : decode cX12_init 55 = .ok (.putfield 25, 3) := by decide +kernel
theorem dX12_init_58 : decode cX12_init 58 = .ok (.aload_n 0, 1) := by decide +kernel
theorem dX12_init_59 : decode cX12_init 59 = .ok (.iconst 2, 1) := by decide +kernel
theorem dX12_init_60 : decode cX12_init 60 = .ok (.newarray .boolean, 2) := by decide +kernel
theorem dX12_init_62 : decode cX12_init 62 = .ok (.putfield 28, 3) := by decide +kernel
theorem dX12_init_65 : decode cX12_init 65 = .ok (.aload_n 0, 1) := by decide +kernel
theorem dX12_init_66 : decode cX12_init 66 = .ok (.bipush 60, 2) := by decide +kernel
theorem dX12_init_68 : decode cX12_init 68 = .ok (.newarray .int, 2) := by decide +kernel
theorem dX12_init_70 : decode cX12_init 70 = .ok (.putfield 32, 3) := by decide +kernel
theorem dX12_init_73 : decode cX12_init 73 = .ok (.aload_n 0, 1) := by decide +kernel
theorem dX12_init_74 : decode cX12_init 74 = .ok (.bipush 60, 2) := by decide +kernel
theorem dX12_init_76 : decode cX12_init 76 = .ok (.newarray .int, 2) := by decide +kernel
theorem dX12_init_78 : decode cX12_init 78 = .ok (.putfield 35, 3) := by decide +kernel
theorem dX12_init_81 : decode cX12_init 81 = .ok (.aload_n 0, 1) := by decide +kernel
theorem dX12_init_82 : decode cX12_init 82 = .ok (.bipush 60, 2) := by decide +kernel
theorem dX12_init_84 : decode cX12_init 84 = .ok (.newarray .int, 2) := by decide +kernel
theorem dX12_init_86 : decode cX12_init 86 = .ok (.putfield 38, 3) := by decide +kernel
theorem dX12_init_89 : decode cX12_init 89 = .ok (.aload_n 0, 1) := by decide +kernel
theorem dX12_init_90 : decode cX12_init 90 = .ok (.bipush 60, 2) := by decide +kernel
theorem dX12_init_92 : decode cX12_init 92 = .ok (.newarray .int, 2) := by decide +kernel
theorem dX12_init_94 : decode cX12_init 94 = .ok (.putfield 41, 3) := by decide +kernel
theorem dX12_init_97 : decode cX12_init 97 = .ok (.aload_n 0, 1) := by decide +kernel
theorem dX12_init_98 : decode cX12_init 98 = .ok (.bipush 60, 2) := by decide +kernel
theorem dX12_init_100 : decode cX12_init 100 = .ok (.newarray .boolean, 2) := by decide +kernel
theorem dX12_init_102 : decode cX12_init 102 = .ok (.putfield 44, 3) := by decide +kernel
theorem dX12_init_105 : decode cX12_init 105 = .ok (.aload_n 0, 1) := by decide +kernel
theorem dX12_init_106 : decode cX12_init 106 = .ok (.iconst 5, 1) := by decide +kernel
theorem dX12_init_107 : decode cX12_init 107 = .ok (.newarray .int, 2) := by decide +kernel
theorem dX12_init_109 : decode cX12_init 109 = .ok (.dup, 1) := by decide +kernel
theorem dX12_init_110 : decode cX12_init 110 = .ok (.iconst 0, 1) := by decide +kernel
theorem dX12_init_111 : decode cX12_init 111 = .ok (.iconst (-1), 1) := by decide +kernel
theorem dX12_init_112 : decode cX12_init 112 = .ok (.iastore, 1) := by decide +kernel
theorem dX12_init_113 : decode cX12_init 113 = .ok (.dup, 1) := by decide +kernel
theorem dX12_init_114 : decode cX12_init 114 = .ok (.iconst 1, 1) := by decide +kernel
theorem dX12_init_115 : decode cX12_init 115 = .ok (.iconst (-1), 1) := by decide +kernel
theorem dX12_init_116 : decode cX12_init 116 = .ok (.iastore, 1) := by decide +kernel
theorem dX12_init_117 : decode cX12_init 117 = .ok (.dup, 1) := by decide +kernel
theorem dX12_init_118 : decode cX12_init 118 = .ok (.iconst 2, 1) := by decide +kernel
theorem dX12_init_119 : decode cX12_init 119 = .ok (.iconst (-1), 1) := by decide +kernel
theorem dX12_init_120 : decode cX12_init 120 = .ok (.iastore, 1) := by decide +kernel
theorem dX12_init_121 : decode cX12_init 121 = .ok (.dup, 1) := by decide +kernel
theorem dX12_init_122 : decode cX12_init 122 = .ok (.iconst 3, 1) := by decide +kernel
theorem dX12_init_123 : decode cX12_init 123 = .ok (.iconst (-1), 1) := by decide +kernel
theorem dX12_init_124 : decode cX12_init 124 = .ok (.iastore, 1) := by decide +kernel
theorem dX12_init_125 : decode cX12_init 125 = .ok (.dup, 1) := by decide +kernel
theorem dX12_init_126 : decode cX12_init 126 = .ok (.iconst 4, 1) := by decide +kernel
theorem dX12_init_127 : decode cX12_init 127 = .ok (.iconst (-1), 1) := by decide +kernel
theorem dX12_init_128 : decode cX12_init 128 = .ok (.iastore, 1) := by decide +kernel
theorem dX12_init_129 : decode cX12_init 129 = .ok (.putfield 47, 3) := by decide +kernel
theorem dX12_init_132 : decode cX12_init 132 = .ok (.aload_n 0, 1) := by decide +kernel
theorem dX12_init_133 : decode cX12_init 133 = .ok (.bipush 60, 2) := by decide +kernel
theorem dX12_init_135 : decode cX12_init 135 = .ok (.newarray .int, 2) := by decide +kernel
theorem dX12_init_137 : decode cX12_init 137 = .ok (.putfield 50, 3) := by decide +kernel
theorem dX12_init_140 : decode cX12_init 140 = .ok (.aload_n 0, 1) := by decide +kernel
theorem dX12_init_141 : decode cX12_init 141 = .ok (.bipush 60, 2) := by decide +kernel
theorem dX12_init_143 : decode cX12_init 143 = .ok (.newarray .int, 2) := by decide +kernel
theorem dX12_init_145 : decode cX12_init 145 = .ok (.putfield 53, 3) := by decide +kernel
theorem dX12_init_148 : decode cX12_init 148 = .ok (.aload_n 0, 1) := by decide +kernel
theorem dX12_init_149 : decode cX12_init 149 = .ok (.bipush 40, 2) := by decide +kernel
theorem dX12_init_151 : decode cX12_init 151 = .ok (.newarray .int, 2) := by decide +kernel
theorem dX12_init_153 : decode cX12_init 153 = .ok (.putfield 56, 3) := by decide +kernel
theorem dX12_init_156 : decode cX12_init 156 = .ok (.aload_n 0, 1) := by decide +kernel
theorem dX12_init_157 : decode cX12_init 157 = .ok (.bipush 60, 2) := by decide +kernel
theorem dX12_init_159 : decode cX12_init 159 = .ok (.newarray .int, 2) := by decide +kernel
theorem dX12_init_161 : decode cX12_init 161 = .ok (.putfield 59, 3) := by decide +kernel
theorem dX12_init_164 : decode cX12_init 164 = .ok (.aload_n 0, 1) := by decide +kernel
theorem dX12_init_165 : decode cX12_init 165 = .ok (.sipush 2400, 3) := by decide +kernel
theorem dX12_init_168 : decode cX12_init 168 = .ok (.newarray .int, 2) := by decide +kernel
theorem dX12_init_170 : decode cX12_init 170 = .ok (.putfield 62, 3) := by decide +kernel
theorem dX12_init_173 : decode cX12_init 173 = .ok (.aload_n 0, 1) := by decide +kernel
theorem dX12_init_174 : decode cX12_init 174 = .ok (.bipush 60, 2) := by decide +kernel
theorem dX12_init_176 : decode cX12_init 176 = .ok (.newarray .int, 2) := by decide +kernel
theorem dX12_init_178 : decode cX12_init 178 = .ok (.putfield 65, 3) := by decide +kernel
theorem dX12_init_181 : decode cX12_init 181 = .ok (.aload_n 0, 1) := by decide +kernel
theorem dX12_init_182 : decode cX12_init 182 = .ok (.bipush 40, 2) := by decide +kernel
theorem dX12_init_184 : decode cX12_init 184 = .ok (.newarray .int, 2) := by decide +kernel
theorem dX12_init_186 : decode cX12_init 186 = .ok (.putfield 68, 3) := by decide +kernel
theorem dX12_init_189 : decode cX12_init 189 = .ok (.aload_n 0, 1) := by decide +kernel
theorem dX12_init_190 : decode cX12_init 190 = .ok (.bipush 101, 2) := by decide +kernel
theorem dX12_init_192 : decode cX12_init 192 = .ok (.newarray .int, 2) := by decide +kernel
theorem dX12_init_194 : decode cX12_init 194 = .ok (.putfield 71, 3) := by decide +kernel
theorem dX12_init_197 : decode cX12_init 197 = .ok (.aload_n 0, 1) := by decide +kernel
theorem dX12_init_198 : decode cX12_init 198 = .ok (.bipush 21, 2) := by decide +kernel
theorem dX12_init_200 : decode cX12_init 200 = .ok (.newarray .int, 2) := by decide +kernel
theorem dX12_init_202 : decode cX12_init 202 = .ok (.putfield 74, 3) := by decide +kernel
theorem dX12_init_205 : decode cX12_init 205 = .ok (.aload_n 0, 1) := by decide +kernel
theorem dX12_init_206 : decode cX12_init 206 = .ok (.iconst (-1), 1) := by decide +kernel
theorem dX12_init_207 : decode cX12_init 207 = .ok (.putfield 77, 3) := by decide +kernel
theorem dX12_init_210 : decode cX12_init 210 = .ok (.aload_n 0, 1) := by decide +kernel
theorem dX12_init_211 : decode cX12_init 211 = .ok (.sipush 240, 3) := by decide +kernel
theorem dX12_init_214 : decode cX12_init 214 = .ok (.newarray .int, 2) := by decide +kernel
theorem dX12_init_216 : decode cX12_init 216 = .ok (.putfield 81, 3) := by decide +kernel
theorem dX12_init_219 : decode cX12_init 219 = .ok (.return_, 1) := by decide +kernel
theorem hcX12_init : yX12_init.cls ≠ "java/lang/invoke/MethodHandle" ∧ yX12_init.cls ≠ "java/lang/invoke/VarHandle" ∧ (parseMethodDescriptor yX12_init.desc).map (fun d => d.parameters.length) = some 0 := ⟨by decide +kernel, by decide +kernel, by decide +kernel⟩
def fX12_init (La : sg_L) (s0 : sg_M) (o : Int) (Q : sg_L → sg_M → Prop) : Prop := ∀ (q1 : Nat) (La2 : sg_L), La2 = sg_pu La 10540 q1 → ∀ s3 : sg_M, s3 = sg_nw s0 La.1 10540 → ∀ o4 : Int, o4 = (La.1 : Int) → ∀ s14 : sg_M, s14 = sg_up s3 o 1 o4 → ∀ (q16 : Nat) (La17 : sg_L), La17 = sg_pu La2 12040 q16 → ∀ s18 : sg_M, s18 = sg_nw s14 La2.1 12040 → ∀ o19 : Int, o19 = (La2.1 : Int) → ∀ s29 : sg_M, s29 = sg_up s18 o 14 o19 → ∀ (q31 : Nat) (La32 : sg_L), La32 = sg_pu La17 10260 q31 → ∀ s33 : sg_M, s33 = sg_nw s29 La17.1 10260 → ∀ o34 : Int, o34 = (La17.1 : Int) → ∀ s44 : sg_M, s44 = sg_up s33 o 15 o34 → ∀ (q46 : Nat) (La47 : sg_L), La47 = sg_pu La32 14080 q46 → ∀ s48 : sg_M, s48 = sg_nw s44 La32.1 14080 → ∀ o49 : Int, o49 = (La32.1 : Int) → ∀ s59 : sg_M, s59 = sg_up s48 o 16 o49 → ∀ (q61 : Nat) (La62 : sg_L), La62 = sg_pu La47 10200 q61 → ∀ s63 : sg_M, s63 = sg_nw s59 La47.1 10200 → ∀ o64 : Int, o64 = (La47.1 : Int) → ∀ s74 : sg_M, s74 = sg_up s63 o 17 o64 → ∀ (q76 : Nat) (La77 : sg_L), La77 = sg_pu La62 10200 q76 → ∀ s78 : sg_M, s78 = sg_nw s74 La62.1 10200 → ∀ o79 : Int, o79 = (La62.1 : Int) → ∀ s89 : sg_M, s89 = sg_up s78 o 18 o79 → ∀ (q91 : Nat) (La92 : sg_L), La92 = sg_pu La77 20002 q91 → ∀ s93 : sg_M, s93 = sg_nw s89 La77.1 20002 → ∀ o94 : Int, o94 = (La77.1 : Int) → ∀ s103 : sg_M, s103 = sg_up s93 o 19 o94 → ∀ (q105 : Nat) (La106 : sg_L), La106 = sg_pu La92 10060 q105 → ∀ s107 : sg_M, s107 = sg_nw s103 La92.1 10060 → ∀ o108 : Int, o108 = (La92.1 : Int) → ∀ s118 : sg_M, s118 = sg_up s107 o 22 o108 → ∀ (q120 : Nat) (La121 : sg_L), La121 = sg_pu La106 10060 q120 → ∀ s122 : sg_M, s122 = sg_nw s118 La106.1 10060 → ∀ o123 : Int, o123 = (La106.1 : Int) → ∀ s133 : sg_M, s133 = sg_up s122 o 23 o123 → ∀ (q135 : Nat) (La136 : sg_L), La136 = sg_pu La121 10060 q135 → ∀ s137 : sg_M, s137 = sg_nw s133 La121.1 10060 → ∀ o138 : Int, o138 = (La121.1 : Int) → ∀ s148 : sg_M, s148 = sg_up s137 o 24 o138 → ∀ (q150 : Nat) (La151 : sg_L), La151 = sg_pu La136 10060 q150 → ∀ s152 : sg_M, s152 = sg_nw s148 La136.1 10060 → ∀ o153 : Int, o153 = (La136.1 : Int) → ∀ s163 : sg_M, s163 = sg_up s152 o 25 o153 → ∀ (q165 : Nat) (La166 : sg_L), La166 = sg_pu La151 20060 q165 → ∀ s167 : sg_M, s167 = sg_nw s163 La151.1 20060 → ∀ o168 : Int, o168 = (La151.1 : Int) → ∀ s177 : sg_M, s177 = sg_up s167 o 26 o168 → ∀ (q179 : Nat) (La180 : sg_L), La180 = sg_pu La166 10005 q179 → ∀ s181 : sg_M, s181 = sg_nw s177 La166.1 10005 → ∀ o182 : Int, o182 = (La166.1 : Int) → ∀ s192 : sg_M, s192 = sg_up s181 o182 0 (-1) → ∀ s194 : sg_M, s194 = sg_up s192 o182 1 (-1) → ∀ s196 : sg_M, s196 = sg_up s194 o182 2 (-1) → ∀ s198 : sg_M, s198 = sg_up s196 o182 3 (-1) → ∀ s200 : sg_M, s200 = sg_up s198 o182 4 (-1) → ∀ s202 : sg_M, s202 = sg_up s200 o 34 o182 → ∀ (q204 : Nat) (La205 : sg_L), La205 = sg_pu La180 10060 q204 → ∀ s206 : sg_M, s206 = sg_nw s202 La180.1 10060 → ∀ o207 : Int, o207 = (La180.1 : Int) → ∀ s217 : sg_M, s217 = sg_up s206 o 35 o207 → ∀ (q219 : Nat) (La220 : sg_L), La220 = sg_pu La205 10060 q219 → ∀ s221 : sg_M, s221 = sg_nw s217 La205.1 10060 → ∀ o222 : Int, o222 = (La205.1 : Int) → ∀ s232 : sg_M, s232 = sg_up s221 o 36 o222 → ∀ (q234 : Nat) (La235 : sg_L), La235 = sg_pu La220 10040 q234 → ∀ s236 : sg_M, s236 = sg_nw s232 La220.1 10040 → ∀ o237 : Int, o237 = (La220.1 : Int) → ∀ s247 : sg_M, s247 = sg_up s236 o 46 o237 → ∀ (q249 : Nat) (La250 : sg_L), La250 = sg_pu La235 10060 q249 → ∀ s251 : sg_M, s251 = sg_nw s247 La235.1 10060 → ∀ o252 : Int, o252 = (La235.1 : Int) → ∀ s262 : sg_M, s262 = sg_up s251 o 47 o252 → ∀ (q264 : Nat) (La265 : sg_L), La265 = sg_pu La250 12400 q264 → ∀ s266 : sg_M, s266 = sg_nw s262 La250.1 12400 → ∀ o267 : Int, o267 = (La250.1 : Int) → ∀ s277 : sg_M, s277 = sg_up s266 o 48 o267 → ∀ (q279 : Nat) (La280 : sg_L), La280 = sg_pu La265 10060 q279 → ∀ s281 : sg_M, s281 = sg_nw s277 La265.1 10060 → ∀ o282 : Int, o282 = (La265.1 : Int) → ∀ s292 : sg_M, s292 = sg_up s281 o 49 o282 → ∀ (q294 : Nat) (La295 : sg_L), La295 = sg_pu La280 10040 q294 → ∀ s296 : sg_M, s296 = sg_nw s292 La280.1 10040 → ∀ o297 : Int, o297 = (La280.1 : Int) → ∀ s307 : sg_M, s307 = sg_up s296 o 51 o297 → ∀ (q309 : Nat) (La310 : sg_L), La310 = sg_pu La295 10101 q309 → ∀ s311 : sg_M, s311 = sg_nw s307 La295.1 10101 → ∀ o312 : Int, o312 = (La295.1 : Int) → ∀ s322 : sg_M, s322 = sg_up s311 o 53 o312 → ∀ (q324 : Nat) (La325 : sg_L), La325 = sg_pu La310 10021 q324 → ∀ s326 : sg_M, s326 = sg_nw s322 La310.1 10021 → ∀ o327 : Int, o327 = (La310.1 : Int) → ∀ s337 : sg_M, s337 = sg_up s326 o 54 o327 → ∀ s339 : sg_M, s339 = sg_up s337 o 56 (-1) → ∀ (q341 : Nat) (La342 : sg_L), La342 = sg_pu La325 10240 q341 → ∀ s343 : sg_M, s343 = sg_nw s339 La325.1 10240 → ∀ o344 : Int, o344 = (La325.1 : Int) → ∀ s354 : sg_M, s354 = sg_up s343 o 57 o344 → sg_sealed La342 s354 o 32 12 ∧ ∀ La356 : sg_L, La356 = sg_se La342 o.toNat 12 → Q La356 s354
set_option maxHeartbeats 4000000 in
set_option maxRecDepth 100000 in
theorem CX12_init {l : Launch} {G : sg_G} {La : sg_L} {s0 : sg_M} {o : Int} (to : sg_O La o 32) {Q : sg_L → sg_M → Prop} (hf : fX12_init La s0 o Q) : sg_C l G yX12_init cX12_init 1 (none) 1 23 10709 La s0 [sg_r o] (sg_BV (sg_se La o.toNat 12) Q) := by
  refine sg_body (by decide +kernel) (Nat.le_of_ble_eq_true rfl) ?_
  intro p e s m args below meth c F hnm
  unfold fX12_init at hf
  show sg_W p l e (sg_rm 1 23 10709) s m args below meth c (MQ below (sg_Q (none) G La s.heap.size (sg_BV (sg_se La o.toNat 12) Q)) args s 23 10709 (sg_A La s.heap.size)) 1 G (sg_A La s.heap.size) La s0 0 0 0 [(0, sg_r o)] []
  have hin : meth.name = "<init>" := hnm
  refine gw_aload_n F 0 rfl rfl to.1 dX12_init_0 ?_
  refine gw_objInit F to.1 kw_955 kw_OI kw_OC (Nat.le_of_ble_eq_true rfl) (by decide) (by decide) dX12_init_1 ?_
  refine gw_aload_n F 0 rfl rfl to.1 dX12_init_4 ?_
  refine gw_sipush F rfl dX12_init_5 ?_
  refine gy_newI F (N := 540) kw_131 rfl (by decide) (by decide) (by decide) (List.forall_mem_cons.mpr ⟨(Or.inl to.2.1), (fun _ h => absurd h List.not_mem_nil)⟩) (List.forall_mem_cons.mpr ⟨(Or.inl to.2.1), (fun _ h => absurd h List.not_mem_nil)⟩) dX12_init_8 (fun q1 La2 s3 o4 e5 e6 e7 t8 hX9 => ?_)
  have hf := hf q1 La2 e5 s3 e6 o4 e7
  have hn10 : La.1 ≤ o4.toNat := by rw [e7, Int.toNat_natCast]; exact (sg_X.rf : sg_X La La).1
  have t11 := to.X hX9
  have hX12 := sg_X.tr (sg_X.rf) hX9
  have t13 := sg_AN_of (n := 540) t8 (by decide) (by decide) (by decide)
  obtain ⟨s14, e15⟩ : ∃ z : sg_M, z = sg_up s3 o 1 o4 := ⟨_, rfl⟩
  have hf := hf s14 e15
  refine gw_put5F F t11 (by decide) rfl sg_lay_RX12 (j := 1) (by decide) (D0 := tyX12 1) (fun _ => ⟨rfl, rfl⟩) t13.1 t13.2.1 e15 tyX12_ok nmX12 rfl hin rfl (tyX12_ok 1 (by decide)) rfl (host := "") kw_957 dX12_init_10 ?_
  refine gw_aload_n F 0 rfl rfl t11.1 dX12_init_13 ?_
  refine gw_sipush F rfl dX12_init_14 ?_
  refine gy_newI F (N := 2040) kw_131 rfl (by decide) (by decide) (by decide) (List.forall_mem_cons.mpr ⟨(Or.inl t11.2.1), (fun _ h => absurd h List.not_mem_nil)⟩) (List.forall_mem_cons.mpr ⟨(Or.inl t11.2.1), (fun _ h => absurd h List.not_mem_nil)⟩) dX12_init_17 (fun q16 La17 s18 o19 e20 e21 e22 t23 hX24 => ?_)
  have hf := hf q16 La17 e20 s18 e21 o19 e22
  have hn25 : La.1 ≤ o19.toNat := by rw [e22, Int.toNat_natCast]; exact (hX12 : sg_X La La2).1
  have t26 := t11.X hX24
  have hX27 := sg_X.tr (hX12) hX24
  have t28 := sg_AN_of (n := 2040) t23 (by decide) (by decide) (by decide)
  obtain ⟨s29, e30⟩ : ∃ z : sg_M, z = sg_up s18 o 14 o19 := ⟨_, rfl⟩
  have hf := hf s29 e30
  refine gw_put5F F t26 (by decide) rfl sg_lay_RX12 (j := 14) (by decide) (D0 := tyX12 14) (fun _ => ⟨rfl, rfl⟩) t28.1 t28.2.1 e30 tyX12_ok nmX12 rfl hin rfl (tyX12_ok 14 (by decide)) rfl (host := "") kw_970 dX12_init_19 ?_
  refine gw_aload_n F 0 rfl rfl t26.1 dX12_init_22 ?_
  refine gw_sipush F rfl dX12_init_23 ?_
  refine gy_newI F (N := 260) kw_131 rfl (by decide) (by decide) (by decide) (List.forall_mem_cons.mpr ⟨(Or.inl t26.2.1), (fun _ h => absurd h List.not_mem_nil)⟩) (List.forall_mem_cons.mpr ⟨(Or.inl t26.2.1), (fun _ h => absurd h List.not_mem_nil)⟩) dX12_init_26 (fun q31 La32 s33 o34 e35 e36 e37 t38 hX39 => ?_)
  have hf := hf q31 La32 e35 s33 e36 o34 e37
  have hn40 : La.1 ≤ o34.toNat := by rw [e37, Int.toNat_natCast]; exact (hX27 : sg_X La La17).1
  have t41 := t26.X hX39
  have hX42 := sg_X.tr (hX27) hX39
  have t43 := sg_AN_of (n := 260) t38 (by decide) (by decide) (by decide)
  obtain ⟨s44, e45⟩ : ∃ z : sg_M, z = sg_up s33 o 15 o34 := ⟨_, rfl⟩
  have hf := hf s44 e45
  refine gw_put5F F t41 (by decide) rfl sg_lay_RX12 (j := 15) (by decide) (D0 := tyX12 15) (fun _ => ⟨rfl, rfl⟩) t43.1 t43.2.1 e45 tyX12_ok nmX12 rfl hin rfl (tyX12_ok 15 (by decide)) rfl (host := "") kw_971 dX12_init_28 ?_
  refine gw_aload_n F 0 rfl rfl t41.1 dX12_init_31 ?_
  refine gw_sipush F rfl dX12_init_32 ?_
  refine gy_newI F (N := 4080) kw_131 rfl (by decide) (by decide) (by decide) (List.forall_mem_cons.mpr ⟨(Or.inl t41.2.1), (fun _ h => absurd h List.not_mem_nil)⟩) (List.forall_mem_cons.mpr ⟨(Or.inl t41.2.1), (fun _ h => absurd h List.not_mem_nil)⟩) dX12_init_35 (fun q46 La47 s48 o49 e50 e51 e52 t53 hX54 => ?_)
  have hf := hf q46 La47 e50 s48 e51 o49 e52
  have hn55 : La.1 ≤ o49.toNat := by rw [e52, Int.toNat_natCast]; exact (hX42 : sg_X La La32).1
  have t56 := t41.X hX54
  have hX57 := sg_X.tr (hX42) hX54
  have t58 := sg_AN_of (n := 4080) t53 (by decide) (by decide) (by decide)
  obtain ⟨s59, e60⟩ : ∃ z : sg_M, z = sg_up s48 o 16 o49 := ⟨_, rfl⟩
  have hf := hf s59 e60
  refine gw_put5F F t56 (by decide) rfl sg_lay_RX12 (j := 16) (by decide) (D0 := tyX12 16) (fun _ => ⟨rfl, rfl⟩) t58.1 t58.2.1 e60 tyX12_ok nmX12 rfl hin rfl (tyX12_ok 16 (by decide)) rfl (host := "") kw_972 dX12_init_37 ?_
  refine gw_aload_n F 0 rfl rfl t56.1 dX12_init_40 ?_
  refine gw_sipush F rfl dX12_init_41 ?_
  refine gy_newI F (N := 200) kw_131 rfl (by decide) (by decide) (by decide) (List.forall_mem_cons.mpr ⟨(Or.inl t56.2.1), (fun _ h => absurd h List.not_mem_nil)⟩) (List.forall_mem_cons.mpr ⟨(Or.inl t56.2.1), (fun _ h => absurd h List.not_mem_nil)⟩) dX12_init_44 (fun q61 La62 s63 o64 e65 e66 e67 t68 hX69 => ?_)
  have hf := hf q61 La62 e65 s63 e66 o64 e67
  have hn70 : La.1 ≤ o64.toNat := by rw [e67, Int.toNat_natCast]; exact (hX57 : sg_X La La47).1
  have t71 := t56.X hX69
  have hX72 := sg_X.tr (hX57) hX69
  have t73 := sg_AN_of (n := 200) t68 (by decide) (by decide) (by decide)
  obtain ⟨s74, e75⟩ : ∃ z : sg_M, z = sg_up s63 o 17 o64 := ⟨_, rfl⟩
  have hf := hf s74 e75
  refine gw_put5F F t71 (by decide) rfl sg_lay_RX12 (j := 17) (by decide) (D0 := tyX12 17) (fun _ => ⟨rfl, rfl⟩) t73.1 t73.2.1 e75 tyX12_ok nmX12 rfl hin rfl (tyX12_ok 17 (by decide)) rfl (host := "") kw_973 dX12_init_46 ?_
  refine gw_aload_n F 0 rfl rfl t71.1 dX12_init_49 ?_
  refine gw_sipush F rfl dX12_init_50 ?_
  refine gy_newI F (N := 200) kw_131 rfl (by decide) (by decide) (by decide) (List.forall_mem_cons.mpr ⟨(Or.inl t71.2.1), (fun _ h => absurd h List.not_mem_nil)⟩) (List.forall_mem_cons.mpr ⟨(Or.inl t71.2.1), (fun _ h => absurd h List.not_mem_nil)⟩) dX12_init_53 (fun q76 La77 s78 o79 e80 e81 e82 t83 hX84 => ?_)
  have hf := hf q76 La77 e80 s78 e81 o79 e82
  have hn85 : La.1 ≤ o79.toNat := by rw [e82, Int.toNat_natCast]; exact (hX72 : sg_X La La62).1
  have t86 := t71.X hX84
  have hX87 := sg_X.tr (hX72) hX84
  have t88 := sg_AN_of (n := 200) t83 (by decide) (by decide) (by decide)
  obtain ⟨s89, e90⟩ : ∃ z : sg_M, z = sg_up s78 o 18 o79 := ⟨_, rfl⟩
  have hf := hf s89 e90
  refine gw_put5F F t86 (by decide) rfl sg_lay_RX12 (j := 18) (by decide) (D0 := tyX12 18) (fun _ => ⟨rfl, rfl⟩) t88.1 t88.2.1 e90 tyX12_ok nmX12 rfl hin rfl (tyX12_ok 18 (by decide)) rfl (host := "") kw_974 dX12_init_55 ?_
  refine gw_aload_n F 0 rfl rfl t86.1 dX12_init_58 ?_
  refine gw_iconst F dX12_init_59 ?_
  refine gy_newZ F (N := 2) kw_1018 rfl (by decide) (by decide) (by decide) (List.forall_mem_cons.mpr ⟨(Or.inl t86.2.1), (fun _ h => absurd h List.not_mem_nil)⟩) (List.forall_mem_cons.mpr ⟨(Or.inl t86.2.1), (fun _ h => absurd h List.not_mem_nil)⟩) dX12_init_60 (fun q91 La92 s93 o94 e95 e96 e97 t98 hX99 => ?_)
  have hf := hf q91 La92 e95 s93 e96 o94 e97
  have hn100 : La.1 ≤ o94.toNat := by rw [e97, Int.toNat_natCast]; exact (hX87 : sg_X La La77).1
  have t101 := t86.X hX99
  have hX102 := sg_X.tr (hX87) hX99
  obtain ⟨s103, e104⟩ : ∃ z : sg_M, z = sg_up s93 o 19 o94 := ⟨_, rfl⟩
  have hf := hf s103 e104
  refine gw_put5F F t101 (by decide) rfl sg_lay_RX12 (j := 19) (by decide) (D0 := tyX12 19) (fun _ => ⟨rfl, rfl⟩) t98.1 t98.2.1 e104 tyX12_ok nmX12 rfl hin rfl (tyX12_ok 19 (by decide)) rfl (host := "") kw_975 dX12_init_62 ?_
  refine gw_aload_n F 0 rfl rfl t101.1 dX12_init_65 ?_
  refine gw_bipush F rfl dX12_init_66 ?_
  refine gy_newI F (N := 60) kw_131 rfl (by decide) (by decide) (by decide) (List.forall_mem_cons.mpr ⟨(Or.inl t101.2.1), (fun _ h => absurd h List.not_mem_nil)⟩) (List.forall_mem_cons.mpr ⟨(Or.inl t101.2.1), (fun _ h => absurd h List.not_mem_nil)⟩) dX12_init_68 (fun q105 La106 s107 o108 e109 e110 e111 t112 hX113 => ?_)
  have hf := hf q105 La106 e109 s107 e110 o108 e111
  have hn114 : La.1 ≤ o108.toNat := by rw [e111, Int.toNat_natCast]; exact (hX102 : sg_X La La92).1
  have t115 := t101.X hX113
  have hX116 := sg_X.tr (hX102) hX113
  have t117 := sg_AN_of (n := 60) t112 (by decide) (by decide) (by decide)
  obtain ⟨s118, e119⟩ : ∃ z : sg_M, z = sg_up s107 o 22 o108 := ⟨_, rfl⟩
  have hf := hf s118 e119
  refine gw_put5F F t115 (by decide) rfl sg_lay_RX12 (j := 22) (by decide) (D0 := tyX12 22) (fun _ => ⟨rfl, rfl⟩) t117.1 t117.2.1 e119 tyX12_ok nmX12 rfl hin rfl (tyX12_ok 22 (by decide)) rfl (host := "") kw_978 dX12_init_70 ?_
  refine gw_aload_n F 0 rfl rfl t115.1 dX12_init_73 ?_
  refine gw_bipush F rfl dX12_init_74 ?_
  refine gy_newI F (N := 60) kw_131 rfl (by decide) (by decide) (by decide) (List.forall_mem_cons.mpr ⟨(Or.inl t115.2.1), (fun _ h => absurd h List.not_mem_nil)⟩) (List.forall_mem_cons.mpr ⟨(Or.inl t115.2.1), (fun _ h => absurd h List.not_mem_nil)⟩) dX12_init_76 (fun q120 La121 s122 o123 e124 e125 e126 t127 hX128 => ?_)
  have hf := hf q120 La121 e124 s122 e125 o123 e126
  have hn129 : La.1 ≤ o123.toNat := by rw [e126, Int.toNat_natCast]; exact (hX116 : sg_X La La106).1
  have t130 := t115.X hX128
  have hX131 := sg_X.tr (hX116) hX128
  have t132 := sg_AN_of (n := 60) t127 (by decide) (by decide) (by decide)
  obtain ⟨s133, e134⟩ : ∃ z : sg_M, z = sg_up s122 o 23 o123 := ⟨_, rfl⟩
  have hf := hf s133 e134
  refine gw_put5F F t130 (by decide) rfl sg_lay_RX12 (j := 23) (by decide) (D0 := tyX12 23) (fun _ => ⟨rfl, rfl⟩) t132.1 t132.2.1 e134 tyX12_ok nmX12 rfl hin rfl (tyX12_ok 23 (by decide)) rfl (host := "") kw_979 dX12_init_78 ?_
  refine gw_aload_n F 0 rfl rfl t130.1 dX12_init_81 ?_
  refine gw_bipush F rfl dX12_init_82 ?_
  refine gy_newI F (N := 60) kw_131 rfl (by decide) (by decide) (by decide) (List.forall_mem_cons.mpr ⟨(Or.inl t130.2.1), (fun _ h => absurd h List.not_mem_nil)⟩) (List.forall_mem_cons.mpr ⟨(Or.inl t130.2.1), (fun _ h => absurd h List.not_mem_nil)⟩) dX12_init_84 (fun q135 La136 s137 o138 e139 e140 e141 t142 hX143 => ?_)
  have hf := hf q135 La136 e139 s137 e140 o138 e141
  have hn144 : La.1 ≤ o138.toNat := by rw [e141, Int.toNat_natCast]; exact (hX131 : sg_X La La121).1
  have t145 := t130.X hX143
  have hX146 := sg_X.tr (hX131) hX143
  have t147 := sg_AN_of (n := 60) t142 (by decide) (by decide) (by decide)
  obtain ⟨s148, e149⟩ : ∃ z : sg_M, z = sg_up s137 o 24 o138 := ⟨_, rfl⟩
  have hf := hf s148 e149
  refine gw_put5F F t145 (by decide) rfl sg_lay_RX12 (j := 24) (by decide) (D0 := tyX12 24) (fun _ => ⟨rfl, rfl⟩) t147.1 t147.2.1 e149 tyX12_ok nmX12 rfl hin rfl (tyX12_ok 24 (by decide)) rfl (host := "") kw_980 dX12_init_86 ?_
  refine gw_aload_n F 0 rfl rfl t145.1 dX12_init_89 ?_
  refine gw_bipush F rfl dX12_init_90 ?_
  refine gy_newI F (N := 60) kw_131 rfl (by decide) (by decide) (by decide) (List.forall_mem_cons.mpr ⟨(Or.inl t145.2.1), (fun _ h => absurd h List.not_mem_nil)⟩) (List.forall_mem_cons.mpr ⟨(Or.inl t145.2.1), (fun _ h => absurd h List.not_mem_nil)⟩) dX12_init_92 (fun q150 La151 s152 o153 e154 e155 e156 t157 hX158 => ?_)
  have hf := hf q150 La151 e154 s152 e155 o153 e156
  have hn159 : La.1 ≤ o153.toNat := by rw [e156, Int.toNat_natCast]; exact (hX146 : sg_X La La136).1
  have t160 := t145.X hX158
  have hX161 := sg_X.tr (hX146) hX158
  have t162 := sg_AN_of (n := 60) t157 (by decide) (by decide) (by decide)
  obtain ⟨s163, e164⟩ : ∃ z : sg_M, z = sg_up s152 o 25 o153 := ⟨_, rfl⟩
  have hf := hf s163 e164
  refine gw_put5F F t160 (by decide) rfl sg_lay_RX12 (j := 25) (by decide) (D0 := tyX12 25) (fun _ => ⟨rfl, rfl⟩) t162.1 t162.2.1 e164 tyX12_ok nmX12 rfl hin rfl (tyX12_ok 25 (by decide)) rfl (host := "") kw_981 dX12_init_94 ?_
  refine gw_aload_n F 0 rfl rfl t160.1 dX12_init_97 ?_
  refine gw_bipush F rfl dX12_init_98 ?_
  refine gy_newZ F (N := 60) kw_1018 rfl (by decide) (by decide) (by decide) (List.forall_mem_cons.mpr ⟨(Or.inl t160.2.1), (fun _ h => absurd h List.not_mem_nil)⟩) (List.forall_mem_cons.mpr ⟨(Or.inl t160.2.1), (fun _ h => absurd h List.not_mem_nil)⟩) dX12_init_100 (fun q165 La166 s167 o168 e169 e170 e171 t172 hX173 => ?_)
  have hf := hf q165 La166 e169 s167 e170 o168 e171
  have hn174 : La.1 ≤ o168.toNat := by rw [e171, Int.toNat_natCast]; exact (hX161 : sg_X La La151).1
  have t175 := t160.X hX173
  have hX176 := sg_X.tr (hX161) hX173
  obtain ⟨s177, e178⟩ : ∃ z : sg_M, z = sg_up s167 o 26 o168 := ⟨_, rfl⟩
  have hf := hf s177 e178
  refine gw_put5F F t175 (by decide) rfl sg_lay_RX12 (j := 26) (by decide) (D0 := tyX12 26) (fun _ => ⟨rfl, rfl⟩) t172.1 t172.2.1 e178 tyX12_ok nmX12 rfl hin rfl (tyX12_ok 26 (by decide)) rfl (host := "") kw_982 dX12_init_102 ?_
  refine gw_aload_n F 0 rfl rfl t175.1 dX12_init_105 ?_
  refine gw_iconst F dX12_init_106 ?_
  refine gy_newI F (N := 5) kw_131 rfl (by decide) (by decide) (by decide) (List.forall_mem_cons.mpr ⟨(Or.inl t175.2.1), (fun _ h => absurd h List.not_mem_nil)⟩) (List.forall_mem_cons.mpr ⟨(Or.inl t175.2.1), (fun _ h => absurd h List.not_mem_nil)⟩) dX12_init_107 (fun q179 La180 s181 o182 e183 e184 e185 t186 hX187 => ?_)
  have hf := hf q179 La180 e183 s181 e184 o182 e185
  have hn188 : La.1 ≤ o182.toNat := by rw [e185, Int.toNat_natCast]; exact (hX176 : sg_X La La166).1
  have t189 := t175.X hX187
  have hX190 := sg_X.tr (hX176) hX187
  have t191 := sg_AN_of (n := 5) t186 (by decide) (by decide) (by decide)
  refine gw_dup F rfl dX12_init_109 ?_
  refine gw_iconst F dX12_init_110 ?_
  refine gw_iconst F dX12_init_111 ?_
  obtain ⟨s192, e193⟩ : ∃ z : sg_M, z = sg_up s181 o182 0 (-1) := ⟨_, rfl⟩
  have hf := hf s192 e193
  refine gw_iast F t191 (by decide) (by decide) (by decide) e193 dX12_init_112 ?_
  refine gw_dup F rfl dX12_init_113 ?_
  refine gw_iconst F dX12_init_114 ?_
  refine gw_iconst F dX12_init_115 ?_
  obtain ⟨s194, e195⟩ : ∃ z : sg_M, z = sg_up s192 o182 1 (-1) := ⟨_, rfl⟩
  have hf := hf s194 e195
  refine gw_iast F t191 (by decide) (by decide) (by decide) e195 dX12_init_116 ?_
  refine gw_dup F rfl dX12_init_117 ?_
  refine gw_iconst F dX12_init_118 ?_
  refine gw_iconst F dX12_init_119 ?_
  obtain ⟨s196, e197⟩ : ∃ z : sg_M, z = sg_up s194 o182 2 (-1) := ⟨_, rfl⟩
  have hf := hf s196 e197
  refine gw_iast F t191 (by decide) (by decide) (by decide) e197 dX12_init_120 ?_
  refine gw_dup F rfl dX12_init_121 ?_
  refine gw_iconst F dX12_init_122 ?_
  refine gw_iconst F dX12_init_123 ?_
  obtain ⟨s198, e199⟩ : ∃ z : sg_M, z = sg_up s196 o182 3 (-1) := ⟨_, rfl⟩
  have hf := hf s198 e199
  refine gw_iast F t191 (by decide) (by decide) (by decide) e199 dX12_init_124 ?_
  refine gw_dup F rfl dX12_init_125 ?_
  refine gw_iconst F dX12_init_126 ?_
  refine gw_iconst F dX12_init_127 ?_
  obtain ⟨s200, e201⟩ : ∃ z : sg_M, z = sg_up s198 o182 4 (-1) := ⟨_, rfl⟩
  have hf := hf s200 e201
  refine gw_iast F t191 (by decide) (by decide) (by decide) e201 dX12_init_128 ?_
  obtain ⟨s202, e203⟩ : ∃ z : sg_M, z = sg_up s200 o 34 o182 := ⟨_, rfl⟩
  have hf := hf s202 e203
  refine gw_put5F F t189 (by decide) rfl sg_lay_RX12 (j := 34) (by decide) (D0 := tyX12 34) (fun _ => ⟨rfl, rfl⟩) t191.1 t191.2.1 e203 tyX12_ok nmX12 rfl hin rfl (tyX12_ok 34 (by decide)) rfl (host := "") kw_990 dX12_init_129 ?_
  refine gw_aload_n F 0 rfl rfl t189.1 dX12_init_132 ?_
  refine gw_bipush F rfl dX12_init_133 ?_
  refine gy_newI F (N := 60) kw_131 rfl (by decide) (by decide) (by decide) (List.forall_mem_cons.mpr ⟨(Or.inl t189.2.1), (fun _ h => absurd h List.not_mem_nil)⟩) (List.forall_mem_cons.mpr ⟨(Or.inl t189.2.1), (fun _ h => absurd h List.not_mem_nil)⟩) dX12_init_135 (fun q204 La205 s206 o207 e208 e209 e210 t211 hX212 => ?_)
  have hf := hf q204 La205 e208 s206 e209 o207 e210
  have hn213 : La.1 ≤ o207.toNat := by rw [e210, Int.toNat_natCast]; exact (hX190 : sg_X La La180).1
  have t214 := t189.X hX212
  have hX215 := sg_X.tr (hX190) hX212
  have t216 := sg_AN_of (n := 60) t211 (by decide) (by decide) (by decide)
  obtain ⟨s217, e218⟩ : ∃ z : sg_M, z = sg_up s206 o 35 o207 := ⟨_, rfl⟩
  have hf := hf s217 e218
  refine gw_put5F F t214 (by decide) rfl sg_lay_RX12 (j := 35) (by decide) (D0 := tyX12 35) (fun _ => ⟨rfl, rfl⟩) t216.1 t216.2.1 e218 tyX12_ok nmX12 rfl hin rfl (tyX12_ok 35 (by decide)) rfl (host := "") kw_991 dX12_init_137 ?_
  refine gw_aload_n F 0 rfl rfl t214.1 dX12_init_140 ?_
  refine gw_bipush F rfl dX12_init_141 ?_
  refine gy_newI F (N := 60) kw_131 rfl (by decide) (by decide) (by decide) (List.forall_mem_cons.mpr ⟨(Or.inl t214.2.1), (fun _ h => absurd h List.not_mem_nil)⟩) (List.forall_mem_cons.mpr ⟨(Or.inl t214.2.1), (fun _ h => absurd h List.not_mem_nil)⟩) dX12_init_143 (fun q219 La220 s221 o222 e223 e224 e225 t226 hX227 => ?_)
  have hf := hf q219 La220 e223 s221 e224 o222 e225
  have hn228 : La.1 ≤ o222.toNat := by rw [e225, Int.toNat_natCast]; exact (hX215 : sg_X La La205).1
  have t229 := t214.X hX227
  have hX230 := sg_X.tr (hX215) hX227
  have t231 := sg_AN_of (n := 60) t226 (by decide) (by decide) (by decide)
  obtain ⟨s232, e233⟩ : ∃ z : sg_M, z = sg_up s221 o 36 o222 := ⟨_, rfl⟩
  have hf := hf s232 e233
  refine gw_put5F F t229 (by decide) rfl sg_lay_RX12 (j := 36) (by decide) (D0 := tyX12 36) (fun _ => ⟨rfl, rfl⟩) t231.1 t231.2.1 e233 tyX12_ok nmX12 rfl hin rfl (tyX12_ok 36 (by decide)) rfl (host := "") kw_992 dX12_init_145 ?_
  refine gw_aload_n F 0 rfl rfl t229.1 dX12_init_148 ?_
  refine gw_bipush F rfl dX12_init_149 ?_
  refine gy_newI F (N := 40) kw_131 rfl (by decide) (by decide) (by decide) (List.forall_mem_cons.mpr ⟨(Or.inl t229.2.1), (fun _ h => absurd h List.not_mem_nil)⟩) (List.forall_mem_cons.mpr ⟨(Or.inl t229.2.1), (fun _ h => absurd h List.not_mem_nil)⟩) dX12_init_151 (fun q234 La235 s236 o237 e238 e239 e240 t241 hX242 => ?_)
  have hf := hf q234 La235 e238 s236 e239 o237 e240
  have hn243 : La.1 ≤ o237.toNat := by rw [e240, Int.toNat_natCast]; exact (hX230 : sg_X La La220).1
  have t244 := t229.X hX242
  have hX245 := sg_X.tr (hX230) hX242
  have t246 := sg_AN_of (n := 40) t241 (by decide) (by decide) (by decide)
  obtain ⟨s247, e248⟩ : ∃ z : sg_M, z = sg_up s236 o 46 o237 := ⟨_, rfl⟩
  have hf := hf s247 e248
  refine gw_put5F F t244 (by decide) rfl sg_lay_RX12 (j := 46) (by decide) (D0 := tyX12 46) (fun _ => ⟨rfl, rfl⟩) t246.1 t246.2.1 e248 tyX12_ok nmX12 rfl hin rfl (tyX12_ok 46 (by decide)) rfl (host := "") kw_1002 dX12_init_153 ?_
  refine gw_aload_n F 0 rfl rfl t244.1 dX12_init_156 ?_
  refine gw_bipush F rfl dX12_init_157 ?_
  refine gy_newI F (N := 60) kw_131 rfl (by decide) (by decide) (by decide) (List.forall_mem_cons.mpr ⟨(Or.inl t244.2.1), (fun _ h => absurd h List.not_mem_nil)⟩) (List.forall_mem_cons.mpr ⟨(Or.inl t244.2.1), (fun _ h => absurd h List.not_mem_nil)⟩) dX12_init_159 (fun q249 La250 s251 o252 e253 e254 e255 t256 hX257 => ?_)
  have hf := hf q249 La250 e253 s251 e254 o252 e255
  have hn258 : La.1 ≤ o252.toNat := by rw [e255, Int.toNat_natCast]; exact (hX245 : sg_X La La235).1
  have t259 := t244.X hX257
  have hX260 := sg_X.tr (hX245) hX257
  have t261 := sg_AN_of (n := 60) t256 (by decide) (by decide) (by decide)
  obtain ⟨s262, e263⟩ : ∃ z : sg_M, z = sg_up s251 o 47 o252 := ⟨_, rfl⟩
  have hf := hf s262 e263
  refine gw_put5F F t259 (by decide) rfl sg_lay_RX12 (j := 47) (by decide) (D0 := tyX12 47) (fun _ => ⟨rfl, rfl⟩) t261.1 t261.2.1 e263 tyX12_ok nmX12 rfl hin rfl (tyX12_ok 47 (by decide)) rfl (host := "") kw_1003 dX12_init_161 ?_
  refine gw_aload_n F 0 rfl rfl t259.1 dX12_init_164 ?_
  refine gw_sipush F rfl dX12_init_165 ?_
  refine gy_newI F (N := 2400) kw_131 rfl (by decide) (by decide) (by decide) (List.forall_mem_cons.mpr ⟨(Or.inl t259.2.1), (fun _ h => absurd h List.not_mem_nil)⟩) (List.forall_mem_cons.mpr ⟨(Or.inl t259.2.1), (fun _ h => absurd h List.not_mem_nil)⟩) dX12_init_168 (fun q264 La265 s266 o267 e268 e269 e270 t271 hX272 => ?_)
  have hf := hf q264 La265 e268 s266 e269 o267 e270
  have hn273 : La.1 ≤ o267.toNat := by rw [e270, Int.toNat_natCast]; exact (hX260 : sg_X La La250).1
  have t274 := t259.X hX272
  have hX275 := sg_X.tr (hX260) hX272
  have t276 := sg_AN_of (n := 2400) t271 (by decide) (by decide) (by decide)
  obtain ⟨s277, e278⟩ : ∃ z : sg_M, z = sg_up s266 o 48 o267 := ⟨_, rfl⟩
  have hf := hf s277 e278
  refine gw_put5F F t274 (by decide) rfl sg_lay_RX12 (j := 48) (by decide) (D0 := tyX12 48) (fun _ => ⟨rfl, rfl⟩) t276.1 t276.2.1 e278 tyX12_ok nmX12 rfl hin rfl (tyX12_ok 48 (by decide)) rfl (host := "") kw_1004 dX12_init_170 ?_
  refine gw_aload_n F 0 rfl rfl t274.1 dX12_init_173 ?_
  refine gw_bipush F rfl dX12_init_174 ?_
  refine gy_newI F (N := 60) kw_131 rfl (by decide) (by decide) (by decide) (List.forall_mem_cons.mpr ⟨(Or.inl t274.2.1), (fun _ h => absurd h List.not_mem_nil)⟩) (List.forall_mem_cons.mpr ⟨(Or.inl t274.2.1), (fun _ h => absurd h List.not_mem_nil)⟩) dX12_init_176 (fun q279 La280 s281 o282 e283 e284 e285 t286 hX287 => ?_)
  have hf := hf q279 La280 e283 s281 e284 o282 e285
  have hn288 : La.1 ≤ o282.toNat := by rw [e285, Int.toNat_natCast]; exact (hX275 : sg_X La La265).1
  have t289 := t274.X hX287
  have hX290 := sg_X.tr (hX275) hX287
  have t291 := sg_AN_of (n := 60) t286 (by decide) (by decide) (by decide)
  obtain ⟨s292, e293⟩ : ∃ z : sg_M, z = sg_up s281 o 49 o282 := ⟨_, rfl⟩
  have hf := hf s292 e293
  refine gw_put5F F t289 (by decide) rfl sg_lay_RX12 (j := 49) (by decide) (D0 := tyX12 49) (fun _ => ⟨rfl, rfl⟩) t291.1 t291.2.1 e293 tyX12_ok nmX12 rfl hin rfl (tyX12_ok 49 (by decide)) rfl (host := "") kw_1005 dX12_init_178 ?_
  refine gw_aload_n F 0 rfl rfl t289.1 dX12_init_181 ?_
  refine gw_bipush F rfl dX12_init_182 ?_
  refine gy_newI F (N := 40) kw_131 rfl (by decide) (by decide) (by decide) (List.forall_mem_cons.mpr ⟨(Or.inl t289.2.1), (fun _ h => absurd h List.not_mem_nil)⟩) (List.forall_mem_cons.mpr ⟨(Or.inl t289.2.1), (fun _ h => absurd h List.not_mem_nil)⟩) dX12_init_184 (fun q294 La295 s296 o297 e298 e299 e300 t301 hX302 => ?_)
  have hf := hf q294 La295 e298 s296 e299 o297 e300
  have hn303 : La.1 ≤ o297.toNat := by rw [e300, Int.toNat_natCast]; exact (hX290 : sg_X La La280).1
  have t304 := t289.X hX302
  have hX305 := sg_X.tr (hX290) hX302
  have t306 := sg_AN_of (n := 40) t301 (by decide) (by decide) (by decide)
  obtain ⟨s307, e308⟩ : ∃ z : sg_M, z = sg_up s296 o 51 o297 := ⟨_, rfl⟩
  have hf := hf s307 e308
  refine gw_put5F F t304 (by decide) rfl sg_lay_RX12 (j := 51) (by decide) (D0 := tyX12 51) (fun _ => ⟨rfl, rfl⟩) t306.1 t306.2.1 e308 tyX12_ok nmX12 rfl hin rfl (tyX12_ok 51 (by decide)) rfl (host := "") kw_1007 dX12_init_186 ?_
  refine gw_aload_n F 0 rfl rfl t304.1 dX12_init_189 ?_
  refine gw_bipush F rfl dX12_init_190 ?_
  refine gy_newI F (N := 101) kw_131 rfl (by decide) (by decide) (by decide) (List.forall_mem_cons.mpr ⟨(Or.inl t304.2.1), (fun _ h => absurd h List.not_mem_nil)⟩) (List.forall_mem_cons.mpr ⟨(Or.inl t304.2.1), (fun _ h => absurd h List.not_mem_nil)⟩) dX12_init_192 (fun q309 La310 s311 o312 e313 e314 e315 t316 hX317 => ?_)
  have hf := hf q309 La310 e313 s311 e314 o312 e315
  have hn318 : La.1 ≤ o312.toNat := by rw [e315, Int.toNat_natCast]; exact (hX305 : sg_X La La295).1
  have t319 := t304.X hX317
  have hX320 := sg_X.tr (hX305) hX317
  have t321 := sg_AN_of (n := 101) t316 (by decide) (by decide) (by decide)
  obtain ⟨s322, e323⟩ : ∃ z : sg_M, z = sg_up s311 o 53 o312 := ⟨_, rfl⟩
  have hf := hf s322 e323
  refine gw_put5F F t319 (by decide) rfl sg_lay_RX12 (j := 53) (by decide) (D0 := tyX12 53) (fun _ => ⟨rfl, rfl⟩) t321.1 t321.2.1 e323 tyX12_ok nmX12 rfl hin rfl (tyX12_ok 53 (by decide)) rfl (host := "") kw_1009 dX12_init_194 ?_
  refine gw_aload_n F 0 rfl rfl t319.1 dX12_init_197 ?_
  refine gw_bipush F rfl dX12_init_198 ?_
  refine gy_newI F (N := 21) kw_131 rfl (by decide) (by decide) (by decide) (List.forall_mem_cons.mpr ⟨(Or.inl t319.2.1), (fun _ h => absurd h List.not_mem_nil)⟩) (List.forall_mem_cons.mpr ⟨(Or.inl t319.2.1), (fun _ h => absurd h List.not_mem_nil)⟩) dX12_init_200 (fun q324 La325 s326 o327 e328 e329 e330 t331 hX332 => ?_)
  have hf := hf q324 La325 e328 s326 e329 o327 e330
  have hn333 : La.1 ≤ o327.toNat := by rw [e330, Int.toNat_natCast]; exact (hX320 : sg_X La La310).1
  have t334 := t319.X hX332
  have hX335 := sg_X.tr (hX320) hX332
  have t336 := sg_AN_of (n := 21) t331 (by decide) (by decide) (by decide)
  obtain ⟨s337, e338⟩ : ∃ z : sg_M, z = sg_up s326 o 54 o327 := ⟨_, rfl⟩
  have hf := hf s337 e338
  refine gw_put5F F t334 (by decide) rfl sg_lay_RX12 (j := 54) (by decide) (D0 := tyX12 54) (fun _ => ⟨rfl, rfl⟩) t336.1 t336.2.1 e338 tyX12_ok nmX12 rfl hin rfl (tyX12_ok 54 (by decide)) rfl (host := "") kw_1010 dX12_init_202 ?_
  refine gw_aload_n F 0 rfl rfl t334.1 dX12_init_205 ?_
  refine gw_iconst F dX12_init_206 ?_
  obtain ⟨s339, e340⟩ : ∃ z : sg_M, z = sg_up s337 o 56 (-1) := ⟨_, rfl⟩
  have hf := hf s339 e340
  refine gw_put0 F t334 (by decide) rfl sg_lay_RX12 (j := 56) (by decide) (by decide) e340 tyX12_ok nmX12 rfl (tyX12_ok 56 (by decide)) rfl (host := "") (.inl kw_1012) dX12_init_207 ?_
  refine gw_aload_n F 0 rfl rfl t334.1 dX12_init_210 ?_
  refine gw_sipush F rfl dX12_init_211 ?_
  refine gy_newI F (N := 240) kw_131 rfl (by decide) (by decide) (by decide) (List.forall_mem_cons.mpr ⟨(Or.inl t334.2.1), (fun _ h => absurd h List.not_mem_nil)⟩) (List.forall_mem_cons.mpr ⟨(Or.inl t334.2.1), (fun _ h => absurd h List.not_mem_nil)⟩) dX12_init_214 (fun q341 La342 s343 o344 e345 e346 e347 t348 hX349 => ?_)
  have hf := hf q341 La342 e345 s343 e346 o344 e347
  have hn350 : La.1 ≤ o344.toNat := by rw [e347, Int.toNat_natCast]; exact (hX335 : sg_X La La325).1
  have t351 := t334.X hX349
  have hX352 := sg_X.tr (hX335) hX349
  have t353 := sg_AN_of (n := 240) t348 (by decide) (by decide) (by decide)
  obtain ⟨s354, e355⟩ : ∃ z : sg_M, z = sg_up s343 o 57 o344 := ⟨_, rfl⟩
  have hf := hf s354 e355
  refine gw_put5F F t351 (by decide) rfl sg_lay_RX12 (j := 57) (by decide) (D0 := tyX12 57) (fun _ => ⟨rfl, rfl⟩) t353.1 t353.2.1 e355 tyX12_ok nmX12 rfl hin rfl (tyX12_ok 57 (by decide)) rfl (host := "") kw_1013 dX12_init_216 ?_
  obtain ⟨g357, hf⟩ := hf
  obtain ⟨La356, e358⟩ : ∃ z : sg_L, z = sg_se La342 o.toNat 12 := ⟨_, rfl⟩
  have hf := hf La356 e358
  refine gw_seal t351 ⟨by decide, by decide, by decide⟩ (by decide) (by decide) g357.1 g357.2 ?_
  rw [← e358]
  exact gr_BC F (o := o.toNat) (kd := 12) hf (by rw [e358]; exact sg_X.both hX352) (by decide) (by decide) dX12_init_219

theorem dX1_init_0 : decode cX1_init 0 = .ok (.aload_n 0, 1) := by decide +kernel
theorem dX1_init_1 : decode cX1_init 1 = .ok (.invokespecial 3, 3) := by decide +kernel
theorem dX1_init_4 : decode cX1_init 4 = .ok (.aload_n 0, 1) := by decide +kernel
theorem dX1_init_5 : decode cX1_init 5 = .ok (.bipush 60, 2) := by decide +kernel
theorem dX1_init_7 : decode cX1_init 7 = .ok (.newarray .int, 2) := by decide +kernel
theorem dX1_init_9 : decode cX1_init 9 = .ok (.putfield 9, 3) := by decide +kernel
theorem dX1_init_12 : decode cX1_init 12 = .ok (.aload_n 0, 1) := by decide +kernel
theorem dX1_init_13 : decode cX1_init 13 = .ok (.bipush 60, 2) := by decide +kernel
theorem dX1_init_15 : decode cX1_init 15 = .ok (.newarray .int, 2) := by decide +kernel
theorem dX1_init_17 : decode cX1_init 17 = .ok (.putfield 15, 3) := by decide +kernel
theorem dX1_init_20 : decode cX1_init 20 = .ok (.aload_n 0, 1) := by decide +kernel
theorem dX1_init_21 : decode cX1_init 21 = .ok (.bipush 60, 2) := by decide +kernel
theorem dX1_init_23 : decode cX1_init 23 = .ok (.newarray .int, 2) := by decide +kernel
theorem dX1_init_25 : decode cX1_init 25 = .ok (.putfield 18, 3) := by decide +kernel
theorem dX1_init_28 : decode cX1_init 28 = .ok (.aload_n 0, 1) := by decide +kernel
theorem dX1_init_29 : decode cX1_init 29 = .ok (.bipush 60, 2) := by decide +kernel
theorem dX1_init_31 : decode cX1_init 31 = .ok (.newarray .int, 2) := by decide +kernel
theorem dX1_init_33 : decode cX1_init 33 = .ok (.putfield 21, 3) := by decide +kernel
theorem dX1_init_36 : decode cX1_init 36 = .ok (.aload_n 0, 1) := by decide +kernel
theorem dX1_init_37 : decode cX1_init 37 = .ok (.iconst 0, 1) := by decide +kernel
theorem dX1_init_38 : decode cX1_init 38 = .ok (.putfield 24, 3) := by decide +kernel
theorem dX1_init_41 : decode cX1_init 41 = .ok (.aload_n 0, 1) := by decide +kernel
theorem dX1_init_42 : decode cX1_init 42 = .ok (.iconst 0, 1) := by decide +kernel
theorem dX1_init_43 : decode cX1_init 43 = .ok (.putfield 28, 3) := by decide +kernel
theorem dX1_init_46 : decode cX1_init 46 = .ok (.aload_n 0, 1) := by decide +kernel
theorem dX1_init_47 : decode cX1_init 47 = .ok (.iconst 0, 1) := by decide +kernel
theorem dX1_init_48 : decode cX1_init 48 = .ok (.putfield 31, 3) := by decide +kernel
theorem dX1_init_51 : decode cX1_init 51 = .ok (.return_, 1) := by decide +kernel
theorem hcX1_init : yX1_init.cls ≠ "java/lang/invoke/MethodHandle" ∧ yX1_init.cls ≠ "java/lang/invoke/VarHandle" ∧ (parseMethodDescriptor yX1_init.desc).map (fun d => d.parameters.length) = some 0 := ⟨by decide +kernel, by decide +kernel, by decide +kernel⟩
def fX1_init (La : sg_L) (s0 : sg_M) (o : Int) (Q : sg_L → sg_M → Prop) : Prop := ∀ (q1 : Nat) (La2 : sg_L), La2 = sg_pu La 10060 q1 → ∀ s3 : sg_M, s3 = sg_nw s0 La.1 10060 → ∀ o4 : Int, o4 = (La.1 : Int) → ∀ s14 : sg_M, s14 = sg_up s3 o 0 o4 → ∀ (q16 : Nat) (La17 : sg_L), La17 = sg_pu La2 10060 q16 → ∀ s18 : sg_M, s18 = sg_nw s14 La2.1 10060 → ∀ o19 : Int, o19 = (La2.1 : Int) → ∀ s29 : sg_M, s29 = sg_up s18 o 1 o19 → ∀ (q31 : Nat) (La32 : sg_L), La32 = sg_pu La17 10060 q31 → ∀ s33 : sg_M, s33 = sg_nw s29 La17.1 10060 → ∀ o34 : Int, o34 = (La17.1 : Int) → ∀ s44 : sg_M, s44 = sg_up s33 o 2 o34 → ∀ (q46 : Nat) (La47 : sg_L), La47 = sg_pu La32 10060 q46 → ∀ s48 : sg_M, s48 = sg_nw s44 La32.1 10060 → ∀ o49 : Int, o49 = (La32.1 : Int) → ∀ s59 : sg_M, s59 = sg_up s48 o 3 o49 → ∀ s61 : sg_M, s61 = sg_up s59 o 4 0 → ∀ s63 : sg_M, s63 = sg_up s61 o 5 0 → ∀ s65 : sg_M, s65 = sg_up s63 o 6 0 → sg_sealed La47 s65 o 21 1 ∧ ∀ La67 : sg_L, La67 = sg_se La47 o.toNat 1 → Q La67 s65
set_option maxHeartbeats 4000000 in
set_option maxRecDepth 100000 in
theorem CX1_init {l : Launch} {G : sg_G} {La : sg_L} {s0 : sg_M} {o : Int} (to : sg_O La o 21) {Q : sg_L → sg_M → Prop} (hf : fX1_init La s0 o Q) : sg_C l G yX1_init cX1_init 1 (none) 1 4 240 La s0 [sg_r o] (sg_BV (sg_se La o.toNat 1) Q) := by
  refine sg_body (by decide +kernel) (Nat.le_of_ble_eq_true rfl) ?_
  intro p e s m args below meth c F hnm
  unfold fX1_init at hf
  show sg_W p l e (sg_rm 1 4 240) s m args below meth c (MQ below (sg_Q (none) G La s.heap.size (sg_BV (sg_se La o.toNat 1) Q)) args s 4 240 (sg_A La s.heap.size)) 1 G (sg_A La s.heap.size) La s0 0 0 0 [(0, sg_r o)] []
  have hin : meth.name = "<init>" := hnm
  refine gw_aload_n F 0 rfl rfl to.1 dX1_init_0 ?_
  refine gw_objInit F to.1 kw_157 kw_OI kw_OC (Nat.le_of_ble_eq_true rfl) (by decide) (by decide) dX1_init_1 ?_
  refine gw_aload_n F 0 rfl rfl to.1 dX1_init_4 ?_
  refine gw_bipush F rfl dX1_init_5 ?_
  refine gy_newI F (N := 60) kw_131 rfl (by decide) (by decide) (by decide) (List.forall_mem_cons.mpr ⟨(Or.inl to.2.1), (fun _ h => absurd h List.not_mem_nil)⟩) (List.forall_mem_cons.mpr ⟨(Or.inl to.2.1), (fun _ h => absurd h List.not_mem_nil)⟩) dX1_init_7 (fun q1 La2 s3 o4 e5 e6 e7 t8 hX9 => ?_)
  have hf := hf q1 La2 e5 s3 e6 o4 e7
  have hn10 : La.1 ≤ o4.toNat := by rw [e7, Int.toNat_natCast]; exact (sg_X.rf : sg_X La La).1
  have t11 := to.X hX9
  have hX12 := sg_X.tr (sg_X.rf) hX9
  have t13 := sg_AN_of (n := 60) t8 (by decide) (by decide) (by decide)
  obtain ⟨s14, e15⟩ : ∃ z : sg_M, z = sg_up s3 o 0 o4 := ⟨_, rfl⟩
  have hf := hf s14 e15
  refine gw_put5F F t11 (by decide) rfl sg_lay_RX1 (j := 0) (by decide) (D0 := tyX1 0) (fun _ => ⟨rfl, rfl⟩) t13.1 t13.2.1 e15 tyX1_ok nmX1 rfl hin rfl (tyX1_ok 0 (by decide)) rfl (host := "") kw_158 dX1_init_9 ?_
  refine gw_aload_n F 0 rfl rfl t11.1 dX1_init_12 ?_
  refine gw_bipush F rfl dX1_init_13 ?_
  refine gy_newI F (N := 60) kw_131 rfl (by decide) (by decide) (by decide) (List.forall_mem_cons.mpr ⟨(Or.inl t11.2.1), (fun _ h => absurd h List.not_mem_nil)⟩) (List.forall_mem_cons.mpr ⟨(Or.inl t11.2.1), (fun _ h => absurd h List.not_mem_nil)⟩) dX1_init_15 (fun q16 La17 s18 o19 e20 e21 e22 t23 hX24 => ?_)
  have hf := hf q16 La17 e20 s18 e21 o19 e22
  have hn25 : La.1 ≤ o19.toNat := by rw [e22, Int.toNat_natCast]; exact (hX12 : sg_X La La2).1
  have t26 := t11.X hX24
  have hX27 := sg_X.tr (hX12) hX24
  have t28 := sg_AN_of (n := 60) t23 (by decide) (by decide) (by decide)
  obtain ⟨s29, e30⟩ : ∃ z : sg_M, z = sg_up s18 o 1 o19 := ⟨_, rfl⟩
  have hf := hf s29 e30
  refine gw_put5F F t26 (by decide) rfl sg_lay_RX1 (j := 1) (by decide) (D0 := tyX1 1) (fun _ => ⟨rfl, rfl⟩) t28.1 t28.2.1 e30 tyX1_ok nmX1 rfl hin rfl (tyX1_ok 1 (by decide)) rfl (host := "") kw_159 dX1_init_17 ?_
  refine gw_aload_n F 0 rfl rfl t26.1 dX1_init_20 ?_
  refine gw_bipush F rfl dX1_init_21 ?_
  refine gy_newI F (N := 60) kw_131 rfl (by decide) (by decide) (by decide) (List.forall_mem_cons.mpr ⟨(Or.inl t26.2.1), (fun _ h => absurd h List.not_mem_nil)⟩) (List.forall_mem_cons.mpr ⟨(Or.inl t26.2.1), (fun _ h => absurd h List.not_mem_nil)⟩) dX1_init_23 (fun q31 La32 s33 o34 e35 e36 e37 t38 hX39 => ?_)
  have hf := hf q31 La32 e35 s33 e36 o34 e37
  have hn40 : La.1 ≤ o34.toNat := by rw [e37, Int.toNat_natCast]; exact (hX27 : sg_X La La17).1
  have t41 := t26.X hX39
  have hX42 := sg_X.tr (hX27) hX39
  have t43 := sg_AN_of (n := 60) t38 (by decide) (by decide) (by decide)
  obtain ⟨s44, e45⟩ : ∃ z : sg_M, z = sg_up s33 o 2 o34 := ⟨_, rfl⟩
  have hf := hf s44 e45
  refine gw_put5F F t41 (by decide) rfl sg_lay_RX1 (j := 2) (by decide) (D0 := tyX1 2) (fun _ => ⟨rfl, rfl⟩) t43.1 t43.2.1 e45 tyX1_ok nmX1 rfl hin rfl (tyX1_ok 2 (by decide)) rfl (host := "") kw_161 dX1_init_25 ?_
  refine gw_aload_n F 0 rfl rfl t41.1 dX1_init_28 ?_
  refine gw_bipush F rfl dX1_init_29 ?_
  refine gy_newI F (N := 60) kw_131 rfl (by decide) (by decide) (by decide) (List.forall_mem_cons.mpr ⟨(Or.inl t41.2.1), (fun _ h => absurd h List.not_mem_nil)⟩) (List.forall_mem_cons.mpr ⟨(Or.inl t41.2.1), (fun _ h => absurd h List.not_mem_nil)⟩) dX1_init_31 (fun q46 La47 s48 o49 e50 e51 e52 t53 hX54 => ?_)
  have hf := hf q46 La47 e50 s48 e51 o49 e52
  have hn55 : La.1 ≤ o49.toNat := by rw [e52, Int.toNat_natCast]; exact (hX42 : sg_X La La32).1
  have t56 := t41.X hX54
  have hX57 := sg_X.tr (hX42) hX54
  have t58 := sg_AN_of (n := 60) t53 (by decide) (by decide) (by decide)
  obtain ⟨s59, e60⟩ : ∃ z : sg_M, z = sg_up s48 o 3 o49 := ⟨_, rfl⟩
  have hf := hf s59 e60
  refine gw_put5F F t56 (by decide) rfl sg_lay_RX1 (j := 3) (by decide) (D0 := tyX1 3) (fun _ => ⟨rfl, rfl⟩) t58.1 t58.2.1 e60 tyX1_ok nmX1 rfl hin rfl (tyX1_ok 3 (by decide)) rfl (host := "") kw_162 dX1_init_33 ?_
  refine gw_aload_n F 0 rfl rfl t56.1 dX1_init_36 ?_
  refine gw_iconst F dX1_init_37 ?_
  obtain ⟨s61, e62⟩ : ∃ z : sg_M, z = sg_up s59 o 4 0 := ⟨_, rfl⟩
  have hf := hf s61 e62
  refine gw_put0 F t56 (by decide) rfl sg_lay_RX1 (j := 4) (by decide) (by decide) e62 tyX1_ok nmX1 rfl (tyX1_ok 4 (by decide)) rfl (host := "") (.inl kw_163) dX1_init_38 ?_
  refine gw_aload_n F 0 rfl rfl t56.1 dX1_init_41 ?_
  refine gw_iconst F dX1_init_42 ?_
  obtain ⟨s63, e64⟩ : ∃ z : sg_M, z = sg_up s61 o 5 0 := ⟨_, rfl⟩
  have hf := hf s63 e64
  refine gw_put0 F t56 (by decide) rfl sg_lay_RX1 (j := 5) (by decide) (by decide) e64 tyX1_ok nmX1 rfl (tyX1_ok 5 (by decide)) rfl (host := "") (.inl kw_166) dX1_init_43 ?_
  refine gw_aload_n F 0 rfl rfl t56.1 dX1_init_46 ?_
  refine gw_iconst F dX1_init_47 ?_
  obtain ⟨s65, e66⟩ : ∃ z : sg_M, z = sg_up s63 o 6 0 := ⟨_, rfl⟩
  have hf := hf s65 e66
  refine gw_put0 F t56 (by decide) rfl sg_lay_RX1 (j := 6) (by decide) (by decide) e66 tyX1_ok nmX1 rfl (tyX1_ok 6 (by decide)) rfl (host := "") (.inl kw_169) dX1_init_48 ?_
  obtain ⟨g68, hf⟩ := hf
  obtain ⟨La67, e69⟩ : ∃ z : sg_L, z = sg_se La47 o.toNat 1 := ⟨_, rfl⟩
  have hf := hf La67 e69
  refine gw_seal t56 ⟨by decide, by decide, by decide⟩ (by decide) (by decide) g68.1 g68.2 ?_
  rw [← e69]
  exact gr_BC F (o := o.toNat) (kd := 1) hf (by rw [e69]; exact sg_X.both hX57) (by decide) (by decide) dX1_init_51

theorem dX6_setCost_0 : decode cX6_setCost 0 = .ok (.iload_n 1, 1) := by decide +kernel
theorem dX6_setCost_1 : decode cX6_setCost 1 = .ok (.bipush 40, 2) := by decide +kernel
theorem dX6_setCost_3 : decode cX6_setCost 3 = .ok (.imul, 1) := by decide +kernel
theorem dX6_setCost_4 : decode cX6_setCost 4 = .ok (.iload_n 2, 1) := by decide +kernel
theorem dX6_setCost_5 : decode cX6_setCost 5 = .ok (.iadd, 1) := by decide +kernel
theorem dX6_setCost_6 : decode cX6_setCost 6 = .ok (.istore 4, 2) := by decide +kernel
theorem dX6_setCost_8 : decode cX6_setCost 8 = .ok (.iload 4, 2) := by decide +kernel
theorem dX6_setCost_10 : decode cX6_setCost 10 = .ok (.ifCond .lt 21, 3) := by decide +kernel
theorem dX6_setCost_13 : decode cX6_setCost 13 = .ok (.iload 4, 2) := by decide +kernel
theorem dX6_setCost_15 : decode cX6_setCost 15 = .ok (.aload_n 0, 1) := by decide +kernel
theorem dX6_setCost_16 : decode cX6_setCost 16 = .ok (.getfield 9, 3) := by decide +kernel
theorem dX6_setCost_19 : decode cX6_setCost 19 = .ok (.arraylength, 1) := by decide +kernel
theorem dX6_setCost_20 : decode cX6_setCost 20 = .ok (.if_icmp .ge 11, 3) := by decide +kernel
theorem dX6_setCost_23 : decode cX6_setCost 23 = .ok (.aload_n 0, 1) := by decide +kernel
theorem dX6_setCost_24 : decode cX6_setCost 24 = .ok (.getfield 9, 3) := by decide +kernel
theorem dX6_setCost_27 : decode cX6_setCost 27 = .ok (.iload 4, 2) := by decide +kernel
theorem dX6_setCost_29 : decode cX6_setCost 29 = .ok (.iload_n 3, 1) := by decide +kernel
theorem dX6_setCost_30 : decode cX6_setCost 30 = .ok (.iastore, 1) := by decide +kernel
theorem dX6_setCost_31 : decode cX6_setCost 31 = .ok (.return_, 1) := by decide +kernel
theorem hcX6_setCost : yX6_setCost.cls ≠ "java/lang/invoke/MethodHandle" ∧ yX6_setCost.cls ≠ "java/lang/invoke/VarHandle" ∧ (parseMethodDescriptor yX6_setCost.desc).map (fun d => d.parameters.length) = some 3 := ⟨by decide +kernel, by decide +kernel, by decide +kernel⟩
def fX6_setCost (s0 : sg_M) (x1 : Int) (x2 : Int) (x3 : Int) (Q : sg_M → Prop) : Prop := sg_R ((x1 * 40) + x2) ∧ ((((x1 * 40) + x2) < 0 → Q s0) ∧ (¬ (((x1 * 40) + x2) < 0) → sg_R 2400 ∧ ((2400 ≤ ((x1 * 40) + x2) → Q s0) ∧ (¬ (2400 ≤ ((x1 * 40) + x2)) → (0 ≤ ((x1 * 40) + x2) ∧ ((x1 * 40) + x2) < 2400) ∧ ∀ s8 : sg_M, s8 = sg_up s0 47 ((x1 * 40) + x2) x3 → Q s8))))
set_option maxHeartbeats 4000000 in
set_option maxRecDepth 100000 in
theorem CX6_setCost {l : Launch} {G : sg_G} {La : sg_L} {s0 : sg_M} (hst : sg_St La) {x1 : Int} (r1 : sg_R x1) {x2 : Int} (r2 : sg_R x2) {x3 : Int} (r3 : sg_R x3) {Q : sg_M → Prop} (hf : fX6_setCost s0 x1 x2 x3 Q) : sg_C l G yX6_setCost cX6_setCost 5 (none) 1 0 0 La s0 [sg_r 46, sg_i x1, sg_i x2, sg_i x3] (sg_HV La Q) := by
  refine sg_body (by decide +kernel) (Nat.le_of_ble_eq_true rfl) ?_
  intro p e s m args below meth c F hnm
  unfold fX6_setCost at hf
  show sg_W p l e (sg_rm 1 0 0) s m args below meth c (MQ below (sg_Q (none) G La s.heap.size (sg_HV La Q)) args s 0 0 (sg_A La s.heap.size)) 5 G (sg_A La s.heap.size) La s0 0 0 0 [(0, sg_r 46), (1, sg_i x1), (2, sg_i x2), (3, sg_i x3)] []
  refine gw_iload_n F 1 rfl rfl dX6_setCost_0 ?_
  refine gw_bipush F rfl dX6_setCost_1 ?_
  refine gw_imul F rfl dX6_setCost_3 ?_
  refine gw_iload_n F 2 rfl rfl dX6_setCost_4 ?_
  refine gw_iadd F rfl dX6_setCost_5 ?_
  refine gw_istore F (by decide) rfl dX6_setCost_6 ?_
  refine gw_iload F 0 rfl dX6_setCost_8 ?_
  obtain ⟨g1, hf⟩ := hf
  refine gw_if_lt F (tgt := 31) dX6_setCost_10 (by decide) g1 (fun c2 => ?_) (fun c2 => ?_)
  · have hf := hf.1 c2
    exact gr_HV F hf (by decide) (by decide) dX6_setCost_31
  · have hf := hf.2 c2
    refine gw_iload F 0 rfl dX6_setCost_13 ?_
    refine gw_aload_n F 1 rfl rfl (by decide) dX6_setCost_15 ?_
    refine gw_get3 F (so_46 hst) (by decide) rfl sg_lay_RX6 (j := 0) (by decide) (o1 := 47) (by first | rfl | omega) rfl (host := "") (.inl kw_312) dX6_setCost_16 (fun h3 => ?_)
    refine gw_alen F (sa_47 hst) dX6_setCost_19 ?_
    obtain ⟨g4, hf⟩ := hf
    refine gw_icmp_ge F (tgt := 31) dX6_setCost_20 (by decide) g1 g4 (fun c5 => ?_) (fun c5 => ?_)
    · have hf := hf.1 c5
      exact gr_HV F hf (by decide) (by decide) dX6_setCost_31
    · have hf := hf.2 c5
      refine gw_aload_n F 1 rfl rfl (by decide) dX6_setCost_23 ?_
      refine gw_get3 F (so_46 hst) (by decide) rfl sg_lay_RX6 (j := 0) (by decide) (o1 := 47) (by first | rfl | omega) rfl (host := "") (.inl kw_312) dX6_setCost_24 (fun h6 => ?_)
      refine gw_iload F 0 rfl dX6_setCost_27 ?_
      refine gw_iload_n F 4 rfl rfl dX6_setCost_29 ?_
      obtain ⟨⟨b70, b71⟩, hf⟩ := hf
      obtain ⟨s8, e9⟩ : ∃ z : sg_M, z = sg_up s0 47 ((x1 * 40) + x2) x3 := ⟨_, rfl⟩
      have hf := hf s8 e9
      refine gw_iast F (sa_47 hst) b70 b71 r3 e9 dX6_setCost_30 ?_
      exact gr_HV F hf (by decide) (by decide) dX6_setCost_31

theorem dX9_isSign_0 : decode cX9_isSign 0 = .ok (.aload_n 0, 1) := by decide +kernel
theorem dX9_isSign_1 : decode cX9_isSign 1 = .ok (.getfield 25, 3) := by decide +kernel
theorem dX9_isSign_4 : decode cX9_isSign 4 = .ok (.ifCond .ne 23, 3) := by decide +kernel
theorem dX9_isSign_7 : decode cX9_isSign 7 = .ok (.aload_n 0, 1) := by decide +kernel
theorem dX9_isSign_8 : decode cX9_isSign 8 = .ok (.getfield 13, 3) := by decide +kernel
theorem dX9_isSign_11 : decode cX9_isSign 11 = .ok (.iconst 3, 1) := by decide +kernel
theorem dX9_isSign_12 : decode cX9_isSign 12 = .ok (.if_icmp .ne 15, 3) := by decide +kernel
theorem dX9_isSign_15 : decode cX9_isSign 15 = .ok (.aload_n 0, 1) := by decide +kernel
theorem dX9_isSign_16 : decode cX9_isSign 16 = .ok (.getfield 22, 3) := by decide +kernel
theorem dX9_isSign_19 : decode cX9_isSign 19 = .ok (.iload_n 1, 1) := by decide +kernel
theorem dX9_isSign_20 : decode cX9_isSign 20 = .ok (.if_icmp .ne 7, 3) := by decide +kernel
theorem dX9_isSign_23 : decode cX9_isSign 23 = .ok (.iconst 1, 1) := by decide +kernel
theorem dX9_isSign_24 : decode cX9_isSign 24 = .ok (.goto 4, 3) := by decide +kernel
theorem dX9_isSign_27 : decode cX9_isSign 27 = .ok (.iconst 0, 1) := by decide +kernel
theorem dX9_isSign_28 : decode cX9_isSign 28 = .ok (.ireturn, 1) := by decide +kernel
theorem hcX9_isSign : yX9_isSign.cls ≠ "java/lang/invoke/MethodHandle" ∧ yX9_isSign.cls ≠ "java/lang/invoke/VarHandle" ∧ (parseMethodDescriptor yX9_isSign.desc).map (fun d => d.parameters.length) = some 1 := ⟨by decide +kernel, by decide +kernel, by decide +kernel⟩
def fX9_isSign (s0 : sg_M) (x1 : Int) (Q : Int → Prop) : Prop := (((s0 3 6) ≠ 0 → Q 0) ∧ ((s0 3 6) = 0 → (((s0 3 2) ≠ 3 → Q 0) ∧ ((s0 3 2) = 3 → (((s0 3 5) ≠ x1 → Q 0) ∧ ((s0 3 5) = x1 → Q 1))))))
set_option maxHeartbeats 4000000 in
set_option maxRecDepth 100000 in
theorem CX9_isSign {l : Launch} {G : sg_G} {La : sg_L} {s0 : sg_M} (hst : sg_St La) {x1 : Int} (r1 : sg_R x1) {Q : Int → Prop} (hf : fX9_isSign s0 x1 Q) : sg_C l G yX9_isSign cX9_isSign 2 (some .boolean) 1 0 0 La s0 [sg_r 3, sg_i x1] (sg_PZ La s0 Q) := by
  refine sg_body (by decide +kernel) (Nat.le_of_ble_eq_true rfl) ?_
  intro p e s m args below meth c F hnm
  unfold fX9_isSign at hf
  show sg_W p l e (sg_rm 1 0 0) s m args below meth c (MQ below (sg_Q (some .boolean) G La s.heap.size (sg_PZ La s0 Q)) args s 0 0 (sg_A La s.heap.size)) 2 G (sg_A La s.heap.size) La s0 0 0 0 [(0, sg_r 3), (1, sg_i x1)] []
  refine gw_aload_n F 0 rfl rfl (by decide) dX9_isSign_0 ?_
  refine gw_get0 F (so_3 hst) (by decide) rfl sg_lay_RX9 (j := 6) (by decide) rfl (host := "") (.inl kw_144) dX9_isSign_1 (fun h1 => ?_)
  refine gw_if_ne F (tgt := 27) dX9_isSign_4 (by decide) h1 (fun c2 => ?_) (fun c2 => ?_)
  · have hf := hf.1 c2
    refine gw_iconst F dX9_isSign_27 ?_
    exact gr_PZ F (by decide) hf (by decide) (by decide) dX9_isSign_28
  · have hf := hf.2 c2
    refine gw_aload_n F 0 rfl rfl (by decide) dX9_isSign_7 ?_
    refine gw_get0 F (so_3 hst) (by decide) rfl sg_lay_RX9 (j := 2) (by decide) rfl (host := "") (.inl kw_140) dX9_isSign_8 (fun h3 => ?_)
    refine gw_iconst F dX9_isSign_11 ?_
    refine gw_icmp_ne F (tgt := 27) dX9_isSign_12 (by decide) h3 (by decide) (fun c4 => ?_) (fun c4 => ?_)
    · have hf := hf.1 c4
      refine gw_iconst F dX9_isSign_27 ?_
      exact gr_PZ F (by decide) hf (by decide) (by decide) dX9_isSign_28
    · have hf := hf.2 c4
      refine gw_aload_n F 0 rfl rfl (by decide) dX9_isSign_15 ?_
      refine gw_get0 F (so_3 hst) (by decide) rfl sg_lay_RX9 (j := 5) (by decide) rfl (host := "") (.inl kw_143) dX9_isSign_16 (fun h5 => ?_)
      refine gw_iload_n F 1 rfl rfl dX9_isSign_19 ?_
      refine gw_icmp_ne F (tgt := 27) dX9_isSign_20 (by decide) h5 r1 (fun c6 => ?_) (fun c6 => ?_)
      · have hf := hf.1 c6
        refine gw_iconst F dX9_isSign_27 ?_
        exact gr_PZ F (by decide) hf (by decide) (by decide) dX9_isSign_28
      · have hf := hf.2 c6
        refine gw_iconst F dX9_isSign_23 ?_
        refine gw_goto F (tgt := 28) dX9_isSign_24 (by decide) ?_
        exact gr_PZ F (by decide) hf (by decide) (by decide) dX9_isSign_28

theorem dX4_at_0 : decode cX4_at 0 = .ok (.iload_n 1, 1) := by decide +kernel
theorem dX4_at_1 : decode cX4_at 1 = .ok (.ifCond .lt 20, 3) := by decide +kernel
theorem dX4_at_4 : decode cX4_at 4 = .ok (.iload_n 1, 1) := by decide +kernel
theorem dX4_at_5 : decode cX4_at 5 = .ok (.aload_n 0, 1) := by decide +kernel
theorem dX4_at_6 : decode cX4_at 6 = .ok (.getfield 9, 3) := by decide +kernel
theorem dX4_at_9 : decode cX4_at 9 = .ok (.if_icmp .ge 12, 3) := by decide +kernel
theorem dX4_at_12 : decode cX4_at 12 = .ok (.iload_n 1, 1) := by decide +kernel
theorem dX4_at_13 : decode cX4_at 13 = .ok (.aload_n 0, 1) := by decide +kernel
theorem dX4_at_14 : decode cX4_at 14 = .ok (.getfield 25, 3) := by decide +kernel
theorem dX4_at_17 : decode cX4_at 17 = .ok (.arraylength, 1) := by decide +kernel
theorem dX4_at_18 : decode cX4_at 18 = .ok (.if_icmp .lt 7, 3) := by decide +kernel
theorem dX4_at_21 : decode cX4_at 21 = .ok (.iconst (-1), 1) := by decide +kernel
theorem dX4_at_22 : decode cX4_at 22 = .ok (.goto 9, 3) := by decide +kernel
theorem dX4_at_25 : decode cX4_at 25 = .ok (.aload_n 0, 1) := by decide +kernel
theorem dX4_at_26 : decode cX4_at 26 = .ok (.getfield 25, 3) := by decide +kernel
theorem dX4_at_29 : decode cX4_at 29 = .ok (.iload_n 1, 1) := by decide +kernel
theorem dX4_at_30 : decode cX4_at 30 = .ok (.iaload, 1) := by decide +kernel
theorem dX4_at_31 : decode cX4_at 31 = .ok (.ireturn, 1) := by decide +kernel
theorem hcX4_at : yX4_at.cls ≠ "java/lang/invoke/MethodHandle" ∧ yX4_at.cls ≠ "java/lang/invoke/VarHandle" ∧ (parseMethodDescriptor yX4_at.desc).map (fun d => d.parameters.length) = some 1 := ⟨by decide +kernel, by decide +kernel, by decide +kernel⟩
def fX4_at (La : sg_L) (s0 : sg_M) (o : Int) (x1 : Int) (Q : Int → Prop) : Prop := ((x1 < 0 → Q (-1)) ∧ (¬ (x1 < 0) → (((s0 o 1) ≤ x1 → Q (-1)) ∧ (¬ ((s0 o 1) ≤ x1) → sg_R (sg_ln La (o + 1)) ∧ ((x1 < (sg_ln La (o + 1)) → (0 ≤ x1 ∧ x1 < (sg_ln La (o + 1))) ∧ Q (s0 (o + 1) x1)) ∧ (¬ (x1 < (sg_ln La (o + 1))) → Q (-1)))))))
set_option maxHeartbeats 4000000 in
set_option maxRecDepth 100000 in
theorem CX4_at {l : Launch} {G : sg_G} {La : sg_L} {s0 : sg_M} {o : Int} (to : sg_O La o 4) {x1 : Int} (r1 : sg_R x1) {Q : Int → Prop} (hf : fX4_at La s0 o x1 Q) : sg_C l G yX4_at cX4_at 2 (some .int) 1 0 0 La s0 [sg_r o, sg_i x1] (sg_PI La s0 Q) := by
  refine sg_body (by decide +kernel) (Nat.le_of_ble_eq_true rfl) ?_
  intro p e s m args below meth c F hnm
  unfold fX4_at at hf
  show sg_W p l e (sg_rm 1 0 0) s m args below meth c (MQ below (sg_Q (some .int) G La s.heap.size (sg_PI La s0 Q)) args s 0 0 (sg_A La s.heap.size)) 2 G (sg_A La s.heap.size) La s0 0 0 0 [(0, sg_r o), (1, sg_i x1)] []
  refine gw_iload_n F 1 rfl rfl dX4_at_0 ?_
  refine gw_if_lt F (tgt := 21) dX4_at_1 (by decide) r1 (fun c1 => ?_) (fun c1 => ?_)
  · have hf := hf.1 c1
    refine gw_iconst F dX4_at_21 ?_
    refine gw_goto F (tgt := 31) dX4_at_22 (by decide) ?_
    exact gr_PI F (by decide) hf (by decide) (by decide) dX4_at_31
  · have hf := hf.2 c1
    refine gw_iload_n F 1 rfl rfl dX4_at_4 ?_
    refine gw_aload_n F 0 rfl rfl to.1 dX4_at_5 ?_
    refine gw_get0 F to (by decide) rfl sg_lay_RX4 (j := 1) (by decide) rfl (host := "") (.inl kw_200) dX4_at_6 (fun h2 => ?_)
    refine gw_icmp_ge F (tgt := 21) dX4_at_9 (by decide) r1 h2 (fun c3 => ?_) (fun c3 => ?_)
    · have hf := hf.1 c3
      refine gw_iconst F dX4_at_21 ?_
      refine gw_goto F (tgt := 31) dX4_at_22 (by decide) ?_
      exact gr_PI F (by decide) hf (by decide) (by decide) dX4_at_31
    · have hf := hf.2 c3
      refine gw_iload_n F 1 rfl rfl dX4_at_12 ?_
      refine gw_aload_n F 0 rfl rfl to.1 dX4_at_13 ?_
      refine gw_get3 F to (by decide) rfl sg_lay_RX4 (j := 0) (by decide) (o1 := (o + 1)) (by first | rfl | omega) rfl (host := "") (.inl kw_199) dX4_at_14 (fun h4 => ?_)
      refine gw_alen F (sg_AN_any h4) dX4_at_17 ?_
      obtain ⟨g5, hf⟩ := hf
      refine gw_icmp_lt F (tgt := 25) dX4_at_18 (by decide) r1 g5 (fun c6 => ?_) (fun c6 => ?_)
      · have hf := hf.1 c6
        refine gw_aload_n F 0 rfl rfl to.1 dX4_at_25 ?_
        refine gw_get3 F to (by decide) rfl sg_lay_RX4 (j := 0) (by decide) (o1 := (o + 1)) (by first | rfl | omega) rfl (host := "") (.inl kw_199) dX4_at_26 (fun h7 => ?_)
        refine gw_iload_n F 1 rfl rfl dX4_at_29 ?_
        obtain ⟨⟨b80, b81⟩, hf⟩ := hf
        refine gw_iald F (sg_AN_any h7) b80 b81 dX4_at_30 (fun h9 => ?_)
        exact gr_PI F h9 hf (by decide) (by decide) dX4_at_31
      · have hf := hf.2 c6
        refine gw_iconst F dX4_at_21 ?_
        refine gw_goto F (tgt := 31) dX4_at_22 (by decide) ?_
        exact gr_PI F (by decide) hf (by decide) (by decide) dX4_at_31

theorem dX2_way_0 : decode cX2_way 0 = .ok (.aload_n 0, 1) := by decide +kernel
theorem dX2_way_1 : decode cX2_way 1 = .ok (.getfield 14, 3) := by decide +kernel
theorem dX2_way_4 : decode cX2_way 4 = .ok (.iload_n 1, 1) := by decide +kernel
theorem dX2_way_5 : decode cX2_way 5 = .ok (.invokevirtual 34, 3) := by decide +kernel
theorem dX2_way_8 : decode cX2_way 8 = .ok (.aload_n 0, 1) := by decide +kernel
theorem dX2_way_9 : decode cX2_way 9 = .ok (.getfield 14, 3) := by decide +kernel
theorem dX2_way_12 : decode cX2_way 12 = .ok (.iload_n 2, 1) := by decide +kernel
theorem dX2_way_13 : decode cX2_way 13 = .ok (.invokevirtual 34, 3) := by decide +kernel
theorem dX2_way_16 : decode cX2_way 16 = .ok (.isub, 1) := by decide +kernel
theorem dX2_way_17 : decode cX2_way 17 = .ok (.invokestatic 38, 3) := by decide +kernel
theorem dX2_way_20 : decode cX2_way 20 = .ok (.aload_n 0, 1) := by decide +kernel
theorem dX2_way_21 : decode cX2_way 21 = .ok (.getfield 20, 3) := by decide +kernel
theorem dX2_way_24 : decode cX2_way 24 = .ok (.iload_n 1, 1) := by decide +kernel
theorem dX2_way_25 : decode cX2_way 25 = .ok (.invokevirtual 34, 3) := by decide +kernel
theorem dX2_way_28 : decode cX2_way 28 = .ok (.aload_n 0, 1) := by decide +kernel
theorem dX2_way_29 : decode cX2_way 29 = .ok (.getfield 20, 3) := by decide +kernel
theorem dX2_way_32 : decode cX2_way 32 = .ok (.iload_n 2, 1) := by decide +kernel
theorem dX2_way_33 : decode cX2_way 33 = .ok (.invokevirtual 34, 3) := by decide +kernel
theorem dX2_way_36 : decode cX2_way 36 = .ok (.isub, 1) := by decide +kernel
theorem dX2_way_37 : decode cX2_way 37 = .ok (.invokestatic 38, 3) := by decide +kernel
theorem dX2_way_40 : decode cX2_way 40 = .ok (.iadd, 1) := by decide +kernel
theorem dX2_way_41 : decode cX2_way 41 = .ok (.ireturn, 1) := by decide +kernel
theorem hcX2_way : yX2_way.cls ≠ "java/lang/invoke/MethodHandle" ∧ yX2_way.cls ≠ "java/lang/invoke/VarHandle" ∧ (parseMethodDescriptor yX2_way.desc).map (fun d => d.parameters.length) = some 2 := ⟨by decide +kernel, by decide +kernel, by decide +kernel⟩
def fX2_way (La : sg_L) (s0 : sg_M) (o : Int) (x1 : Int) (x2 : Int) (Q : Int → Prop) : Prop := fX4_at La s0 (o + 1) x1 (fun u2 => fX4_at La s0 (o + 1) x2 (fun u5 => sg_R (u2 - u5) ∧ fX4_at La s0 (o + 3) x1 (fun u9 => fX4_at La s0 (o + 3) x2 (fun u12 => sg_R (u9 - u12) ∧ sg_R ((sg_abs (u2 - u5)) + (sg_abs (u9 - u12))) ∧ Q ((sg_abs (u2 - u5)) + (sg_abs (u9 - u12)))))))
set_option maxHeartbeats 4000000 in
set_option maxRecDepth 100000 in
theorem CX2_way {l : Launch} {G : sg_G} {La : sg_L} {s0 : sg_M} {o : Int} (to : sg_O La o 2) {x1 : Int} (r1 : sg_R x1) {x2 : Int} (r2 : sg_R x2) {Q : Int → Prop} (hf : fX2_way La s0 o x1 x2 Q) : sg_C l G yX2_way cX2_way 3 (some .int) 2 0 0 La s0 [sg_r o, sg_i x1, sg_i x2] (sg_PI La s0 Q) := by
  refine sg_body (by decide +kernel) (Nat.le_of_ble_eq_true rfl) ?_
  intro p e s m args below meth c F hnm
  unfold fX2_way at hf
  show sg_W p l e (sg_rm 2 0 0) s m args below meth c (MQ below (sg_Q (some .int) G La s.heap.size (sg_PI La s0 Q)) args s 0 0 (sg_A La s.heap.size)) 3 G (sg_A La s.heap.size) La s0 0 0 0 [(0, sg_r o), (1, sg_i x1), (2, sg_i x2)] []
  refine gw_aload_n F 0 rfl rfl to.1 dX2_way_0 ?_
  refine gw_get3 F to (by decide) rfl sg_lay_RX2 (j := 0) (by decide) (o1 := (o + 1)) (by first | rfl | omega) rfl (host := "") (.inl kw_224) dX2_way_1 (fun h1 => ?_)
  refine gw_iload_n F 1 rfl rfl dX2_way_4 ?_
  refine gk_PI F (gc_V F (S := []) (As := [sg_i x1]) (T := TX4) (N := 3) (CX4_at (sg_O_of h1 (by decide)) r1 hf) (sg_O_of h1 (by decide)) (by decide) rfl kw_546 kw_97 kw_711 kw_544 kw_545 hcX4_at ⟨by decide, by decide⟩ rfl rfl (Nat.le_of_ble_eq_true rfl) ⟨by decide, by decide⟩ dX2_way_5) (fun u2 h3 hf => ?_)
  refine gw_aload_n F 0 rfl rfl to.1 dX2_way_8 ?_
  refine gw_get3 F to (by decide) rfl sg_lay_RX2 (j := 0) (by decide) (o1 := (o + 1)) (by first | rfl | omega) rfl (host := "") (.inl kw_224) dX2_way_9 (fun h4 => ?_)
  refine gw_iload_n F 2 rfl rfl dX2_way_12 ?_
  refine gk_PI F (gc_V F (S := [sg_i u2]) (As := [sg_i x2]) (T := TX4) (N := 3) (CX4_at (sg_O_of h4 (by decide)) r2 hf) (sg_O_of h4 (by decide)) (by decide) rfl kw_546 kw_97 kw_711 kw_544 kw_545 hcX4_at ⟨by decide, by decide⟩ rfl rfl (Nat.le_of_ble_eq_true rfl) ⟨by decide, by decide⟩ dX2_way_13) (fun u5 h6 hf => ?_)
  refine gw_isub F rfl dX2_way_16 ?_
  obtain ⟨g7, hf⟩ := hf
  refine gw_abs F g7 rfl kw_712 kw_abs1 kw_math kw_abs2 (Nat.le_of_ble_eq_true rfl) (by decide) (by decide) (by decide) (by decide) dX2_way_17 ?_
  refine gw_aload_n F 0 rfl rfl to.1 dX2_way_20 ?_
  refine gw_get3 F to (by decide) rfl sg_lay_RX2 (j := 1) (by decide) (o1 := (o + 3)) (by first | rfl | omega) rfl (host := "") (.inl kw_226) dX2_way_21 (fun h8 => ?_)
  refine gw_iload_n F 1 rfl rfl dX2_way_24 ?_
  refine gk_PI F (gc_V F (S := [sg_i (sg_abs (u2 - u5))]) (As := [sg_i x1]) (T := TX4) (N := 3) (CX4_at (sg_O_of h8 (by decide)) r1 hf) (sg_O_of h8 (by decide)) (by decide) rfl kw_546 kw_97 kw_711 kw_544 kw_545 hcX4_at ⟨by decide, by decide⟩ rfl rfl (Nat.le_of_ble_eq_true rfl) ⟨by decide, by decide⟩ dX2_way_25) (fun u9 h10 hf => ?_)
  refine gw_aload_n F 0 rfl rfl to.1 dX2_way_28 ?_
  refine gw_get3 F to (by decide) rfl sg_lay_RX2 (j := 1) (by decide) (o1 := (o + 3)) (by first | rfl | omega) rfl (host := "") (.inl kw_226) dX2_way_29 (fun h11 => ?_)
  refine gw_iload_n F 2 rfl rfl dX2_way_32 ?_
  refine gk_PI F (gc_V F (S := [sg_i u9, sg_i (sg_abs (u2 - u5))]) (As := [sg_i x2]) (T := TX4) (N := 3) (CX4_at (sg_O_of h11 (by decide)) r2 hf) (sg_O_of h11 (by decide)) (by decide) rfl kw_546 kw_97 kw_711 kw_544 kw_545 hcX4_at ⟨by decide, by decide⟩ rfl rfl (Nat.le_of_ble_eq_true rfl) ⟨by decide, by decide⟩ dX2_way_33) (fun u12 h13 hf => ?_)
  refine gw_isub F rfl dX2_way_36 ?_
  obtain ⟨g14, hf⟩ := hf
  refine gw_abs F g14 rfl kw_712 kw_abs1 kw_math kw_abs2 (Nat.le_of_ble_eq_true rfl) (by decide) (by decide) (by decide) (by decide) dX2_way_37 ?_
  refine gw_iadd F rfl dX2_way_40 ?_
  obtain ⟨g15, hf⟩ := hf
  exact gr_PI F g15 hf (by decide) (by decide) dX2_way_41

theorem dX6_costAt_0 : decode cX6_costAt 0 = .ok (.iload_n 1, 1) := by decide +kernel
theorem dX6_costAt_1 : decode cX6_costAt 1 = .ok (.bipush 40, 2) := by decide +kernel
theorem dX6_costAt_3 : decode cX6_costAt 3 = .ok (.imul, 1) := by decide +kernel
theorem dX6_costAt_4 : decode cX6_costAt 4 = .ok (.iload_n 2, 1) := by decide +kernel
theorem dX6_costAt_5 : decode cX6_costAt 5 = .ok (.iadd, 1) := by decide +kernel
theorem dX6_costAt_6 : decode cX6_costAt 6 = .ok (.istore_n 3, 1) := by decide +kernel
theorem dX6_costAt_7 : decode cX6_costAt 7 = .ok (.iload_n 3, 1) := by decide +kernel
theorem dX6_costAt_8 : decode cX6_costAt 8 = .ok (.ifCond .lt 12, 3) := by decide +kernel
theorem dX6_costAt_11 : decode cX6_costAt 11 = .ok (.iload_n 3, 1) := by decide +kernel
theorem dX6_costAt_12 : decode cX6_costAt 12 = .ok (.aload_n 0, 1) := by decide +kernel
theorem dX6_costAt_13 : decode cX6_costAt 13 = .ok (.getfield 9, 3) := by decide +kernel
theorem dX6_costAt_16 : decode cX6_costAt 16 = .ok (.arraylength, 1) := by decide +kernel
theorem dX6_costAt_17 : decode cX6_costAt 17 = .ok (.if_icmp .lt 7, 3) := by decide +kernel
theorem dX6_costAt_20 : decode cX6_costAt 20 = .ok (.iconst (-1), 1) := by decide +kernel
theorem dX6_costAt_21 : decode cX6_costAt 21 = .ok (.goto 9, 3) := by decide +kernel
theorem dX6_costAt_24 : decode cX6_costAt 24 = .ok (.aload_n 0, 1) := by decide +kernel
theorem dX6_costAt_25 : decode cX6_costAt 25 = .ok (.getfield 9, 3) := by decide +kernel
theorem dX6_costAt_28 : decode cX6_costAt 28 = .ok (.iload_n 3, 1) := by decide +kernel
theorem dX6_costAt_29 : decode cX6_costAt 29 = .ok (.iaload, 1) := by decide +kernel
theorem dX6_costAt_30 : decode cX6_costAt 30 = .ok (.ireturn, 1) := by decide +kernel
theorem hcX6_costAt : yX6_costAt.cls ≠ "java/lang/invoke/MethodHandle" ∧ yX6_costAt.cls ≠ "java/lang/invoke/VarHandle" ∧ (parseMethodDescriptor yX6_costAt.desc).map (fun d => d.parameters.length) = some 2 := ⟨by decide +kernel, by decide +kernel, by decide +kernel⟩
def fX6_costAt (s0 : sg_M) (x1 : Int) (x2 : Int) (Q : Int → Prop) : Prop := sg_R ((x1 * 40) + x2) ∧ ((((x1 * 40) + x2) < 0 → Q (-1)) ∧ (¬ (((x1 * 40) + x2) < 0) → sg_R 2400 ∧ ((((x1 * 40) + x2) < 2400 → (0 ≤ ((x1 * 40) + x2) ∧ ((x1 * 40) + x2) < 2400) ∧ Q (s0 47 ((x1 * 40) + x2))) ∧ (¬ (((x1 * 40) + x2) < 2400) → Q (-1)))))
set_option maxHeartbeats 4000000 in
set_option maxRecDepth 100000 in
theorem CX6_costAt {l : Launch} {G : sg_G} {La : sg_L} {s0 : sg_M} (hst : sg_St La) {x1 : Int} (r1 : sg_R x1) {x2 : Int} (r2 : sg_R x2) {Q : Int → Prop} (hf : fX6_costAt s0 x1 x2 Q) : sg_C l G yX6_costAt cX6_costAt 4 (some .int) 1 0 0 La s0 [sg_r 46, sg_i x1, sg_i x2] (sg_PI La s0 Q) := by
  refine sg_body (by decide +kernel) (Nat.le_of_ble_eq_true rfl) ?_
  intro p e s m args below meth c F hnm
  unfold fX6_costAt at hf
  show sg_W p l e (sg_rm 1 0 0) s m args below meth c (MQ below (sg_Q (some .int) G La s.heap.size (sg_PI La s0 Q)) args s 0 0 (sg_A La s.heap.size)) 4 G (sg_A La s.heap.size) La s0 0 0 0 [(0, sg_r 46), (1, sg_i x1), (2, sg_i x2)] []
  refine gw_iload_n F 1 rfl rfl dX6_costAt_0 ?_
  refine gw_bipush F rfl dX6_costAt_1 ?_
  refine gw_imul F rfl dX6_costAt_3 ?_
  refine gw_iload_n F 2 rfl rfl dX6_costAt_4 ?_
  refine gw_iadd F rfl dX6_costAt_5 ?_
  refine gw_istore_n F rfl (by decide) rfl dX6_costAt_6 ?_
  refine gw_iload_n F 0 rfl rfl dX6_costAt_7 ?_
  obtain ⟨g1, hf⟩ := hf
  refine gw_if_lt F (tgt := 20) dX6_costAt_8 (by decide) g1 (fun c2 => ?_) (fun c2 => ?_)
  · have hf := hf.1 c2
    refine gw_iconst F dX6_costAt_20 ?_
    refine gw_goto F (tgt := 30) dX6_costAt_21 (by decide) ?_
    exact gr_PI F (by decide) hf (by decide) (by decide) dX6_costAt_30
  · have hf := hf.2 c2
    refine gw_iload_n F 0 rfl rfl dX6_costAt_11 ?_
    refine gw_aload_n F 1 rfl rfl (by decide) dX6_costAt_12 ?_
    refine gw_get3 F (so_46 hst) (by decide) rfl sg_lay_RX6 (j := 0) (by decide) (o1 := 47) (by first | rfl | omega) rfl (host := "") (.inl kw_312) dX6_costAt_13 (fun h3 => ?_)
    refine gw_alen F (sa_47 hst) dX6_costAt_16 ?_
    obtain ⟨g4, hf⟩ := hf
    refine gw_icmp_lt F (tgt := 24) dX6_costAt_17 (by decide) g1 g4 (fun c5 => ?_) (fun c5 => ?_)
    · have hf := hf.1 c5
      refine gw_aload_n F 1 rfl rfl (by decide) dX6_costAt_24 ?_
      refine gw_get3 F (so_46 hst) (by decide) rfl sg_lay_RX6 (j := 0) (by decide) (o1 := 47) (by first | rfl | omega) rfl (host := "") (.inl kw_312) dX6_costAt_25 (fun h6 => ?_)
      refine gw_iload_n F 0 rfl rfl dX6_costAt_28 ?_
      obtain ⟨⟨b70, b71⟩, hf⟩ := hf
      refine gw_iald F (sa_47 hst) b70 b71 dX6_costAt_29 (fun h8 => ?_)
      exact gr_PI F h8 hf (by decide) (by decide) dX6_costAt_30
    · have hf := hf.2 c5
      refine gw_iconst F dX6_costAt_20 ?_
      refine gw_goto F (tgt := 30) dX6_costAt_21 (by decide) ?_
      exact gr_PI F (by decide) hf (by decide) (by decide) dX6_costAt_30

theorem dX6_cheapestNext_0 : decode cX6_cheapestNext 0 = .ok (.iconst (-1), 1) := by decide +kernel
theorem dX6_cheapestNext_1 : decode cX6_cheapestNext 1 = .ok (.istore 4, 2) := by decide +kernel
theorem dX6_cheapestNext_3 : decode cX6_cheapestNext 3 = .ok (.iconst 0, 1) := by decide +kernel
theorem dX6_cheapestNext_4 : decode cX6_cheapestNext 4 = .ok (.istore 5, 2) := by decide +kernel
theorem dX6_cheapestNext_6 : decode cX6_cheapestNext 6 = .ok (.iconst 0, 1) := by decide +kernel
theorem dX6_cheapestNext_7 : decode cX6_cheapestNext 7 = .ok (.istore 6, 2) := by decide +kernel
theorem dX6_cheapestNext_9 : decode cX6_cheapestNext 9 = .ok (.iload 6, 2) := by decide +kernel
theorem dX6_cheapestNext_11 : decode cX6_cheapestNext 11 = .ok (.aload_n 1, 1) := by decide +kernel
theorem dX6_cheapestNext_12 : decode cX6_cheapestNext 12 = .ok (.getfield 48, 3) := by decide +kernel
theorem dX6_cheapestNext_15 : decode cX6_cheapestNext 15 = .ok (.if_icmp .ge 68, 3) := by decide +kernel
theorem dX6_cheapestNext_18 : decode cX6_cheapestNext 18 = .ok (.aload_n 0, 1) := by decide +kernel
theorem dX6_cheapestNext_19 : decode cX6_cheapestNext 19 = .ok (.iload_n 2, 1) := by decide +kernel
theorem dX6_cheapestNext_20 : decode cX6_cheapestNext 20 = .ok (.iconst 1, 1) := by decide +kernel
theorem dX6_cheapestNext_21 : decode cX6_cheapestNext 21 = .ok (.iadd, 1) := by decide +kernel
theorem dX6_cheapestNext_22 : decode cX6_cheapestNext 22 = .ok (.iload 6, 2) := by decide +kernel
theorem dX6_cheapestNext_24 : decode cX6_cheapestNext 24 = .ok (.invokevirtual 69, 3) := by decide +kernel
theorem dX6_cheapestNext_27 : decode cX6_cheapestNext 27 = .ok (.istore 7, 2) := by decide +kernel
theorem dX6_cheapestNext_29 : decode cX6_cheapestNext 29 = .ok (.iload 7, 2) := by decide +kernel
theorem dX6_cheapestNext_31 : decode cX6_cheapestNext 31 = .ok (.iconst (-1), 1) := by decide +kernel
theorem dX6_cheapestNext_32 : decode cX6_cheapestNext 32 = .ok (.if_icmp .eq 45, 3) := by decide +kernel
theorem dX6_cheapestNext_35 : decode cX6_cheapestNext 35 = .ok (.iload 7, 2) := by decide +kernel
theorem dX6_cheapestNext_37 : decode cX6_cheapestNext 37 = .ok (.iload_n 3, 1) := by decide +kernel
theorem dX6_cheapestNext_38 : decode cX6_cheapestNext 38 = .ok (.iconst (-1), 1) := by decide +kernel
theorem dX6_cheapestNext_39 : decode cX6_cheapestNext 39 = .ok (.if_icmp .ne 7, 3) := by decide +kernel
theorem dX6_cheapestNext_42 : decode cX6_cheapestNext 42 = .ok (.iconst 0, 1) := by decide +kernel
theorem dX6_cheapestNext_43 : decode cX6_cheapestNext 43 = .ok (.goto 10, 3) := by decide +kernel
theorem dX6_cheapestNext_46 : decode cX6_cheapestNext 46 = .ok (.aload_n 1, 1) := by decide +kernel
theorem dX6_cheapestNext_47 : decode cX6_cheapestNext 47 = .ok (.iload_n 3, 1) := by decide +kernel
theorem dX6_cheapestNext_48 : decode cX6_cheapestNext 48 = .ok (.iload 6, 2) := by decide +kernel
theorem dX6_cheapestNext_50 : decode cX6_cheapestNext 50 = .ok (.invokevirtual 73, 3) := by decide +kernel
theorem dX6_cheapestNext_53 : decode cX6_cheapestNext 53 = .ok (.iadd, 1) := by decide +kernel
theorem dX6_cheapestNext_54 : decode cX6_cheapestNext 54 = .ok (.istore 8, 2) := by decide +kernel
theorem dX6_cheapestNext_56 : decode cX6_cheapestNext 56 = .ok (.iload 4, 2) := by decide +kernel
theorem dX6_cheapestNext_58 : decode cX6_cheapestNext 58 = .ok (.iconst (-1), 1) := by decide +kernel
theorem dX6_cheapestNext_59 : decode cX6_cheapestNext 59 = .ok (.if_icmp .eq 10, 3) := by decide +kernel
theorem dX6_cheapestNext_62 : decode cX6_cheapestNext 62 = .ok (.iload 8, 2) := by decide +kernel
theorem dX6_cheapestNext_64 : decode cX6_cheapestNext 64 = .ok (.iload 5, 2) := by decide +kernel
theorem dX6_cheapestNext_66 : decode cX6_cheapestNext 66 = .ok (.if_icmp .ge 11, 3) := by decide +kernel
theorem dX6_cheapestNext_69 : decode cX6_cheapestNext 69 = .ok (.iload 6, 2) := by decide +kernel
theorem dX6_cheapestNext_71 : decode cX6_cheapestNext 71 = .ok (.istore 4, 2) := by decide +kernel
theorem dX6_cheapestNext_73 : decode cX6_cheapestNext 73 = .ok (.iload 8, 2) := by decide +kernel
theorem dX6_cheapestNext_75 : decode cX6_cheapestNext 75 = .ok (.istore 5, 2) := by decide +kernel
theorem dX6_cheapestNext_77 : decode cX6_cheapestNext 77 = .ok (.iinc 6 1, 3) := by decide +kernel
theorem dX6_cheapestNext_80 : decode cX6_cheapestNext 80 = .ok (.goto (-71), 3) := by decide +kernel
theorem dX6_cheapestNext_83 : decode cX6_cheapestNext 83 = .ok (.iload 4, 2) := by decide +kernel
theorem dX6_cheapestNext_85 : decode cX6_cheapestNext 85 = .ok (.ireturn, 1) := by decide +kernel
theorem hcX6_cheapestNext : yX6_cheapestNext.cls ≠ "java/lang/invoke/MethodHandle" ∧ yX6_cheapestNext.cls ≠ "java/lang/invoke/VarHandle" ∧ (parseMethodDescriptor yX6_cheapestNext.desc).map (fun d => d.parameters.length) = some 3 := ⟨by decide +kernel, by decide +kernel, by decide +kernel⟩
def fX6_cheapestNext_j77 (x6_9 : Int) (k9 : Int → Int → Int → Prop) (x4_77 : Int) (x5_77 : Int) : Prop := sg_R (x6_9 + 1) ∧ k9 x4_77 x5_77 (x6_9 + 1)
def fX6_cheapestNext_j69 (x6_9 : Int) (u4 : Int) (y0_53 : Int) (k77 : Int → Int → Prop)  : Prop := sg_R (u4 + y0_53) ∧ k77 x6_9 (u4 + y0_53)
def fX6_cheapestNext_j53 (x4_9 : Int) (x5_9 : Int) (x6_9 : Int) (u4 : Int) (k77 : Int → Int → Prop) (y0_53 : Int) : Prop := ((x4_9 = (-1) → (fX6_cheapestNext_j69 x6_9 u4 y0_53 k77)) ∧ (¬ (x4_9 = (-1)) → sg_R (u4 + y0_53) ∧ ((x5_9 ≤ (u4 + y0_53) → k77 x4_9 x5_9) ∧ (¬ (x5_9 ≤ (u4 + y0_53)) → (fX6_cheapestNext_j69 x6_9 u4 y0_53 k77)))))
def fX6_cheapestNext_L9 (La : sg_L) (s0 : sg_M) (o1 : Int) (x2 : Int) (x3 : Int) (Q : Int → Prop) : Nat → Int → Int → Int → Prop
  | 0, _, _, _ => False
  | n_9 + 1, x4_9, x5_9, x6_9 => (((s0 o1 2) ≤ x6_9 → Q x4_9) ∧ (¬ ((s0 o1 2) ≤ x6_9) → sg_R (x2 + 1) ∧ fX6_costAt s0 (x2 + 1) x6_9 (fun u4 => ((u4 = (-1) → (fX6_cheapestNext_j77 x6_9 (fX6_cheapestNext_L9 La s0 o1 x2 x3 Q n_9)) x4_9 x5_9) ∧ (¬ (u4 = (-1)) → ((x3 ≠ (-1) → fX2_way La s0 o1 x3 x6_9 (fun u13 => (fX6_cheapestNext_j53 x4_9 x5_9 x6_9 u4 (fX6_cheapestNext_j77 x6_9 (fX6_cheapestNext_L9 La s0 o1 x2 x3 Q n_9))) u13)) ∧ (x3 = (-1) → (fX6_cheapestNext_j53 x4_9 x5_9 x6_9 u4 (fX6_cheapestNext_j77 x6_9 (fX6_cheapestNext_L9 La s0 o1 x2 x3 Q n_9))) 0)))))))
def fX6_cheapestNext (La : sg_L) (s0 : sg_M) (o1 : Int) (x2 : Int) (x3 : Int) (Q : Int → Prop) : Prop := (∃ n15 : Nat, fX6_cheapestNext_L9 La s0 o1 x2 x3 Q n15 (-1) 0 0)
set_option maxHeartbeats 4000000 in
set_option maxRecDepth 100000 in
theorem CX6_cheapestNext {l : Launch} {G : sg_G} {La : sg_L} {s0 : sg_M} (hst : sg_St La) {o1 : Int} (t1 : sg_O La o1 2) {x2 : Int} (r2 : sg_R x2) {x3 : Int} (r3 : sg_R x3) {Q : Int → Prop} (hf : fX6_cheapestNext La s0 o1 x2 x3 Q) : sg_C l G yX6_cheapestNext cX6_cheapestNext 9 (some .int) 3 0 0 La s0 [sg_r 46, sg_r o1, sg_i x2, sg_i x3] (sg_PI La s0 Q) := by
  refine sg_body (by decide +kernel) (Nat.le_of_ble_eq_true rfl) ?_
  intro p e s m args below meth c F hnm
  unfold fX6_cheapestNext at hf
  show sg_W p l e (sg_rm 3 0 0) s m args below meth c (MQ below (sg_Q (some .int) G La s.heap.size (sg_PI La s0 Q)) args s 0 0 (sg_A La s.heap.size)) 9 G (sg_A La s.heap.size) La s0 0 0 0 [(0, sg_r 46), (1, sg_r o1), (2, sg_i x2), (3, sg_i x3)] []
  refine gw_iconst F dX6_cheapestNext_0 ?_
  refine gw_istore F (by decide) rfl dX6_cheapestNext_1 ?_
  refine gw_iconst F dX6_cheapestNext_3 ?_
  refine gw_istore F (by decide) rfl dX6_cheapestNext_4 ?_
  refine gw_iconst F dX6_cheapestNext_6 ?_
  refine gw_istore F (by decide) rfl dX6_cheapestNext_7 ?_
  have L9 : ∀ n_9 : Nat, ∀ (x4_9 : Int) (x5_9 : Int) (x6_9 : Int), sg_R x4_9 → sg_R x5_9 → sg_R x6_9 → fX6_cheapestNext_L9 La s0 o1 x2 x3 Q n_9 x4_9 x5_9 x6_9 → sg_W p l e (sg_rm 3 0 0) s m args below meth c (MQ below (sg_Q (some .int) G La s.heap.size (sg_PI La s0 Q)) args s 0 0 (sg_A La s.heap.size)) 9 G (sg_A La s.heap.size) La s0 0 0 9 [(0, sg_r 46), (1, sg_r o1), (2, sg_i x2), (3, sg_i x3), (4, sg_i x4_9), (5, sg_i x5_9), (6, sg_i x6_9)] [] := by
    intro n_9
    induction n_9 with
    | zero => intro x4_9 x5_9 x6_9 r4_9 r5_9 r6_9 hf; exact hf.elim
    | succ n_9 ih =>
      intro x4_9 x5_9 x6_9 r4_9 r5_9 r6_9 hf
      unfold fX6_cheapestNext_L9 at hf
      refine gw_iload F 6 rfl dX6_cheapestNext_9 ?_
      refine gw_aload_n F 1 rfl rfl t1.1 dX6_cheapestNext_11 ?_
      refine gw_get0 F t1 (by decide) rfl sg_lay_RX2 (j := 2) (by decide) rfl (.inr kw_229) dX6_cheapestNext_12 (fun h1 => ?_)
      refine gw_icmp_ge F (tgt := 83) dX6_cheapestNext_15 (by decide) r6_9 h1 (fun c2 => ?_) (fun c2 => ?_)
      · have hf := hf.1 c2
        refine gw_iload F 4 rfl dX6_cheapestNext_83 ?_
        exact gr_PI F r4_9 hf (by decide) (by decide) dX6_cheapestNext_85
      · have hf := hf.2 c2
        refine gw_aload_n F 0 rfl rfl (by decide) dX6_cheapestNext_18 ?_
        refine gw_iload_n F 2 rfl rfl dX6_cheapestNext_19 ?_
        refine gw_iconst F dX6_cheapestNext_20 ?_
        refine gw_iadd F rfl dX6_cheapestNext_21 ?_
        refine gw_iload F 6 rfl dX6_cheapestNext_22 ?_
        obtain ⟨g3, hf⟩ := hf
        refine gk_PI F (gc_V F (S := []) (As := [sg_i (x2 + 1), sg_i x6_9]) (T := TX6) (N := 3) (CX6_costAt hst g3 r6_9 hf) (so_46 hst) (by decide) rfl kw_706 kw_102 kw_704 kw_705 kw_24 hcX6_costAt ⟨by decide, by decide⟩ rfl rfl (Nat.le_of_ble_eq_true rfl) ⟨by decide, by decide⟩ dX6_cheapestNext_24) (fun u4 h5 hf => ?_)
        refine gw_istore F (by decide) rfl dX6_cheapestNext_27 ?_
        refine gw_iload F 0 rfl dX6_cheapestNext_29 ?_
        refine gw_iconst F dX6_cheapestNext_31 ?_
        have J77 : ∀ (x4_77 : Int) (x5_77 : Int), sg_R x4_77 → sg_R x5_77 → (fX6_cheapestNext_j77 x6_9 (fX6_cheapestNext_L9 La s0 o1 x2 x3 Q n_9)) x4_77 x5_77 → sg_W p l e (sg_rm 3 0 0) s m args below meth c (MQ below (sg_Q (some .int) G La s.heap.size (sg_PI La s0 Q)) args s 0 0 (sg_A La s.heap.size)) 9 G (sg_A La s.heap.size) La s0 0 0 77 [(0, sg_r 46), (1, sg_r o1), (2, sg_i x2), (3, sg_i x3), (4, sg_i x4_77), (5, sg_i x5_77), (6, sg_i x6_9)] [] := by
          intro x4_77 x5_77 r4_77 r5_77 hf
          unfold fX6_cheapestNext_j77 at hf
          refine gw_iinc F (z := (x6_9 + 1)) 6 rfl (by omega) (by decide) rfl dX6_cheapestNext_77 ?_
          refine gw_goto F (tgt := 9) dX6_cheapestNext_80 (by decide) ?_
          obtain ⟨g6, hf⟩ := hf
          refine gw_sub [1, 2, 3, 4, 5, 6, 0] rfl ?_
          exact ih x4_77 x5_77 (x6_9 + 1) r4_77 r5_77 g6 hf
        refine gw_icmp_eq F (tgt := 77) dX6_cheapestNext_32 (by decide) h5 (by decide) (fun c7 => ?_) (fun c7 => ?_)
        · have hf := hf.1 c7
          refine gw_sub [1, 2, 3, 4, 5, 6, 7] rfl ?_
          exact J77 x4_9 x5_9 r4_9 r5_9 hf
        · have hf := hf.2 c7
          refine gw_iload F 0 rfl dX6_cheapestNext_35 ?_
          refine gw_iload_n F 4 rfl rfl dX6_cheapestNext_37 ?_
          refine gw_iconst F dX6_cheapestNext_38 ?_
          have J53 : ∀ (y0_53 : Int), sg_R y0_53 → (fX6_cheapestNext_j53 x4_9 x5_9 x6_9 u4 (fX6_cheapestNext_j77 x6_9 (fX6_cheapestNext_L9 La s0 o1 x2 x3 Q n_9))) y0_53 → sg_W p l e (sg_rm 3 0 0) s m args below meth c (MQ below (sg_Q (some .int) G La s.heap.size (sg_PI La s0 Q)) args s 0 0 (sg_A La s.heap.size)) 9 G (sg_A La s.heap.size) La s0 0 0 53 [(0, sg_r 46), (1, sg_r o1), (2, sg_i x2), (3, sg_i x3), (4, sg_i x4_9), (5, sg_i x5_9), (6, sg_i x6_9)] [sg_i y0_53, sg_i u4] := by
            intro y0_53 ry0_53 hf
            unfold fX6_cheapestNext_j53 at hf
            refine gw_iadd F rfl dX6_cheapestNext_53 ?_
            refine gw_istore F (by decide) rfl dX6_cheapestNext_54 ?_
            refine gw_iload F 5 rfl dX6_cheapestNext_56 ?_
            refine gw_iconst F dX6_cheapestNext_58 ?_
            have J69 : (fX6_cheapestNext_j69 x6_9 u4 y0_53 (fX6_cheapestNext_j77 x6_9 (fX6_cheapestNext_L9 La s0 o1 x2 x3 Q n_9))) → sg_W p l e (sg_rm 3 0 0) s m args below meth c (MQ below (sg_Q (some .int) G La s.heap.size (sg_PI La s0 Q)) args s 0 0 (sg_A La s.heap.size)) 9 G (sg_A La s.heap.size) La s0 0 0 69 [(0, sg_r 46), (1, sg_r o1), (2, sg_i x2), (3, sg_i x3), (6, sg_i x6_9), (8, sg_i (u4 + y0_53))] [] := by
              intro hf
              unfold fX6_cheapestNext_j69 at hf
              refine gw_iload F 4 rfl dX6_cheapestNext_69 ?_
              refine gw_istore F (by decide) rfl dX6_cheapestNext_71 ?_
              refine gw_iload F 6 rfl dX6_cheapestNext_73 ?_
              refine gw_istore F (by decide) rfl dX6_cheapestNext_75 ?_
              obtain ⟨g8, hf⟩ := hf
              refine gw_sub [2, 3, 4, 5, 1, 0, 6] rfl ?_
              exact J77 x6_9 (u4 + y0_53) r6_9 g8 hf
            refine gw_icmp_eq F (tgt := 69) dX6_cheapestNext_59 (by decide) r4_9 (by decide) (fun c9 => ?_) (fun c9 => ?_)
            · have hf := hf.1 c9
              refine gw_sub [1, 2, 3, 4, 7, 0] rfl ?_
              exact J69  hf
            · have hf := hf.2 c9
              refine gw_iload F 0 rfl dX6_cheapestNext_62 ?_
              refine gw_iload F 6 rfl dX6_cheapestNext_64 ?_
              obtain ⟨g10, hf⟩ := hf
              refine gw_icmp_ge F (tgt := 77) dX6_cheapestNext_66 (by decide) g10 r5_9 (fun c11 => ?_) (fun c11 => ?_)
              · have hf := hf.1 c11
                refine gw_sub [1, 2, 3, 4, 5, 6, 7] rfl ?_
                exact J77 x4_9 x5_9 r4_9 r5_9 hf
              · have hf := hf.2 c11
                refine gw_sub [1, 2, 3, 4, 7, 0] rfl ?_
                exact J69  hf
          refine gw_icmp_ne F (tgt := 46) dX6_cheapestNext_39 (by decide) r3 (by decide) (fun c12 => ?_) (fun c12 => ?_)
          · have hf := hf.1 c12
            refine gw_aload_n F 2 rfl rfl t1.1 dX6_cheapestNext_46 ?_
            refine gw_iload_n F 4 rfl rfl dX6_cheapestNext_47 ?_
            refine gw_iload F 7 rfl dX6_cheapestNext_48 ?_
            refine gk_PI F (gc_V F (S := [sg_i u4]) (As := [sg_i x3, sg_i x6_9]) (T := TX2) (N := 3) (CX2_way t1 r3 r6_9 hf) t1 (by decide) rfl kw_710 kw_99 kw_707 kw_708 kw_709 hcX2_way ⟨by decide, by decide⟩ rfl rfl (Nat.le_of_ble_eq_true rfl) ⟨by decide, by decide⟩ dX6_cheapestNext_50) (fun u13 h14 hf => ?_)
            refine gw_sub [1, 2, 3, 4, 5, 6, 7] rfl ?_
            exact J53 u13 h14 hf
          · have hf := hf.2 c12
            refine gw_iconst F dX6_cheapestNext_42 ?_
            refine gw_goto F (tgt := 53) dX6_cheapestNext_43 (by decide) ?_
            refine gw_sub [1, 2, 3, 4, 5, 6, 7] rfl ?_
            exact J53 0 (by decide) hf
  obtain ⟨n15, hf⟩ := hf
  refine gw_sub [3, 4, 5, 6, 2, 1, 0] rfl ?_
  refine L9   n15 (-1) 0 0 (by decide) (by decide) (by decide) hf

theorem dX6_costFrom_0 : decode cX6_costFrom 0 = .ok (.iload_n 2, 1) := by decide +kernel
theorem dX6_costFrom_1 : decode cX6_costFrom 1 = .ok (.aload_n 0, 1) := by decide +kernel
theorem dX6_costFrom_2 : decode cX6_costFrom 2 = .ok (.getfield 20, 3) := by decide +kernel
theorem dX6_costFrom_5 : decode cX6_costFrom 5 = .ok (.getfield 47, 3) := by decide +kernel
theorem dX6_costFrom_8 : decode cX6_costFrom 8 = .ok (.iconst 1, 1) := by decide +kernel
theorem dX6_costFrom_9 : decode cX6_costFrom 9 = .ok (.isub, 1) := by decide +kernel
theorem dX6_costFrom_10 : decode cX6_costFrom 10 = .ok (.if_icmp .lt 5, 3) := by decide +kernel
theorem dX6_costFrom_13 : decode cX6_costFrom 13 = .ok (.iconst 0, 1) := by decide +kernel
theorem dX6_costFrom_14 : decode cX6_costFrom 14 = .ok (.ireturn, 1) := by decide +kernel
theorem dX6_costFrom_15 : decode cX6_costFrom 15 = .ok (.aload_n 0, 1) := by decide +kernel
theorem dX6_costFrom_16 : decode cX6_costFrom 16 = .ok (.aload_n 1, 1) := by decide +kernel
theorem dX6_costFrom_17 : decode cX6_costFrom 17 = .ok (.iload_n 2, 1) := by decide +kernel
theorem dX6_costFrom_18 : decode cX6_costFrom 18 = .ok (.iload_n 3, 1) := by decide +kernel
theorem dX6_costFrom_19 : decode cX6_costFrom 19 = .ok (.invokevirtual 66, 3) := by decide +kernel
theorem dX6_costFrom_22 : decode cX6_costFrom 22 = .ok (.istore 4, 2) := by decide +kernel
theorem dX6_costFrom_24 : decode cX6_costFrom 24 = .ok (.iload 4, 2) := by decide +kernel
theorem dX6_costFrom_26 : decode cX6_costFrom 26 = .ok (.iconst (-1), 1) := by decide +kernel
theorem dX6_costFrom_27 : decode cX6_costFrom 27 = .ok (.if_icmp .ne 7, 3) := by decide +kernel
theorem dX6_costFrom_30 : decode cX6_costFrom 30 = .ok (.iconst (-1), 1) := by decide +kernel
theorem dX6_costFrom_31 : decode cX6_costFrom 31 = .ok (.goto 20, 3) := by decide +kernel
theorem dX6_costFrom_34 : decode cX6_costFrom 34 = .ok (.aload_n 1, 1) := by decide +kernel
theorem dX6_costFrom_35 : decode cX6_costFrom 35 = .ok (.iload_n 3, 1) := by decide +kernel
theorem dX6_costFrom_36 : decode cX6_costFrom 36 = .ok (.iload 4, 2) := by decide +kernel
theorem dX6_costFrom_38 : decode cX6_costFrom 38 = .ok (.invokevirtual 73, 3) := by decide +kernel
theorem dX6_costFrom_41 : decode cX6_costFrom 41 = .ok (.aload_n 0, 1) := by decide +kernel
theorem dX6_costFrom_42 : decode cX6_costFrom 42 = .ok (.iload_n 2, 1) := by decide +kernel
theorem dX6_costFrom_43 : decode cX6_costFrom 43 = .ok (.iconst 1, 1) := by decide +kernel
theorem dX6_costFrom_44 : decode cX6_costFrom 44 = .ok (.iadd, 1) := by decide +kernel
theorem dX6_costFrom_45 : decode cX6_costFrom 45 = .ok (.iload 4, 2) := by decide +kernel
theorem dX6_costFrom_47 : decode cX6_costFrom 47 = .ok (.invokevirtual 69, 3) := by decide +kernel
theorem dX6_costFrom_50 : decode cX6_costFrom 50 = .ok (.iadd, 1) := by decide +kernel
theorem dX6_costFrom_51 : decode cX6_costFrom 51 = .ok (.ireturn, 1) := by decide +kernel
theorem hcX6_costFrom : yX6_costFrom.cls ≠ "java/lang/invoke/MethodHandle" ∧ yX6_costFrom.cls ≠ "java/lang/invoke/VarHandle" ∧ (parseMethodDescriptor yX6_costFrom.desc).map (fun d => d.parameters.length) = some 3 := ⟨by decide +kernel, by decide +kernel, by decide +kernel⟩
def fX6_costFrom (La : sg_L) (s0 : sg_M) (o1 : Int) (x2 : Int) (x3 : Int) (Q : Int → Prop) : Prop := sg_R ((s0 48 1) - 1) ∧ ((x2 < ((s0 48 1) - 1) → fX6_cheapestNext La s0 o1 x2 x3 (fun u5 => ((u5 ≠ (-1) → fX2_way La s0 o1 x3 u5 (fun u8 => sg_R (x2 + 1) ∧ fX6_costAt s0 (x2 + 1) u5 (fun u11 => sg_R (u8 + u11) ∧ Q (u8 + u11)))) ∧ (u5 = (-1) → Q (-1))))) ∧ (¬ (x2 < ((s0 48 1) - 1)) → Q 0))
set_option maxHeartbeats 4000000 in
set_option maxRecDepth 100000 in
theorem CX6_costFrom {l : Launch} {G : sg_G} {La : sg_L} {s0 : sg_M} (hst : sg_St La) {o1 : Int} (t1 : sg_O La o1 2) {x2 : Int} (r2 : sg_R x2) {x3 : Int} (r3 : sg_R x3) {Q : Int → Prop} (hf : fX6_costFrom La s0 o1 x2 x3 Q) : sg_C l G yX6_costFrom cX6_costFrom 5 (some .int) 4 0 0 La s0 [sg_r 46, sg_r o1, sg_i x2, sg_i x3] (sg_PI La s0 Q) := by
  refine sg_body (by decide +kernel) (Nat.le_of_ble_eq_true rfl) ?_
  intro p e s m args below meth c F hnm
  unfold fX6_costFrom at hf
  show sg_W p l e (sg_rm 4 0 0) s m args below meth c (MQ below (sg_Q (some .int) G La s.heap.size (sg_PI La s0 Q)) args s 0 0 (sg_A La s.heap.size)) 5 G (sg_A La s.heap.size) La s0 0 0 0 [(0, sg_r 46), (1, sg_r o1), (2, sg_i x2), (3, sg_i x3)] []
  refine gw_iload_n F 2 rfl rfl dX6_costFrom_0 ?_
  refine gw_aload_n F 0 rfl rfl (by decide) dX6_costFrom_1 ?_
  refine gw_get3 F (so_46 hst) (by decide) rfl sg_lay_RX6 (j := 1) (by decide) (o1 := 48) (by first | rfl | omega) rfl (host := "") (.inl kw_313) dX6_costFrom_2 (fun h1 => ?_)
  refine gw_get0 F (so_48 hst) (by decide) rfl sg_lay_RX4 (j := 1) (by decide) rfl (.inr kw_201) dX6_costFrom_5 (fun h2 => ?_)
  refine gw_iconst F dX6_costFrom_8 ?_
  refine gw_isub F rfl dX6_costFrom_9 ?_
  obtain ⟨g3, hf⟩ := hf
  refine gw_icmp_lt F (tgt := 15) dX6_costFrom_10 (by decide) r2 g3 (fun c4 => ?_) (fun c4 => ?_)
  · have hf := hf.1 c4
    refine gw_aload_n F 0 rfl rfl (by decide) dX6_costFrom_15 ?_
    refine gw_aload_n F 1 rfl rfl t1.1 dX6_costFrom_16 ?_
    refine gw_iload_n F 2 rfl rfl dX6_costFrom_17 ?_
    refine gw_iload_n F 3 rfl rfl dX6_costFrom_18 ?_
    refine gk_PI F (gc_V F (S := []) (As := [sg_r o1, sg_i x2, sg_i x3]) (T := TX6) (N := 3) (CX6_cheapestNext hst t1 r2 r3 hf) (so_46 hst) (by decide) rfl kw_703 kw_102 kw_701 kw_702 kw_23 hcX6_cheapestNext ⟨by decide, by decide⟩ rfl rfl (Nat.le_of_ble_eq_true rfl) ⟨by decide, by decide⟩ dX6_costFrom_19) (fun u5 h6 hf => ?_)
    refine gw_istore F (by decide) rfl dX6_costFrom_22 ?_
    refine gw_iload F 0 rfl dX6_costFrom_24 ?_
    refine gw_iconst F dX6_costFrom_26 ?_
    refine gw_icmp_ne F (tgt := 34) dX6_costFrom_27 (by decide) h6 (by decide) (fun c7 => ?_) (fun c7 => ?_)
    · have hf := hf.1 c7
      refine gw_aload_n F 2 rfl rfl t1.1 dX6_costFrom_34 ?_
      refine gw_iload_n F 4 rfl rfl dX6_costFrom_35 ?_
      refine gw_iload F 0 rfl dX6_costFrom_36 ?_
      refine gk_PI F (gc_V F (S := []) (As := [sg_i x3, sg_i u5]) (T := TX2) (N := 3) (CX2_way t1 r3 h6 hf) t1 (by decide) rfl kw_710 kw_99 kw_707 kw_708 kw_709 hcX2_way ⟨by decide, by decide⟩ rfl rfl (Nat.le_of_ble_eq_true rfl) ⟨by decide, by decide⟩ dX6_costFrom_38) (fun u8 h9 hf => ?_)
      refine gw_aload_n F 1 rfl rfl (by decide) dX6_costFrom_41 ?_
      refine gw_iload_n F 3 rfl rfl dX6_costFrom_42 ?_
      refine gw_iconst F dX6_costFrom_43 ?_
      refine gw_iadd F rfl dX6_costFrom_44 ?_
      refine gw_iload F 0 rfl dX6_costFrom_45 ?_
      obtain ⟨g10, hf⟩ := hf
      refine gk_PI F (gc_V F (S := [sg_i u8]) (As := [sg_i (x2 + 1), sg_i u5]) (T := TX6) (N := 3) (CX6_costAt hst g10 h6 hf) (so_46 hst) (by decide) rfl kw_706 kw_102 kw_704 kw_705 kw_24 hcX6_costAt ⟨by decide, by decide⟩ rfl rfl (Nat.le_of_ble_eq_true rfl) ⟨by decide, by decide⟩ dX6_costFrom_47) (fun u11 h12 hf => ?_)
      refine gw_iadd F rfl dX6_costFrom_50 ?_
      obtain ⟨g13, hf⟩ := hf
      exact gr_PI F g13 hf (by decide) (by decide) dX6_costFrom_51
    · have hf := hf.2 c7
      refine gw_iconst F dX6_costFrom_30 ?_
      refine gw_goto F (tgt := 51) dX6_costFrom_31 (by decide) ?_
      exact gr_PI F (by decide) hf (by decide) (by decide) dX6_costFrom_51
  · have hf := hf.2 c4
    refine gw_iconst F dX6_costFrom_13 ?_
    exact gr_PI F (by decide) hf (by decide) (by decide) dX6_costFrom_14

theorem dX8_byteAt_0 : decode cX8_byteAt 0 = .ok (.iload_n 1, 1) := by decide +kernel
theorem dX8_byteAt_1 : decode cX8_byteAt 1 = .ok (.ifCond .lt 20, 3) := by decide +kernel
theorem dX8_byteAt_4 : decode cX8_byteAt 4 = .ok (.iload_n 1, 1) := by decide +kernel
theorem dX8_byteAt_5 : decode cX8_byteAt 5 = .ok (.aload_n 0, 1) := by decide +kernel
theorem dX8_byteAt_6 : decode cX8_byteAt 6 = .ok (.getfield 15, 3) := by decide +kernel
theorem dX8_byteAt_9 : decode cX8_byteAt 9 = .ok (.if_icmp .ge 12, 3) := by decide +kernel
theorem dX8_byteAt_12 : decode cX8_byteAt 12 = .ok (.iload_n 1, 1) := by decide +kernel
theorem dX8_byteAt_13 : decode cX8_byteAt 13 = .ok (.aload_n 0, 1) := by decide +kernel
theorem dX8_byteAt_14 : decode cX8_byteAt 14 = .ok (.getfield 9, 3) := by decide +kernel
theorem dX8_byteAt_17 : decode cX8_byteAt 17 = .ok (.arraylength, 1) := by decide +kernel
theorem dX8_byteAt_18 : decode cX8_byteAt 18 = .ok (.if_icmp .lt 7, 3) := by decide +kernel
theorem dX8_byteAt_21 : decode cX8_byteAt 21 = .ok (.iconst (-1), 1) := by decide +kernel
theorem dX8_byteAt_22 : decode cX8_byteAt 22 = .ok (.goto 9, 3) := by decide +kernel
theorem dX8_byteAt_25 : decode cX8_byteAt 25 = .ok (.aload_n 0, 1) := by decide +kernel
theorem dX8_byteAt_26 : decode cX8_byteAt 26 = .ok (.getfield 9, 3) := by decide +kernel
theorem dX8_byteAt_29 : decode cX8_byteAt 29 = .ok (.iload_n 1, 1) := by decide +kernel
theorem dX8_byteAt_30 : decode cX8_byteAt 30 = .ok (.iaload, 1) := by decide +kernel
theorem dX8_byteAt_31 : decode cX8_byteAt 31 = .ok (.ireturn, 1) := by decide +kernel
theorem hcX8_byteAt : yX8_byteAt.cls ≠ "java/lang/invoke/MethodHandle" ∧ yX8_byteAt.cls ≠ "java/lang/invoke/VarHandle" ∧ (parseMethodDescriptor yX8_byteAt.desc).map (fun d => d.parameters.length) = some 1 := ⟨by decide +kernel, by decide +kernel, by decide +kernel⟩
def fX8_byteAt (s0 : sg_M) (x1 : Int) (Q : Int → Prop) : Prop := ((x1 < 0 → Q (-1)) ∧ (¬ (x1 < 0) → (((s0 1 1) ≤ x1 → Q (-1)) ∧ (¬ ((s0 1 1) ≤ x1) → sg_R 540 ∧ ((x1 < 540 → (0 ≤ x1 ∧ x1 < 540) ∧ Q (s0 2 x1)) ∧ (¬ (x1 < 540) → Q (-1)))))))
set_option maxHeartbeats 4000000 in
set_option maxRecDepth 100000 in
theorem CX8_byteAt {l : Launch} {G : sg_G} {La : sg_L} {s0 : sg_M} (hst : sg_St La) {x1 : Int} (r1 : sg_R x1) {Q : Int → Prop} (hf : fX8_byteAt s0 x1 Q) : sg_C l G yX8_byteAt cX8_byteAt 2 (some .int) 1 0 0 La s0 [sg_r 1, sg_i x1] (sg_PI La s0 Q) := by
  refine sg_body (by decide +kernel) (Nat.le_of_ble_eq_true rfl) ?_
  intro p e s m args below meth c F hnm
  unfold fX8_byteAt at hf
  show sg_W p l e (sg_rm 1 0 0) s m args below meth c (MQ below (sg_Q (some .int) G La s.heap.size (sg_PI La s0 Q)) args s 0 0 (sg_A La s.heap.size)) 2 G (sg_A La s.heap.size) La s0 0 0 0 [(0, sg_r 1), (1, sg_i x1)] []
  refine gw_iload_n F 1 rfl rfl dX8_byteAt_0 ?_
  refine gw_if_lt F (tgt := 21) dX8_byteAt_1 (by decide) r1 (fun c1 => ?_) (fun c1 => ?_)
  · have hf := hf.1 c1
    refine gw_iconst F dX8_byteAt_21 ?_
    refine gw_goto F (tgt := 31) dX8_byteAt_22 (by decide) ?_
    exact gr_PI F (by decide) hf (by decide) (by decide) dX8_byteAt_31
  · have hf := hf.2 c1
    refine gw_iload_n F 1 rfl rfl dX8_byteAt_4 ?_
    refine gw_aload_n F 0 rfl rfl (by decide) dX8_byteAt_5 ?_
    refine gw_get0 F (so_1 hst) (by decide) rfl sg_lay_RX8 (j := 1) (by decide) rfl (host := "") (.inl kw_127) dX8_byteAt_6 (fun h2 => ?_)
    refine gw_icmp_ge F (tgt := 21) dX8_byteAt_9 (by decide) r1 h2 (fun c3 => ?_) (fun c3 => ?_)
    · have hf := hf.1 c3
      refine gw_iconst F dX8_byteAt_21 ?_
      refine gw_goto F (tgt := 31) dX8_byteAt_22 (by decide) ?_
      exact gr_PI F (by decide) hf (by decide) (by decide) dX8_byteAt_31
    · have hf := hf.2 c3
      refine gw_iload_n F 1 rfl rfl dX8_byteAt_12 ?_
      refine gw_aload_n F 0 rfl rfl (by decide) dX8_byteAt_13 ?_
      refine gw_get3 F (so_1 hst) (by decide) rfl sg_lay_RX8 (j := 0) (by decide) (o1 := 2) (by first | rfl | omega) rfl (host := "") (.inl kw_126) dX8_byteAt_14 (fun h4 => ?_)
      refine gw_alen F (sa_2 hst) dX8_byteAt_17 ?_
      obtain ⟨g5, hf⟩ := hf
      refine gw_icmp_lt F (tgt := 25) dX8_byteAt_18 (by decide) r1 g5 (fun c6 => ?_) (fun c6 => ?_)
      · have hf := hf.1 c6
        refine gw_aload_n F 0 rfl rfl (by decide) dX8_byteAt_25 ?_
        refine gw_get3 F (so_1 hst) (by decide) rfl sg_lay_RX8 (j := 0) (by decide) (o1 := 2) (by first | rfl | omega) rfl (host := "") (.inl kw_126) dX8_byteAt_26 (fun h7 => ?_)
        refine gw_iload_n F 1 rfl rfl dX8_byteAt_29 ?_
        obtain ⟨⟨b80, b81⟩, hf⟩ := hf
        refine gw_iald F (sa_2 hst) b80 b81 dX8_byteAt_30 (fun h9 => ?_)
        exact gr_PI F h9 hf (by decide) (by decide) dX8_byteAt_31
      · have hf := hf.2 c6
        refine gw_iconst F dX8_byteAt_21 ?_
        refine gw_goto F (tgt := 31) dX8_byteAt_22 (by decide) ?_
        exact gr_PI F (by decide) hf (by decide) (by decide) dX8_byteAt_31

theorem dX9_isBlank_0 : decode cX9_isBlank 0 = .ok (.iload_n 0, 1) := by decide +kernel
theorem dX9_isBlank_1 : decode cX9_isBlank 1 = .ok (.bipush 32, 2) := by decide +kernel
theorem dX9_isBlank_3 : decode cX9_isBlank 3 = .ok (.if_icmp .eq 9, 3) := by decide +kernel
theorem dX9_isBlank_6 : decode cX9_isBlank 6 = .ok (.iload_n 0, 1) := by decide +kernel
theorem dX9_isBlank_7 : decode cX9_isBlank 7 = .ok (.bipush 10, 2) := by decide +kernel
theorem dX9_isBlank_9 : decode cX9_isBlank 9 = .ok (.if_icmp .ne 7, 3) := by decide +kernel
theorem dX9_isBlank_12 : decode cX9_isBlank 12 = .ok (.iconst 1, 1) := by decide +kernel
theorem dX9_isBlank_13 : decode cX9_isBlank 13 = .ok (.goto 4, 3) := by decide +kernel
theorem dX9_isBlank_16 : decode cX9_isBlank 16 = .ok (.iconst 0, 1) := by decide +kernel
theorem dX9_isBlank_17 : decode cX9_isBlank 17 = .ok (.ireturn, 1) := by decide +kernel
theorem hcX9_isBlank : yX9_isBlank.cls ≠ "java/lang/invoke/MethodHandle" ∧ yX9_isBlank.cls ≠ "java/lang/invoke/VarHandle" ∧ (parseMethodDescriptor yX9_isBlank.desc).map (fun d => d.parameters.length) = some 1 := ⟨by decide +kernel, by decide +kernel, by decide +kernel⟩
def fX9_isBlank (x0 : Int) (Q : Int → Prop) : Prop := ((x0 = 32 → Q 1) ∧ (¬ (x0 = 32) → ((x0 ≠ 10 → Q 0) ∧ (x0 = 10 → Q 1))))
set_option maxHeartbeats 4000000 in
set_option maxRecDepth 100000 in
theorem CX9_isBlank {l : Launch} {G : sg_G} {La : sg_L} {s0 : sg_M} {x0 : Int} (r0 : sg_R x0) {Q : Int → Prop} (hf : fX9_isBlank x0 Q) : sg_C l G yX9_isBlank cX9_isBlank 1 (some .boolean) 1 0 0 La s0 [sg_i x0] (sg_PZ La s0 Q) := by
  refine sg_body (by decide +kernel) (Nat.le_of_ble_eq_true rfl) ?_
  intro p e s m args below meth c F hnm
  unfold fX9_isBlank at hf
  show sg_W p l e (sg_rm 1 0 0) s m args below meth c (MQ below (sg_Q (some .boolean) G La s.heap.size (sg_PZ La s0 Q)) args s 0 0 (sg_A La s.heap.size)) 1 G (sg_A La s.heap.size) La s0 0 0 0 [(0, sg_i x0)] []
  refine gw_iload_n F 0 rfl rfl dX9_isBlank_0 ?_
  refine gw_bipush F rfl dX9_isBlank_1 ?_
  refine gw_icmp_eq F (tgt := 12) dX9_isBlank_3 (by decide) r0 (by decide) (fun c1 => ?_) (fun c1 => ?_)
  · have hf := hf.1 c1
    refine gw_iconst F dX9_isBlank_12 ?_
    refine gw_goto F (tgt := 17) dX9_isBlank_13 (by decide) ?_
    exact gr_PZ F (by decide) hf (by decide) (by decide) dX9_isBlank_17
  · have hf := hf.2 c1
    refine gw_iload_n F 0 rfl rfl dX9_isBlank_6 ?_
    refine gw_bipush F rfl dX9_isBlank_7 ?_
    refine gw_icmp_ne F (tgt := 16) dX9_isBlank_9 (by decide) r0 (by decide) (fun c2 => ?_) (fun c2 => ?_)
    · have hf := hf.1 c2
      refine gw_iconst F dX9_isBlank_16 ?_
      exact gr_PZ F (by decide) hf (by decide) (by decide) dX9_isBlank_17
    · have hf := hf.2 c2
      refine gw_iconst F dX9_isBlank_12 ?_
      refine gw_goto F (tgt := 17) dX9_isBlank_13 (by decide) ?_
      exact gr_PZ F (by decide) hf (by decide) (by decide) dX9_isBlank_17

theorem dX9_isOfRun_0 : decode cX9_isOfRun 0 = .ok (.iload_n 0, 1) := by decide +kernel
theorem dX9_isOfRun_1 : decode cX9_isOfRun 1 = .ok (.bipush 97, 2) := by decide +kernel
theorem dX9_isOfRun_3 : decode cX9_isOfRun 3 = .ok (.if_icmp .lt 9, 3) := by decide +kernel
theorem dX9_isOfRun_6 : decode cX9_isOfRun 6 = .ok (.iload_n 0, 1) := by decide +kernel
theorem dX9_isOfRun_7 : decode cX9_isOfRun 7 = .ok (.bipush 122, 2) := by decide +kernel
theorem dX9_isOfRun_9 : decode cX9_isOfRun 9 = .ok (.if_icmp .le 15, 3) := by decide +kernel
theorem dX9_isOfRun_12 : decode cX9_isOfRun 12 = .ok (.iload_n 0, 1) := by decide +kernel
theorem dX9_isOfRun_13 : decode cX9_isOfRun 13 = .ok (.bipush 48, 2) := by decide +kernel
theorem dX9_isOfRun_15 : decode cX9_isOfRun 15 = .ok (.if_icmp .lt 13, 3) := by decide +kernel
theorem dX9_isOfRun_18 : decode cX9_isOfRun 18 = .ok (.iload_n 0, 1) := by decide +kernel
theorem dX9_isOfRun_19 : decode cX9_isOfRun 19 = .ok (.bipush 57, 2) := by decide +kernel
theorem dX9_isOfRun_21 : decode cX9_isOfRun 21 = .ok (.if_icmp .gt 7, 3) := by decide +kernel
theorem dX9_isOfRun_24 : decode cX9_isOfRun 24 = .ok (.iconst 1, 1) := by decide +kernel
theorem dX9_isOfRun_25 : decode cX9_isOfRun 25 = .ok (.goto 4, 3) := by decide +kernel
theorem dX9_isOfRun_28 : decode cX9_isOfRun 28 = .ok (.iconst 0, 1) := by decide +kernel
theorem dX9_isOfRun_29 : decode cX9_isOfRun 29 = .ok (.ireturn, 1) := by decide +kernel
theorem hcX9_isOfRun : yX9_isOfRun.cls ≠ "java/lang/invoke/MethodHandle" ∧ yX9_isOfRun.cls ≠ "java/lang/invoke/VarHandle" ∧ (parseMethodDescriptor yX9_isOfRun.desc).map (fun d => d.parameters.length) = some 1 := ⟨by decide +kernel, by decide +kernel, by decide +kernel⟩
def fX9_isOfRun_j12 (x0 : Int) (Q : Int → Prop)  : Prop := ((x0 < 48 → Q 0) ∧ (¬ (x0 < 48) → ((57 < x0 → Q 0) ∧ (¬ (57 < x0) → Q 1))))
def fX9_isOfRun (x0 : Int) (Q : Int → Prop) : Prop := ((x0 < 97 → (fX9_isOfRun_j12 x0 Q)) ∧ (¬ (x0 < 97) → ((x0 ≤ 122 → Q 1) ∧ (¬ (x0 ≤ 122) → (fX9_isOfRun_j12 x0 Q)))))
set_option maxHeartbeats 4000000 in
set_option maxRecDepth 100000 in
theorem CX9_isOfRun {l : Launch} {G : sg_G} {La : sg_L} {s0 : sg_M} {x0 : Int} (r0 : sg_R x0) {Q : Int → Prop} (hf : fX9_isOfRun x0 Q) : sg_C l G yX9_isOfRun cX9_isOfRun 1 (some .boolean) 1 0 0 La s0 [sg_i x0] (sg_PZ La s0 Q) := by
  refine sg_body (by decide +kernel) (Nat.le_of_ble_eq_true rfl) ?_
  intro p e s m args below meth c F hnm
  unfold fX9_isOfRun at hf
  show sg_W p l e (sg_rm 1 0 0) s m args below meth c (MQ below (sg_Q (some .boolean) G La s.heap.size (sg_PZ La s0 Q)) args s 0 0 (sg_A La s.heap.size)) 1 G (sg_A La s.heap.size) La s0 0 0 0 [(0, sg_i x0)] []
  refine gw_iload_n F 0 rfl rfl dX9_isOfRun_0 ?_
  refine gw_bipush F rfl dX9_isOfRun_1 ?_
  have J12 : (fX9_isOfRun_j12 x0 Q) → sg_W p l e (sg_rm 1 0 0) s m args below meth c (MQ below (sg_Q (some .boolean) G La s.heap.size (sg_PZ La s0 Q)) args s 0 0 (sg_A La s.heap.size)) 1 G (sg_A La s.heap.size) La s0 0 0 12 [(0, sg_i x0)] [] := by
    intro hf
    unfold fX9_isOfRun_j12 at hf
    refine gw_iload_n F 0 rfl rfl dX9_isOfRun_12 ?_
    refine gw_bipush F rfl dX9_isOfRun_13 ?_
    refine gw_icmp_lt F (tgt := 28) dX9_isOfRun_15 (by decide) r0 (by decide) (fun c1 => ?_) (fun c1 => ?_)
    · have hf := hf.1 c1
      refine gw_iconst F dX9_isOfRun_28 ?_
      exact gr_PZ F (by decide) hf (by decide) (by decide) dX9_isOfRun_29
    · have hf := hf.2 c1
      refine gw_iload_n F 0 rfl rfl dX9_isOfRun_18 ?_
      refine gw_bipush F rfl dX9_isOfRun_19 ?_
      refine gw_icmp_gt F (tgt := 28) dX9_isOfRun_21 (by decide) r0 (by decide) (fun c2 => ?_) (fun c2 => ?_)
      · have hf := hf.1 c2
        refine gw_iconst F dX9_isOfRun_28 ?_
        exact gr_PZ F (by decide) hf (by decide) (by decide) dX9_isOfRun_29
      · have hf := hf.2 c2
        refine gw_iconst F dX9_isOfRun_24 ?_
        refine gw_goto F (tgt := 29) dX9_isOfRun_25 (by decide) ?_
        exact gr_PZ F (by decide) hf (by decide) (by decide) dX9_isOfRun_29
  refine gw_icmp_lt F (tgt := 12) dX9_isOfRun_3 (by decide) r0 (by decide) (fun c3 => ?_) (fun c3 => ?_)
  · have hf := hf.1 c3
    refine gw_sub [0] rfl ?_
    exact J12  hf
  · have hf := hf.2 c3
    refine gw_iload_n F 0 rfl rfl dX9_isOfRun_6 ?_
    refine gw_bipush F rfl dX9_isOfRun_7 ?_
    refine gw_icmp_le F (tgt := 24) dX9_isOfRun_9 (by decide) r0 (by decide) (fun c4 => ?_) (fun c4 => ?_)
    · have hf := hf.1 c4
      refine gw_iconst F dX9_isOfRun_24 ?_
      refine gw_goto F (tgt := 29) dX9_isOfRun_25 (by decide) ?_
      exact gr_PZ F (by decide) hf (by decide) (by decide) dX9_isOfRun_29
    · have hf := hf.2 c4
      refine gw_sub [0] rfl ?_
      exact J12  hf

theorem dX9_isSignByte_0 : decode cX9_isSignByte 0 = .ok (.iload_n 0, 1) := by decide +kernel
theorem dX9_isSignByte_1 : decode cX9_isSignByte 1 = .ok (.bipush 59, 2) := by decide +kernel
theorem dX9_isSignByte_3 : decode cX9_isSignByte 3 = .ok (.if_icmp .eq 33, 3) := by decide +kernel
theorem dX9_isSignByte_6 : decode cX9_isSignByte 6 = .ok (.iload_n 0, 1) := by decide +kernel
theorem dX9_isSignByte_7 : decode cX9_isSignByte 7 = .ok (.bipush 45, 2) := by decide +kernel
theorem dX9_isSignByte_9 : decode cX9_isSignByte 9 = .ok (.if_icmp .eq 27, 3) := by decide +kernel
theorem dX9_isSignByte_12 : decode cX9_isSignByte 12 = .ok (.iload_n 0, 1) := by decide +kernel
theorem dX9_isSignByte_13 : decode cX9_isSignByte 13 = .ok (.bipush 60, 2) := by decide +kernel
theorem dX9_isSignByte_15 : decode cX9_isSignByte 15 = .ok (.if_icmp .lt 9, 3) := by decide +kernel
theorem dX9_isSignByte_18 : decode cX9_isSignByte 18 = .ok (.iload_n 0, 1) := by decide +kernel
theorem dX9_isSignByte_19 : decode cX9_isSignByte 19 = .ok (.bipush 62, 2) := by decide +kernel
theorem dX9_isSignByte_21 : decode cX9_isSignByte 21 = .ok (.if_icmp .le 15, 3) := by decide +kernel
theorem dX9_isSignByte_24 : decode cX9_isSignByte 24 = .ok (.iload_n 0, 1) := by decide +kernel
theorem dX9_isSignByte_25 : decode cX9_isSignByte 25 = .ok (.bipush 40, 2) := by decide +kernel
theorem dX9_isSignByte_27 : decode cX9_isSignByte 27 = .ok (.if_icmp .eq 9, 3) := by decide +kernel
theorem dX9_isSignByte_30 : decode cX9_isSignByte 30 = .ok (.iload_n 0, 1) := by decide +kernel
theorem dX9_isSignByte_31 : decode cX9_isSignByte 31 = .ok (.bipush 41, 2) := by decide +kernel
theorem dX9_isSignByte_33 : decode cX9_isSignByte 33 = .ok (.if_icmp .ne 7, 3) := by decide +kernel
theorem dX9_isSignByte_36 : decode cX9_isSignByte 36 = .ok (.iconst 1, 1) := by decide +kernel
theorem dX9_isSignByte_37 : decode cX9_isSignByte 37 = .ok (.goto 4, 3) := by decide +kernel
theorem dX9_isSignByte_40 : decode cX9_isSignByte 40 = .ok (.iconst 0, 1) := by decide +kernel
theorem dX9_isSignByte_41 : decode cX9_isSignByte 41 = .ok (.ireturn, 1) := by decide +kernel
theorem hcX9_isSignByte : yX9_isSignByte.cls ≠ "java/lang/invoke/MethodHandle" ∧ yX9_isSignByte.cls ≠ "java/lang/invoke/VarHandle" ∧ (parseMethodDescriptor yX9_isSignByte.desc).map (fun d => d.parameters.length) = some 1 := ⟨by decide +kernel, by decide +kernel, by decide +kernel⟩
def fX9_isSignByte_j24 (x0 : Int) (Q : Int → Prop)  : Prop := ((x0 = 40 → Q 1) ∧ (¬ (x0 = 40) → ((x0 ≠ 41 → Q 0) ∧ (x0 = 41 → Q 1))))
def fX9_isSignByte (x0 : Int) (Q : Int → Prop) : Prop := ((x0 = 59 → Q 1) ∧ (¬ (x0 = 59) → ((x0 = 45 → Q 1) ∧ (¬ (x0 = 45) → ((x0 < 60 → (fX9_isSignByte_j24 x0 Q)) ∧ (¬ (x0 < 60) → ((x0 ≤ 62 → Q 1) ∧ (¬ (x0 ≤ 62) → (fX9_isSignByte_j24 x0 Q)))))))))
set_option maxHeartbeats 4000000 in
set_option maxRecDepth 100000 in
theorem CX9_isSignByte {l : Launch} {G : sg_G} {La : sg_L} {s0 : sg_M} {x0 : Int} (r0 : sg_R x0) {Q : Int → Prop} (hf : fX9_isSignByte x0 Q) : sg_C l G yX9_isSignByte cX9_isSignByte 1 (some .boolean) 1 0 0 La s0 [sg_i x0] (sg_PZ La s0 Q) := by
  refine sg_body (by decide +kernel) (Nat.le_of_ble_eq_true rfl) ?_
  intro p e s m args below meth c F hnm
  unfold fX9_isSignByte at hf
  show sg_W p l e (sg_rm 1 0 0) s m args below meth c (MQ below (sg_Q (some .boolean) G La s.heap.size (sg_PZ La s0 Q)) args s 0 0 (sg_A La s.heap.size)) 1 G (sg_A La s.heap.size) La s0 0 0 0 [(0, sg_i x0)] []
  refine gw_iload_n F 0 rfl rfl dX9_isSignByte_0 ?_
  refine gw_bipush F rfl dX9_isSignByte_1 ?_
  refine gw_icmp_eq F (tgt := 36) dX9_isSignByte_3 (by decide) r0 (by decide) (fun c1 => ?_) (fun c1 => ?_)
  · have hf := hf.1 c1
    refine gw_iconst F dX9_isSignByte_36 ?_
    refine gw_goto F (tgt := 41) dX9_isSignByte_37 (by decide) ?_
    exact gr_PZ F (by decide) hf (by decide) (by decide) dX9_isSignByte_41
  · have hf := hf.2 c1
    refine gw_iload_n F 0 rfl rfl dX9_isSignByte_6 ?_
    refine gw_bipush F rfl dX9_isSignByte_7 ?_
    refine gw_icmp_eq F (tgt := 36) dX9_isSignByte_9 (by decide) r0 (by decide) (fun c2 => ?_) (fun c2 => ?_)
    · have hf := hf.1 c2
      refine gw_iconst F dX9_isSignByte_36 ?_
      refine gw_goto F (tgt := 41) dX9_isSignByte_37 (by decide) ?_
      exact gr_PZ F (by decide) hf (by decide) (by decide) dX9_isSignByte_41
    · have hf := hf.2 c2
      refine gw_iload_n F 0 rfl rfl dX9_isSignByte_12 ?_
      refine gw_bipush F rfl dX9_isSignByte_13 ?_
      have J24 : (fX9_isSignByte_j24 x0 Q) → sg_W p l e (sg_rm 1 0 0) s m args below meth c (MQ below (sg_Q (some .boolean) G La s.heap.size (sg_PZ La s0 Q)) args s 0 0 (sg_A La s.heap.size)) 1 G (sg_A La s.heap.size) La s0 0 0 24 [(0, sg_i x0)] [] := by
        intro hf
        unfold fX9_isSignByte_j24 at hf
        refine gw_iload_n F 0 rfl rfl dX9_isSignByte_24 ?_
        refine gw_bipush F rfl dX9_isSignByte_25 ?_
        refine gw_icmp_eq F (tgt := 36) dX9_isSignByte_27 (by decide) r0 (by decide) (fun c3 => ?_) (fun c3 => ?_)
        · have hf := hf.1 c3
          refine gw_iconst F dX9_isSignByte_36 ?_
          refine gw_goto F (tgt := 41) dX9_isSignByte_37 (by decide) ?_
          exact gr_PZ F (by decide) hf (by decide) (by decide) dX9_isSignByte_41
        · have hf := hf.2 c3
          refine gw_iload_n F 0 rfl rfl dX9_isSignByte_30 ?_
          refine gw_bipush F rfl dX9_isSignByte_31 ?_
          refine gw_icmp_ne F (tgt := 40) dX9_isSignByte_33 (by decide) r0 (by decide) (fun c4 => ?_) (fun c4 => ?_)
          · have hf := hf.1 c4
            refine gw_iconst F dX9_isSignByte_40 ?_
            exact gr_PZ F (by decide) hf (by decide) (by decide) dX9_isSignByte_41
          · have hf := hf.2 c4
            refine gw_iconst F dX9_isSignByte_36 ?_
            refine gw_goto F (tgt := 41) dX9_isSignByte_37 (by decide) ?_
            exact gr_PZ F (by decide) hf (by decide) (by decide) dX9_isSignByte_41
      refine gw_icmp_lt F (tgt := 24) dX9_isSignByte_15 (by decide) r0 (by decide) (fun c5 => ?_) (fun c5 => ?_)
      · have hf := hf.1 c5
        refine gw_sub [0] rfl ?_
        exact J24  hf
      · have hf := hf.2 c5
        refine gw_iload_n F 0 rfl rfl dX9_isSignByte_18 ?_
        refine gw_bipush F rfl dX9_isSignByte_19 ?_
        refine gw_icmp_le F (tgt := 36) dX9_isSignByte_21 (by decide) r0 (by decide) (fun c6 => ?_) (fun c6 => ?_)
        · have hf := hf.1 c6
          refine gw_iconst F dX9_isSignByte_36 ?_
          refine gw_goto F (tgt := 41) dX9_isSignByte_37 (by decide) ?_
          exact gr_PZ F (by decide) hf (by decide) (by decide) dX9_isSignByte_41
        · have hf := hf.2 c6
          refine gw_sub [0] rfl ?_
          exact J24  hf

theorem dX9_kindOfRun_0 : decode cX9_kindOfRun 0 = .ok (.iload_n 0, 1) := by decide +kernel
theorem dX9_kindOfRun_1 : decode cX9_kindOfRun 1 = .ok (.ifCond .ne 10, 3) := by decide +kernel
theorem dX9_kindOfRun_4 : decode cX9_kindOfRun 4 = .ok (.iload_n 1, 1) := by decide +kernel
theorem dX9_kindOfRun_5 : decode cX9_kindOfRun 5 = .ok (.iconst 4, 1) := by decide +kernel
theorem dX9_kindOfRun_6 : decode cX9_kindOfRun 6 = .ok (.if_icmp .gt 5, 3) := by decide +kernel
theorem dX9_kindOfRun_9 : decode cX9_kindOfRun 9 = .ok (.iconst 2, 1) := by decide +kernel
theorem dX9_kindOfRun_10 : decode cX9_kindOfRun 10 = .ok (.ireturn, 1) := by decide +kernel
theorem dX9_kindOfRun_11 : decode cX9_kindOfRun 11 = .ok (.iload_n 1, 1) := by decide +kernel
theorem dX9_kindOfRun_12 : decode cX9_kindOfRun 12 = .ok (.ifCond .ne 13, 3) := by decide +kernel
theorem dX9_kindOfRun_15 : decode cX9_kindOfRun 15 = .ok (.iload_n 0, 1) := by decide +kernel
theorem dX9_kindOfRun_16 : decode cX9_kindOfRun 16 = .ok (.bipush 6, 2) := by decide +kernel
theorem dX9_kindOfRun_18 : decode cX9_kindOfRun 18 = .ok (.if_icmp .gt 7, 3) := by decide +kernel
theorem dX9_kindOfRun_21 : decode cX9_kindOfRun 21 = .ok (.iconst 1, 1) := by decide +kernel
theorem dX9_kindOfRun_22 : decode cX9_kindOfRun 22 = .ok (.goto 4, 3) := by decide +kernel
theorem dX9_kindOfRun_25 : decode cX9_kindOfRun 25 = .ok (.iconst 4, 1) := by decide +kernel
theorem dX9_kindOfRun_26 : decode cX9_kindOfRun 26 = .ok (.ireturn, 1) := by decide +kernel
theorem hcX9_kindOfRun : yX9_kindOfRun.cls ≠ "java/lang/invoke/MethodHandle" ∧ yX9_kindOfRun.cls ≠ "java/lang/invoke/VarHandle" ∧ (parseMethodDescriptor yX9_kindOfRun.desc).map (fun d => d.parameters.length) = some 2 := ⟨by decide +kernel, by decide +kernel, by decide +kernel⟩
def fX9_kindOfRun_j11 (x0 : Int) (x1 : Int) (Q : Int → Prop)  : Prop := ((x1 ≠ 0 → Q 4) ∧ (x1 = 0 → ((6 < x0 → Q 4) ∧ (¬ (6 < x0) → Q 1))))
def fX9_kindOfRun (x0 : Int) (x1 : Int) (Q : Int → Prop) : Prop := ((x0 ≠ 0 → (fX9_kindOfRun_j11 x0 x1 Q)) ∧ (x0 = 0 → ((4 < x1 → (fX9_kindOfRun_j11 x0 x1 Q)) ∧ (¬ (4 < x1) → Q 2))))
set_option maxHeartbeats 4000000 in
set_option maxRecDepth 100000 in
theorem CX9_kindOfRun {l : Launch} {G : sg_G} {La : sg_L} {s0 : sg_M} {x0 : Int} (r0 : sg_R x0) {x1 : Int} (r1 : sg_R x1) {Q : Int → Prop} (hf : fX9_kindOfRun x0 x1 Q) : sg_C l G yX9_kindOfRun cX9_kindOfRun 2 (some .int) 1 0 0 La s0 [sg_i x0, sg_i x1] (sg_PI La s0 Q) := by
  refine sg_body (by decide +kernel) (Nat.le_of_ble_eq_true rfl) ?_
  intro p e s m args below meth c F hnm
  unfold fX9_kindOfRun at hf
  show sg_W p l e (sg_rm 1 0 0) s m args below meth c (MQ below (sg_Q (some .int) G La s.heap.size (sg_PI La s0 Q)) args s 0 0 (sg_A La s.heap.size)) 2 G (sg_A La s.heap.size) La s0 0 0 0 [(0, sg_i x0), (1, sg_i x1)] []
  refine gw_iload_n F 0 rfl rfl dX9_kindOfRun_0 ?_
  have J11 : (fX9_kindOfRun_j11 x0 x1 Q) → sg_W p l e (sg_rm 1 0 0) s m args below meth c (MQ below (sg_Q (some .int) G La s.heap.size (sg_PI La s0 Q)) args s 0 0 (sg_A La s.heap.size)) 2 G (sg_A La s.heap.size) La s0 0 0 11 [(0, sg_i x0), (1, sg_i x1)] [] := by
    intro hf
    unfold fX9_kindOfRun_j11 at hf
    refine gw_iload_n F 1 rfl rfl dX9_kindOfRun_11 ?_
    refine gw_if_ne F (tgt := 25) dX9_kindOfRun_12 (by decide) r1 (fun c1 => ?_) (fun c1 => ?_)
    · have hf := hf.1 c1
      refine gw_iconst F dX9_kindOfRun_25 ?_
      exact gr_PI F (by decide) hf (by decide) (by decide) dX9_kindOfRun_26
    · have hf := hf.2 c1
      refine gw_iload_n F 0 rfl rfl dX9_kindOfRun_15 ?_
      refine gw_bipush F rfl dX9_kindOfRun_16 ?_
      refine gw_icmp_gt F (tgt := 25) dX9_kindOfRun_18 (by decide) r0 (by decide) (fun c2 => ?_) (fun c2 => ?_)
      · have hf := hf.1 c2
        refine gw_iconst F dX9_kindOfRun_25 ?_
        exact gr_PI F (by decide) hf (by decide) (by decide) dX9_kindOfRun_26
      · have hf := hf.2 c2
        refine gw_iconst F dX9_kindOfRun_21 ?_
        refine gw_goto F (tgt := 26) dX9_kindOfRun_22 (by decide) ?_
        exact gr_PI F (by decide) hf (by decide) (by decide) dX9_kindOfRun_26
  refine gw_if_ne F (tgt := 11) dX9_kindOfRun_1 (by decide) r0 (fun c3 => ?_) (fun c3 => ?_)
  · have hf := hf.1 c3
    refine gw_sub [0, 1] rfl ?_
    exact J11  hf
  · have hf := hf.2 c3
    refine gw_iload_n F 1 rfl rfl dX9_kindOfRun_4 ?_
    refine gw_iconst F dX9_kindOfRun_5 ?_
    refine gw_icmp_gt F (tgt := 11) dX9_kindOfRun_6 (by decide) r1 (by decide) (fun c4 => ?_) (fun c4 => ?_)
    · have hf := hf.1 c4
      refine gw_sub [0, 1] rfl ?_
      exact J11  hf
    · have hf := hf.2 c4
      refine gw_iconst F dX9_kindOfRun_9 ?_
      exact gr_PI F (by decide) hf (by decide) (by decide) dX9_kindOfRun_10

theorem dX9_advance_0 : decode cX9_advance 0 = .ok (.aload_n 0, 1) := by decide +kernel
theorem dX9_advance_1 : decode cX9_advance 1 = .ok (.aload_n 0, 1) := by decide +kernel
theorem dX9_advance_2 : decode cX9_advance 2 = .ok (.getfield 19, 3) := by decide +kernel
theorem dX9_advance_5 : decode cX9_advance 5 = .ok (.putfield 16, 3) := by decide +kernel
theorem dX9_advance_8 : decode cX9_advance 8 = .ok (.aload_n 0, 1) := by decide +kernel
theorem dX9_advance_9 : decode cX9_advance 9 = .ok (.getfield 16, 3) := by decide +kernel
theorem dX9_advance_12 : decode cX9_advance 12 = .ok (.aload_n 0, 1) := by decide +kernel
theorem dX9_advance_13 : decode cX9_advance 13 = .ok (.getfield 7, 3) := by decide +kernel
theorem dX9_advance_16 : decode cX9_advance 16 = .ok (.if_icmp .ge 33, 3) := by decide +kernel
theorem dX9_advance_19 : decode cX9_advance 19 = .ok (.aload_n 0, 1) := by decide +kernel
theorem dX9_advance_20 : decode cX9_advance 20 = .ok (.getfield 31, 3) := by decide +kernel
theorem dX9_advance_23 : decode cX9_advance 23 = .ok (.aload_n 0, 1) := by decide +kernel
theorem dX9_advance_24 : decode cX9_advance 24 = .ok (.getfield 16, 3) := by decide +kernel
theorem dX9_advance_27 : decode cX9_advance 27 = .ok (.invokevirtual 38, 3) := by decide +kernel
theorem dX9_advance_30 : decode cX9_advance 30 = .ok (.invokestatic 44, 3) := by decide +kernel
theorem dX9_advance_33 : decode cX9_advance 33 = .ok (.ifCond .eq 16, 3) := by decide +kernel
theorem dX9_advance_36 : decode cX9_advance 36 = .ok (.aload_n 0, 1) := by decide +kernel
theorem dX9_advance_37 : decode cX9_advance 37 = .ok (.dup, 1) := by decide +kernel
theorem dX9_advance_38 : decode cX9_advance 38 = .ok (.getfield 16, 3) := by decide +kernel
theorem dX9_advance_41 : decode cX9_advance 41 = .ok (.iconst 1, 1) := by decide +kernel
theorem dX9_advance_42 : decode cX9_advance 42 = .ok (.iadd, 1) := by decide +kernel
theorem dX9_advance_43 : decode cX9_advance 43 = .ok (.putfield 16, 3) := by decide +kernel
theorem dX9_advance_46 : decode cX9_advance 46 = .ok (.goto (-38), 3) := by decide +kernel
theorem dX9_advance_49 : decode cX9_advance 49 = .ok (.iconst 0, 1) := by decide +kernel
theorem dX9_advance_50 : decode cX9_advance 50 = .ok (.istore_n 1, 1) := by decide +kernel
theorem dX9_advance_51 : decode cX9_advance 51 = .ok (.iconst 0, 1) := by decide +kernel
theorem dX9_advance_52 : decode cX9_advance 52 = .ok (.istore_n 2, 1) := by decide +kernel
theorem dX9_advance_53 : decode cX9_advance 53 = .ok (.aload_n 0, 1) := by decide +kernel
theorem dX9_advance_54 : decode cX9_advance 54 = .ok (.iconst 0, 1) := by decide +kernel
theorem dX9_advance_55 : decode cX9_advance 55 = .ok (.putfield 22, 3) := by decide +kernel
theorem dX9_advance_58 : decode cX9_advance 58 = .ok (.aload_n 0, 1) := by decide +kernel
theorem dX9_advance_59 : decode cX9_advance 59 = .ok (.aload_n 0, 1) := by decide +kernel
theorem dX9_advance_60 : decode cX9_advance 60 = .ok (.getfield 16, 3) := by decide +kernel
theorem dX9_advance_63 : decode cX9_advance 63 = .ok (.putfield 19, 3) := by decide +kernel
theorem dX9_advance_66 : decode cX9_advance 66 = .ok (.aload_n 0, 1) := by decide +kernel
theorem dX9_advance_67 : decode cX9_advance 67 = .ok (.getfield 19, 3) := by decide +kernel
theorem dX9_advance_70 : decode cX9_advance 70 = .ok (.aload_n 0, 1) := by decide +kernel
theorem dX9_advance_71 : decode cX9_advance 71 = .ok (.getfield 31, 3) := by decide +kernel
theorem dX9_advance_74 : decode cX9_advance 74 = .ok (.getfield 48, 3) := by decide +kernel
theorem dX9_advance_77 : decode cX9_advance 77 = .ok (.if_icmp .ge 88, 3) := by decide +kernel
theorem dX9_advance_80 : decode cX9_advance 80 = .ok (.aload_n 0, 1) := by decide +kernel
theorem dX9_advance_81 : decode cX9_advance 81 = .ok (.getfield 31, 3) := by decide +kernel
theorem dX9_advance_84 : decode cX9_advance 84 = .ok (.aload_n 0, 1) := by decide +kernel
theorem dX9_advance_85 : decode cX9_advance 85 = .ok (.getfield 19, 3) := by decide +kernel
theorem dX9_advance_88 : decode cX9_advance 88 = .ok (.invokevirtual 38, 3) := by decide +kernel
theorem dX9_advance_91 : decode cX9_advance 91 = .ok (.invokestatic 51, 3) := by decide +kernel
theorem dX9_advance_94 : decode cX9_advance 94 = .ok (.ifCond .eq 71, 3) := by decide +kernel
theorem dX9_advance_97 : decode cX9_advance 97 = .ok (.aload_n 0, 1) := by decide +kernel
theorem dX9_advance_98 : decode cX9_advance 98 = .ok (.getfield 31, 3) := by decide +kernel
theorem dX9_advance_101 : decode cX9_advance 101 = .ok (.aload_n 0, 1) := by decide +kernel
theorem dX9_advance_102 : decode cX9_advance 102 = .ok (.getfield 19, 3) := by decide +kernel
theorem dX9_advance_105 : decode cX9_advance 105 = .ok (.invokevirtual 38, 3) := by decide +kernel
theorem dX9_advance_108 : decode cX9_advance 108 = .ok (.istore_n 3, 1) := by decide +kernel
theorem dX9_advance_109 : decode cX9_advance 109 = .ok (.iload_n 3, 1) := by decide +kernel
theorem dX9_advance_110 : decode cX9_advance 110 = .ok (.bipush 97, 2) := by decide +kernel
theorem dX9_advance_112 : decode cX9_advance 112 = .ok (.if_icmp .lt 9, 3) := by decide +kernel
theorem dX9_advance_115 : decode cX9_advance 115 = .ok (.iinc 1 1, 3) := by decide +kernel
theorem dX9_advance_118 : decode cX9_advance 118 = .ok (.goto 34, 3) := by decide +kernel
theorem dX9_advance_121 : decode cX9_advance 121 = .ok (.iinc 2 1, 3) := by decide +kernel
theorem dX9_advance_124 : decode cX9_advance 124 = .ok (.aload_n 0, 1) := by decide +kernel
theorem dX9_advance_125 : decode cX9_advance 125 = .ok (.iload_n 2, 1) := by decide +kernel
theorem dX9_advance_126 : decode cX9_advance 126 = .ok (.iconst 4, 1) := by decide +kernel
theorem dX9_advance_127 : decode cX9_advance 127 = .ok (.if_icmp .gt 18, 3) := by decide +kernel
theorem dX9_advance_130 : decode cX9_advance 130 = .ok (.aload_n 0, 1) := by decide +kernel
theorem dX9_advance_131 : decode cX9_advance 131 = .ok (.getfield 22, 3) := by decide +kernel
theorem dX9_advance_134 : decode cX9_advance 134 = .ok (.bipush 10, 2) := by decide +kernel
theorem dX9_advance_136 : decode cX9_advance 136 = .ok (.imul, 1) := by decide +kernel
theorem dX9_advance_137 : decode cX9_advance 137 = .ok (.iload_n 3, 1) := by decide +kernel
theorem dX9_advance_138 : decode cX9_advance 138 = .ok (.iadd, 1) := by decide +kernel
theorem dX9_advance_139 : decode cX9_advance 139 = .ok (.bipush 48, 2) := by decide +kernel
theorem dX9_advance_141 : decode cX9_advance 141 = .ok (.isub, 1) := by decide +kernel
theorem dX9_advance_142 : decode cX9_advance 142 = .ok (.goto 7, 3) := by decide +kernel
theorem dX9_advance_145 : decode cX9_advance 145 = .ok (.aload_n 0, 1) := by decide +kernel
theorem dX9_advance_146 : decode cX9_advance 146 = .ok (.getfield 22, 3) := by decide +kernel
theorem dX9_advance_149 : decode cX9_advance 149 = .ok (.putfield 22, 3) := by decide +kernel
theorem dX9_advance_152 : decode cX9_advance 152 = .ok (.aload_n 0, 1) := by decide +kernel
theorem dX9_advance_153 : decode cX9_advance 153 = .ok (.dup, 1) := by decide +kernel
theorem dX9_advance_154 : decode cX9_advance 154 = .ok (.getfield 19, 3) := by decide +kernel
theorem dX9_advance_157 : decode cX9_advance 157 = .ok (.iconst 1, 1) := by decide +kernel
theorem dX9_advance_158 : decode cX9_advance 158 = .ok (.iadd, 1) := by decide +kernel
theorem dX9_advance_159 : decode cX9_advance 159 = .ok (.putfield 19, 3) := by decide +kernel
theorem dX9_advance_162 : decode cX9_advance 162 = .ok (.goto (-96), 3) := by decide +kernel
theorem dX9_advance_165 : decode cX9_advance 165 = .ok (.aload_n 0, 1) := by decide +kernel
theorem dX9_advance_166 : decode cX9_advance 166 = .ok (.getfield 16, 3) := by decide +kernel
theorem dX9_advance_169 : decode cX9_advance 169 = .ok (.aload_n 0, 1) := by decide +kernel
theorem dX9_advance_170 : decode cX9_advance 170 = .ok (.getfield 7, 3) := by decide +kernel
theorem dX9_advance_173 : decode cX9_advance 173 = .ok (.if_icmp .lt 33, 3) := by decide +kernel
theorem dX9_advance_176 : decode cX9_advance 176 = .ok (.aload_n 0, 1) := by decide +kernel
theorem dX9_advance_177 : decode cX9_advance 177 = .ok (.getfield 31, 3) := by decide +kernel
theorem dX9_advance_180 : decode cX9_advance 180 = .ok (.getfield 48, 3) := by decide +kernel
theorem dX9_advance_183 : decode cX9_advance 183 = .ok (.aload_n 0, 1) := by decide +kernel
theorem dX9_advance_184 : decode cX9_advance 184 = .ok (.getfield 7, 3) := by decide +kernel
theorem dX9_advance_187 : decode cX9_advance 187 = .ok (.if_icmp .le 19, 3) := by decide +kernel
theorem dX9_advance_190 : decode cX9_advance 190 = .ok (.aload_n 0, 1) := by decide +kernel
theorem dX9_advance_191 : decode cX9_advance 191 = .ok (.aload_n 0, 1) := by decide +kernel
theorem dX9_advance_192 : decode cX9_advance 192 = .ok (.getfield 7, 3) := by decide +kernel
theorem dX9_advance_195 : decode cX9_advance 195 = .ok (.putfield 16, 3) := by decide +kernel
theorem dX9_advance_198 : decode cX9_advance 198 = .ok (.aload_n 0, 1) := by decide +kernel
theorem dX9_advance_199 : decode cX9_advance 199 = .ok (.iconst 4, 1) := by decide +kernel
theorem dX9_advance_200 : decode cX9_advance 200 = .ok (.putfield 13, 3) := by decide +kernel
theorem dX9_advance_203 : decode cX9_advance 203 = .ok (.goto 103, 3) := by decide +kernel
theorem dX9_advance_206 : decode cX9_advance 206 = .ok (.aload_n 0, 1) := by decide +kernel
theorem dX9_advance_207 : decode cX9_advance 207 = .ok (.getfield 16, 3) := by decide +kernel
theorem dX9_advance_210 : decode cX9_advance 210 = .ok (.aload_n 0, 1) := by decide +kernel
theorem dX9_advance_211 : decode cX9_advance 211 = .ok (.getfield 31, 3) := by decide +kernel
theorem dX9_advance_214 : decode cX9_advance 214 = .ok (.getfield 48, 3) := by decide +kernel
theorem dX9_advance_217 : decode cX9_advance 217 = .ok (.if_icmp .lt 22, 3) := by decide +kernel
theorem dX9_advance_220 : decode cX9_advance 220 = .ok (.aload_n 0, 1) := by decide +kernel
theorem dX9_advance_221 : decode cX9_advance 221 = .ok (.aload_n 0, 1) := by decide +kernel
theorem dX9_advance_222 : decode cX9_advance 222 = .ok (.getfield 31, 3) := by decide +kernel
theorem dX9_advance_225 : decode cX9_advance 225 = .ok (.getfield 48, 3) := by decide +kernel
theorem dX9_advance_228 : decode cX9_advance 228 = .ok (.putfield 16, 3) := by decide +kernel
theorem dX9_advance_231 : decode cX9_advance 231 = .ok (.aload_n 0, 1) := by decide +kernel
theorem dX9_advance_232 : decode cX9_advance 232 = .ok (.iconst 0, 1) := by decide +kernel
theorem dX9_advance_233 : decode cX9_advance 233 = .ok (.putfield 13, 3) := by decide +kernel
theorem dX9_advance_236 : decode cX9_advance 236 = .ok (.goto 70, 3) := by decide +kernel
theorem dX9_advance_239 : decode cX9_advance 239 = .ok (.aload_n 0, 1) := by decide +kernel
theorem dX9_advance_240 : decode cX9_advance 240 = .ok (.getfield 19, 3) := by decide +kernel
theorem dX9_advance_243 : decode cX9_advance 243 = .ok (.aload_n 0, 1) := by decide +kernel
theorem dX9_advance_244 : decode cX9_advance 244 = .ok (.getfield 16, 3) := by decide +kernel
theorem dX9_advance_247 : decode cX9_advance 247 = .ok (.if_icmp .le 15, 3) := by decide +kernel
theorem dX9_advance_250 : decode cX9_advance 250 = .ok (.aload_n 0, 1) := by decide +kernel
theorem dX9_advance_251 : decode cX9_advance 251 = .ok (.iload_n 1, 1) := by decide +kernel
theorem dX9_advance_252 : decode cX9_advance 252 = .ok (.iload_n 2, 1) := by decide +kernel
theorem dX9_advance_253 : decode cX9_advance 253 = .ok (.invokestatic 54, 3) := by decide +kernel
theorem dX9_advance_256 : decode cX9_advance 256 = .ok (.putfield 13, 3) := by decide +kernel
theorem dX9_advance_259 : decode cX9_advance 259 = .ok (.goto 47, 3) := by decide +kernel
theorem dX9_advance_262 : decode cX9_advance 262 = .ok (.aload_n 0, 1) := by decide +kernel
theorem dX9_advance_263 : decode cX9_advance 263 = .ok (.aload_n 0, 1) := by decide +kernel
theorem dX9_advance_264 : decode cX9_advance 264 = .ok (.getfield 31, 3) := by decide +kernel
theorem dX9_advance_267 : decode cX9_advance 267 = .ok (.aload_n 0, 1) := by decide +kernel
theorem dX9_advance_268 : decode cX9_advance 268 = .ok (.getfield 16, 3) := by decide +kernel
theorem dX9_advance_271 : decode cX9_advance 271 = .ok (.invokevirtual 38, 3) := by decide +kernel
theorem dX9_advance_274 : decode cX9_advance 274 = .ok (.putfield 22, 3) := by decide +kernel
theorem dX9_advance_277 : decode cX9_advance 277 = .ok (.aload_n 0, 1) := by decide +kernel
theorem dX9_advance_278 : decode cX9_advance 278 = .ok (.aload_n 0, 1) := by decide +kernel
theorem dX9_advance_279 : decode cX9_advance 279 = .ok (.getfield 22, 3) := by decide +kernel
theorem dX9_advance_282 : decode cX9_advance 282 = .ok (.invokestatic 58, 3) := by decide +kernel
theorem dX9_advance_285 : decode cX9_advance 285 = .ok (.ifCond .eq 7, 3) := by decide +kernel
theorem dX9_advance_288 : decode cX9_advance 288 = .ok (.iconst 3, 1) := by decide +kernel
theorem dX9_advance_289 : decode cX9_advance 289 = .ok (.goto 4, 3) := by decide +kernel
theorem dX9_advance_292 : decode cX9_advance 292 = .ok (.iconst 4, 1) := by decide +kernel
theorem dX9_advance_293 : decode cX9_advance 293 = .ok (.putfield 13, 3) := by decide +kernel
theorem dX9_advance_296 : decode cX9_advance 296 = .ok (.aload_n 0, 1) := by decide +kernel
theorem dX9_advance_297 : decode cX9_advance 297 = .ok (.aload_n 0, 1) := by decide +kernel
theorem dX9_advance_298 : decode cX9_advance 298 = .ok (.getfield 16, 3) := by decide +kernel
theorem dX9_advance_301 : decode cX9_advance 301 = .ok (.iconst 1, 1) := by decide +kernel
theorem dX9_advance_302 : decode cX9_advance 302 = .ok (.iadd, 1) := by decide +kernel
theorem dX9_advance_303 : decode cX9_advance 303 = .ok (.putfield 19, 3) := by decide +kernel
theorem dX9_advance_306 : decode cX9_advance 306 = .ok (.return_, 1) := by decide +kernel
theorem hcX9_advance : yX9_advance.cls ≠ "java/lang/invoke/MethodHandle" ∧ yX9_advance.cls ≠ "java/lang/invoke/VarHandle" ∧ (parseMethodDescriptor yX9_advance.desc).map (fun d => d.parameters.length) = some 0 := ⟨by decide +kernel, by decide +kernel, by decide +kernel⟩
def fX9_advance_L8  (k49 : sg_M → Prop) : Nat → sg_M → Prop
  | 0, _ => False
  | n_8 + 1, s_8 => (((s_8 3 1) ≤ (s_8 3 3) → k49 s_8) ∧ (¬ ((s_8 3 1) ≤ (s_8 3 3)) → fX8_byteAt s_8 (s_8 3 3) (fun u9 => fX9_isBlank u9 (fun u11 => ((u11 = 0 → k49 s_8) ∧ (¬ (u11 = 0) → sg_R ((s_8 3 3) + 1) ∧ ∀ s16 : sg_M, s16 = sg_up s_8 3 3 ((s_8 3 3) + 1) → (fX9_advance_L8  k49 n_8) s16))))))
def fX9_advance_j152  (k66 : sg_M → Int → Int → Prop) (s_152 : sg_M) (x1_152 : Int) (x2_152 : Int) : Prop := sg_R ((s_152 3 4) + 1) ∧ ∀ s41 : sg_M, s41 = sg_up s_152 3 4 ((s_152 3 4) + 1) → k66 s41 x1_152 x2_152
def fX9_advance_j149 (s_66 : sg_M) (x1_66 : Int) (x2_66 : Int) (k152 : sg_M → Int → Int → Prop) (y0_149 : Int) : Prop := ∀ s44 : sg_M, s44 = sg_up s_66 3 5 y0_149 → sg_R (x2_66 + 1) ∧ k152 s44 x1_66 (x2_66 + 1)
def fX9_advance_L66  (k165 : sg_M → Int → Int → Prop) : Nat → sg_M → Int → Int → Prop
  | 0, _, _, _ => False
  | n_66 + 1, s_66, x1_66, x2_66 => (((s_66 1 1) ≤ (s_66 3 4) → k165 s_66 x1_66 x2_66) ∧ (¬ ((s_66 1 1) ≤ (s_66 3 4)) → fX8_byteAt s_66 (s_66 3 4) (fun u30 => fX9_isOfRun u30 (fun u32 => ((u32 = 0 → k165 s_66 x1_66 x2_66) ∧ (¬ (u32 = 0) → fX8_byteAt s_66 (s_66 3 4) (fun u37 => ((u37 < 97 → sg_R (x2_66 + 1) ∧ ((4 < (x2_66 + 1) → (fX9_advance_j149 s_66 x1_66 x2_66 (fX9_advance_j152  (fX9_advance_L66  k165 n_66))) (s_66 3 5)) ∧ (¬ (4 < (x2_66 + 1)) → sg_R ((((s_66 3 5) * 10) + u37) - 48) ∧ (fX9_advance_j149 s_66 x1_66 x2_66 (fX9_advance_j152  (fX9_advance_L66  k165 n_66))) ((((s_66 3 5) * 10) + u37) - 48)))) ∧ (¬ (u37 < 97) → sg_R (x1_66 + 1) ∧ (fX9_advance_j152  (fX9_advance_L66  k165 n_66)) s_66 (x1_66 + 1) x2_66)))))))))
def fX9_advance_j206 (s_165e66 : sg_M) (x1_165e66 : Int) (x2_165e66 : Int) (Q : sg_M → Prop)  : Prop := (((s_165e66 3 3) < (s_165e66 1 1) → (((s_165e66 3 4) ≤ (s_165e66 3 3) → fX8_byteAt s_165e66 (s_165e66 3 3) (fun u65 => ∀ s67 : sg_M, s67 = sg_up s_165e66 3 5 u65 → fX9_isSignByte (s67 3 5) (fun u70 => ((u70 = 0 → ∀ s73 : sg_M, s73 = sg_up s67 3 2 4 → sg_R ((s73 3 3) + 1) ∧ ∀ s77 : sg_M, s77 = sg_up s73 3 4 ((s73 3 3) + 1) → Q s77) ∧ (¬ (u70 = 0) → ∀ s79 : sg_M, s79 = sg_up s67 3 2 3 → sg_R ((s79 3 3) + 1) ∧ ∀ s83 : sg_M, s83 = sg_up s79 3 4 ((s79 3 3) + 1) → Q s83))))) ∧ (¬ ((s_165e66 3 4) ≤ (s_165e66 3 3)) → fX9_kindOfRun x1_165e66 x2_165e66 (fun u85 => ∀ s87 : sg_M, s87 = sg_up s_165e66 3 2 u85 → Q s87)))) ∧ (¬ ((s_165e66 3 3) < (s_165e66 1 1)) → ∀ s91 : sg_M, s91 = sg_up s_165e66 3 3 (s_165e66 1 1) → ∀ s93 : sg_M, s93 = sg_up s91 3 2 0 → Q s93))
def fX9_advance (s0 : sg_M) (Q : sg_M → Prop) : Prop := ∀ s2 : sg_M, s2 = sg_up s0 3 3 (s0 3 4) → (∃ n18 : Nat, fX9_advance_L8  (fun s_49e8 => ∀ s19 : sg_M, s19 = sg_up s_49e8 3 5 0 → ∀ s22 : sg_M, s22 = sg_up s19 3 4 (s19 3 3) → (∃ n53 : Nat, fX9_advance_L66  (fun s_165e66 x1_165e66 x2_165e66 => (((s_165e66 3 3) < (s_165e66 3 1) → (fX9_advance_j206 s_165e66 x1_165e66 x2_165e66 Q)) ∧ (¬ ((s_165e66 3 3) < (s_165e66 3 1)) → (((s_165e66 1 1) ≤ (s_165e66 3 1) → (fX9_advance_j206 s_165e66 x1_165e66 x2_165e66 Q)) ∧ (¬ ((s_165e66 1 1) ≤ (s_165e66 3 1)) → ∀ s101 : sg_M, s101 = sg_up s_165e66 3 3 (s_165e66 3 1) → ∀ s103 : sg_M, s103 = sg_up s101 3 2 4 → Q s103))))) n53 s22 0 0)) n18 s2)
set_option maxHeartbeats 4000000 in
set_option maxRecDepth 100000 in
theorem CX9_advance {l : Launch} {G : sg_G} {La : sg_L} {s0 : sg_M} (hst : sg_St La) {Q : sg_M → Prop} (hf : fX9_advance s0 Q) : sg_C l G yX9_advance cX9_advance 4 (none) 2 0 0 La s0 [sg_r 3] (sg_HV La Q) := by
  refine sg_body (by decide +kernel) (Nat.le_of_ble_eq_true rfl) ?_
  intro p e s m args below meth c F hnm
  unfold fX9_advance at hf
  show sg_W p l e (sg_rm 2 0 0) s m args below meth c (MQ below (sg_Q (none) G La s.heap.size (sg_HV La Q)) args s 0 0 (sg_A La s.heap.size)) 4 G (sg_A La s.heap.size) La s0 0 0 0 [(0, sg_r 3)] []
  refine gw_aload_n F 0 rfl rfl (by decide) dX9_advance_0 ?_
  refine gw_aload_n F 0 rfl rfl (by decide) dX9_advance_1 ?_
  refine gw_get0 F (so_3 hst) (by decide) rfl sg_lay_RX9 (j := 4) (by decide) rfl (host := "") (.inl kw_142) dX9_advance_2 (fun h1 => ?_)
  obtain ⟨s2, e3⟩ : ∃ z : sg_M, z = sg_up s0 3 3 (s0 3 4) := ⟨_, rfl⟩
  have hf := hf s2 e3
  refine gw_put0 F (so_3 hst) (by decide) rfl sg_lay_RX9 (j := 3) (by decide) h1 e3 tyX9_ok nmX9 rfl (tyX9_ok 3 (by decide)) rfl (host := "") (.inl kw_141) dX9_advance_5 ?_
  have L8 : ∀ (k49 : sg_M → Prop) (hk49 : ∀ (s_49e8 : sg_M), k49 s_49e8 → sg_W p l e (sg_rm 2 0 0) s m args below meth c (MQ below (sg_Q (none) G La s.heap.size (sg_HV La Q)) args s 0 0 (sg_A La s.heap.size)) 4 G (sg_A La s.heap.size) La s_49e8 0 0 49 [(0, sg_r 3)] []), ∀ n_8 : Nat, ∀ (s_8 : sg_M), fX9_advance_L8  k49 n_8 s_8 → sg_W p l e (sg_rm 2 0 0) s m args below meth c (MQ below (sg_Q (none) G La s.heap.size (sg_HV La Q)) args s 0 0 (sg_A La s.heap.size)) 4 G (sg_A La s.heap.size) La s_8 0 0 8 [(0, sg_r 3)] [] := by
    intro k49 hk49 n_8
    induction n_8 with
    | zero => intro s_8 hf; exact hf.elim
    | succ n_8 ih =>
      intro s_8 hf
      unfold fX9_advance_L8 at hf
      refine gw_aload_n F 0 rfl rfl (by decide) dX9_advance_8 ?_
      refine gw_get0 F (so_3 hst) (by decide) rfl sg_lay_RX9 (j := 3) (by decide) rfl (host := "") (.inl kw_141) dX9_advance_9 (fun h4 => ?_)
      refine gw_aload_n F 0 rfl rfl (by decide) dX9_advance_12 ?_
      refine gw_get0 F (so_3 hst) (by decide) rfl sg_lay_RX9 (j := 1) (by decide) rfl (host := "") (.inl kw_139) dX9_advance_13 (fun h5 => ?_)
      refine gw_icmp_ge F (tgt := 49) dX9_advance_16 (by decide) h4 h5 (fun c6 => ?_) (fun c6 => ?_)
      · have hf := hf.1 c6
        refine gw_sub [0] rfl ?_
        exact hk49 s_8 hf
      · have hf := hf.2 c6
        refine gw_aload_n F 0 rfl rfl (by decide) dX9_advance_19 ?_
        refine gw_get7 F (so_3 hst) (by decide) rfl sg_lay_RX9 (j := 0) (by decide) (o1 := 1) (by first | rfl | omega) rfl (host := "") (.inl kw_138) dX9_advance_20 (fun h7 => ?_)
        refine gw_aload_n F 0 rfl rfl (by decide) dX9_advance_23 ?_
        refine gw_get0 F (so_3 hst) (by decide) rfl sg_lay_RX9 (j := 3) (by decide) rfl (host := "") (.inl kw_141) dX9_advance_24 (fun h8 => ?_)
        refine gk_PI F (gc_V F (S := []) (As := [sg_i (s_8 3 3)]) (T := TX8) (N := 2) (CX8_byteAt hst h8 hf) (so_1 hst) (by decide) rfl kw_372 kw_91 kw_369 kw_370 kw_371 hcX8_byteAt ⟨by decide, by decide⟩ rfl rfl (Nat.le_of_ble_eq_true rfl) ⟨by decide, by decide⟩ dX9_advance_27) (fun u9 h10 hf => ?_)
        refine gk_PZ F (gc_S F (S := []) (As := [sg_i u9]) (CX9_isBlank h10 hf) kw_375 kw_92 kw_373 kw_374 hcX9_isBlank ⟨by decide, by decide⟩ rfl rfl (Nat.le_of_ble_eq_true rfl) ⟨by decide, by decide⟩ dX9_advance_30) (fun u11 h12 hf => ?_)
        refine gw_if_eq F (tgt := 49) dX9_advance_33 (by decide) (sg_B_R h12) (fun c13 => ?_) (fun c13 => ?_)
        · have hf := hf.1 c13
          refine gw_sub [0] rfl ?_
          exact hk49 s_8 hf
        · have hf := hf.2 c13
          refine gw_aload_n F 0 rfl rfl (by decide) dX9_advance_36 ?_
          refine gw_dup F rfl dX9_advance_37 ?_
          refine gw_get0 F (so_3 hst) (by decide) rfl sg_lay_RX9 (j := 3) (by decide) rfl (host := "") (.inl kw_141) dX9_advance_38 (fun h14 => ?_)
          refine gw_iconst F dX9_advance_41 ?_
          refine gw_iadd F rfl dX9_advance_42 ?_
          obtain ⟨g15, hf⟩ := hf
          obtain ⟨s16, e17⟩ : ∃ z : sg_M, z = sg_up s_8 3 3 ((s_8 3 3) + 1) := ⟨_, rfl⟩
          have hf := hf s16 e17
          refine gw_put0 F (so_3 hst) (by decide) rfl sg_lay_RX9 (j := 3) (by decide) g15 e17 tyX9_ok nmX9 rfl (tyX9_ok 3 (by decide)) rfl (host := "") (.inl kw_141) dX9_advance_43 ?_
          refine gw_goto F (tgt := 8) dX9_advance_46 (by decide) ?_
          refine gw_sub [0] rfl ?_
          exact ih s16 hf
  obtain ⟨n18, hf⟩ := hf
  refine gw_sub [0] rfl ?_
  refine L8 _ (fun s_49e8 hf => ?_) n18 s2 hf
  refine gw_iconst F dX9_advance_49 ?_
  refine gw_istore_n F rfl (by decide) rfl dX9_advance_50 ?_
  refine gw_iconst F dX9_advance_51 ?_
  refine gw_istore_n F rfl (by decide) rfl dX9_advance_52 ?_
  refine gw_aload_n F 2 rfl rfl (by decide) dX9_advance_53 ?_
  refine gw_iconst F dX9_advance_54 ?_
  obtain ⟨s19, e20⟩ : ∃ z : sg_M, z = sg_up s_49e8 3 5 0 := ⟨_, rfl⟩
  have hf := hf s19 e20
  refine gw_put0 F (so_3 hst) (by decide) rfl sg_lay_RX9 (j := 5) (by decide) (by decide) e20 tyX9_ok nmX9 rfl (tyX9_ok 5 (by decide)) rfl (host := "") (.inl kw_143) dX9_advance_55 ?_
  refine gw_aload_n F 2 rfl rfl (by decide) dX9_advance_58 ?_
  refine gw_aload_n F 2 rfl rfl (by decide) dX9_advance_59 ?_
  refine gw_get0 F (so_3 hst) (by decide) rfl sg_lay_RX9 (j := 3) (by decide) rfl (host := "") (.inl kw_141) dX9_advance_60 (fun h21 => ?_)
  obtain ⟨s22, e23⟩ : ∃ z : sg_M, z = sg_up s19 3 4 (s19 3 3) := ⟨_, rfl⟩
  have hf := hf s22 e23
  refine gw_put0 F (so_3 hst) (by decide) rfl sg_lay_RX9 (j := 4) (by decide) h21 e23 tyX9_ok nmX9 rfl (tyX9_ok 4 (by decide)) rfl (host := "") (.inl kw_142) dX9_advance_63 ?_
  have L66 : ∀ (k165 : sg_M → Int → Int → Prop) (hk165 : ∀ (s_165e66 : sg_M) (x1_165e66 : Int) (x2_165e66 : Int), sg_R x1_165e66 → sg_R x2_165e66 → k165 s_165e66 x1_165e66 x2_165e66 → sg_W p l e (sg_rm 2 0 0) s m args below meth c (MQ below (sg_Q (none) G La s.heap.size (sg_HV La Q)) args s 0 0 (sg_A La s.heap.size)) 4 G (sg_A La s.heap.size) La s_165e66 0 0 165 [(0, sg_r 3), (1, sg_i x1_165e66), (2, sg_i x2_165e66)] []), ∀ n_66 : Nat, ∀ (s_66 : sg_M) (x1_66 : Int) (x2_66 : Int), sg_R x1_66 → sg_R x2_66 → fX9_advance_L66  k165 n_66 s_66 x1_66 x2_66 → sg_W p l e (sg_rm 2 0 0) s m args below meth c (MQ below (sg_Q (none) G La s.heap.size (sg_HV La Q)) args s 0 0 (sg_A La s.heap.size)) 4 G (sg_A La s.heap.size) La s_66 0 0 66 [(0, sg_r 3), (1, sg_i x1_66), (2, sg_i x2_66)] [] := by
    intro k165 hk165 n_66
    induction n_66 with
    | zero => intro s_66 x1_66 x2_66 r1_66 r2_66 hf; exact hf.elim
    | succ n_66 ih =>
      intro s_66 x1_66 x2_66 r1_66 r2_66 hf
      unfold fX9_advance_L66 at hf
      refine gw_aload_n F 0 rfl rfl (by decide) dX9_advance_66 ?_
      refine gw_get0 F (so_3 hst) (by decide) rfl sg_lay_RX9 (j := 4) (by decide) rfl (host := "") (.inl kw_142) dX9_advance_67 (fun h24 => ?_)
      refine gw_aload_n F 0 rfl rfl (by decide) dX9_advance_70 ?_
      refine gw_get7 F (so_3 hst) (by decide) rfl sg_lay_RX9 (j := 0) (by decide) (o1 := 1) (by first | rfl | omega) rfl (host := "") (.inl kw_138) dX9_advance_71 (fun h25 => ?_)
      refine gw_get0 F (so_1 hst) (by decide) rfl sg_lay_RX8 (j := 1) (by decide) rfl (.inr kw_130) dX9_advance_74 (fun h26 => ?_)
      refine gw_icmp_ge F (tgt := 165) dX9_advance_77 (by decide) h24 h26 (fun c27 => ?_) (fun c27 => ?_)
      · have hf := hf.1 c27
        refine gw_sub [0, 1, 2] rfl ?_
        exact hk165 s_66 x1_66 x2_66 r1_66 r2_66 hf
      · have hf := hf.2 c27
        refine gw_aload_n F 0 rfl rfl (by decide) dX9_advance_80 ?_
        refine gw_get7 F (so_3 hst) (by decide) rfl sg_lay_RX9 (j := 0) (by decide) (o1 := 1) (by first | rfl | omega) rfl (host := "") (.inl kw_138) dX9_advance_81 (fun h28 => ?_)
        refine gw_aload_n F 0 rfl rfl (by decide) dX9_advance_84 ?_
        refine gw_get0 F (so_3 hst) (by decide) rfl sg_lay_RX9 (j := 4) (by decide) rfl (host := "") (.inl kw_142) dX9_advance_85 (fun h29 => ?_)
        refine gk_PI F (gc_V F (S := []) (As := [sg_i (s_66 3 4)]) (T := TX8) (N := 2) (CX8_byteAt hst h29 hf) (so_1 hst) (by decide) rfl kw_372 kw_91 kw_369 kw_370 kw_371 hcX8_byteAt ⟨by decide, by decide⟩ rfl rfl (Nat.le_of_ble_eq_true rfl) ⟨by decide, by decide⟩ dX9_advance_88) (fun u30 h31 hf => ?_)
        refine gk_PZ F (gc_S F (S := []) (As := [sg_i u30]) (CX9_isOfRun h31 hf) kw_378 kw_92 kw_376 kw_377 hcX9_isOfRun ⟨by decide, by decide⟩ rfl rfl (Nat.le_of_ble_eq_true rfl) ⟨by decide, by decide⟩ dX9_advance_91) (fun u32 h33 hf => ?_)
        refine gw_if_eq F (tgt := 165) dX9_advance_94 (by decide) (sg_B_R h33) (fun c34 => ?_) (fun c34 => ?_)
        · have hf := hf.1 c34
          refine gw_sub [0, 1, 2] rfl ?_
          exact hk165 s_66 x1_66 x2_66 r1_66 r2_66 hf
        · have hf := hf.2 c34
          refine gw_aload_n F 0 rfl rfl (by decide) dX9_advance_97 ?_
          refine gw_get7 F (so_3 hst) (by decide) rfl sg_lay_RX9 (j := 0) (by decide) (o1 := 1) (by first | rfl | omega) rfl (host := "") (.inl kw_138) dX9_advance_98 (fun h35 => ?_)
          refine gw_aload_n F 0 rfl rfl (by decide) dX9_advance_101 ?_
          refine gw_get0 F (so_3 hst) (by decide) rfl sg_lay_RX9 (j := 4) (by decide) rfl (host := "") (.inl kw_142) dX9_advance_102 (fun h36 => ?_)
          refine gk_PI F (gc_V F (S := []) (As := [sg_i (s_66 3 4)]) (T := TX8) (N := 2) (CX8_byteAt hst h36 hf) (so_1 hst) (by decide) rfl kw_372 kw_91 kw_369 kw_370 kw_371 hcX8_byteAt ⟨by decide, by decide⟩ rfl rfl (Nat.le_of_ble_eq_true rfl) ⟨by decide, by decide⟩ dX9_advance_105) (fun u37 h38 hf => ?_)
          refine gw_istore_n F rfl (by decide) rfl dX9_advance_108 ?_
          refine gw_iload_n F 0 rfl rfl dX9_advance_109 ?_
          refine gw_bipush F rfl dX9_advance_110 ?_
          have J152 : ∀ (s_152 : sg_M) (x1_152 : Int) (x2_152 : Int), sg_R x1_152 → sg_R x2_152 → (fX9_advance_j152  (fX9_advance_L66  k165 n_66)) s_152 x1_152 x2_152 → sg_W p l e (sg_rm 2 0 0) s m args below meth c (MQ below (sg_Q (none) G La s.heap.size (sg_HV La Q)) args s 0 0 (sg_A La s.heap.size)) 4 G (sg_A La s.heap.size) La s_152 0 0 152 [(0, sg_r 3), (1, sg_i x1_152), (2, sg_i x2_152)] [] := by
            intro s_152 x1_152 x2_152 r1_152 r2_152 hf
            unfold fX9_advance_j152 at hf
            refine gw_aload_n F 0 rfl rfl (by decide) dX9_advance_152 ?_
            refine gw_dup F rfl dX9_advance_153 ?_
            refine gw_get0 F (so_3 hst) (by decide) rfl sg_lay_RX9 (j := 4) (by decide) rfl (host := "") (.inl kw_142) dX9_advance_154 (fun h39 => ?_)
            refine gw_iconst F dX9_advance_157 ?_
            refine gw_iadd F rfl dX9_advance_158 ?_
            obtain ⟨g40, hf⟩ := hf
            obtain ⟨s41, e42⟩ : ∃ z : sg_M, z = sg_up s_152 3 4 ((s_152 3 4) + 1) := ⟨_, rfl⟩
            have hf := hf s41 e42
            refine gw_put0 F (so_3 hst) (by decide) rfl sg_lay_RX9 (j := 4) (by decide) g40 e42 tyX9_ok nmX9 rfl (tyX9_ok 4 (by decide)) rfl (host := "") (.inl kw_142) dX9_advance_159 ?_
            refine gw_goto F (tgt := 66) dX9_advance_162 (by decide) ?_
            refine gw_sub [0, 1, 2] rfl ?_
            exact ih s41 x1_152 x2_152 r1_152 r2_152 hf
          refine gw_icmp_lt F (tgt := 121) dX9_advance_112 (by decide) h38 (by decide) (fun c43 => ?_) (fun c43 => ?_)
          · have hf := hf.1 c43
            refine gw_iinc F (z := (x2_66 + 1)) 3 rfl (by omega) (by decide) rfl dX9_advance_121 ?_
            refine gw_aload_n F 2 rfl rfl (by decide) dX9_advance_124 ?_
            refine gw_iload_n F 0 rfl rfl dX9_advance_125 ?_
            refine gw_iconst F dX9_advance_126 ?_
            have J149 : ∀ (y0_149 : Int), sg_R y0_149 → (fX9_advance_j149 s_66 x1_66 x2_66 (fX9_advance_j152  (fX9_advance_L66  k165 n_66))) y0_149 → sg_W p l e (sg_rm 2 0 0) s m args below meth c (MQ below (sg_Q (none) G La s.heap.size (sg_HV La Q)) args s 0 0 (sg_A La s.heap.size)) 4 G (sg_A La s.heap.size) La s_66 0 0 149 [(0, sg_r 3), (1, sg_i x1_66), (2, sg_i (x2_66 + 1))] [sg_i y0_149, sg_r 3] := by
              intro y0_149 ry0_149 hf
              unfold fX9_advance_j149 at hf
              obtain ⟨s44, e45⟩ : ∃ z : sg_M, z = sg_up s_66 3 5 y0_149 := ⟨_, rfl⟩
              have hf := hf s44 e45
              refine gw_put0 F (so_3 hst) (by decide) rfl sg_lay_RX9 (j := 5) (by decide) ry0_149 e45 tyX9_ok nmX9 rfl (tyX9_ok 5 (by decide)) rfl (host := "") (.inl kw_143) dX9_advance_149 ?_
              obtain ⟨g46, hf⟩ := hf
              refine gw_sub [0, 1, 2] rfl ?_
              exact J152 s44 x1_66 (x2_66 + 1) r1_66 g46 hf
            obtain ⟨g47, hf⟩ := hf
            refine gw_icmp_gt F (tgt := 145) dX9_advance_127 (by decide) g47 (by decide) (fun c48 => ?_) (fun c48 => ?_)
            · have hf := hf.1 c48
              refine gw_aload_n F 2 rfl rfl (by decide) dX9_advance_145 ?_
              refine gw_get0 F (so_3 hst) (by decide) rfl sg_lay_RX9 (j := 5) (by decide) rfl (host := "") (.inl kw_143) dX9_advance_146 (fun h49 => ?_)
              refine gw_sub [2, 3, 0] rfl ?_
              exact J149 (s_66 3 5) h49 hf
            · have hf := hf.2 c48
              refine gw_aload_n F 2 rfl rfl (by decide) dX9_advance_130 ?_
              refine gw_get0 F (so_3 hst) (by decide) rfl sg_lay_RX9 (j := 5) (by decide) rfl (host := "") (.inl kw_143) dX9_advance_131 (fun h50 => ?_)
              refine gw_bipush F rfl dX9_advance_134 ?_
              refine gw_imul F rfl dX9_advance_136 ?_
              refine gw_iload_n F 1 rfl rfl dX9_advance_137 ?_
              refine gw_iadd F rfl dX9_advance_138 ?_
              refine gw_bipush F rfl dX9_advance_139 ?_
              refine gw_isub F rfl dX9_advance_141 ?_
              refine gw_goto F (tgt := 149) dX9_advance_142 (by decide) ?_
              obtain ⟨g51, hf⟩ := hf
              refine gw_sub [2, 3, 0] rfl ?_
              exact J149 ((((s_66 3 5) * 10) + u37) - 48) g51 hf
          · have hf := hf.2 c43
            refine gw_iinc F (z := (x1_66 + 1)) 2 rfl (by omega) (by decide) rfl dX9_advance_115 ?_
            refine gw_goto F (tgt := 152) dX9_advance_118 (by decide) ?_
            obtain ⟨g52, hf⟩ := hf
            refine gw_sub [2, 0, 3] rfl ?_
            exact J152 s_66 (x1_66 + 1) x2_66 g52 r2_66 hf
  obtain ⟨n53, hf⟩ := hf
  refine gw_sub [2, 1, 0] rfl ?_
  refine L66 _ (fun s_165e66 x1_165e66 x2_165e66 r1_165e66 r2_165e66 hf => ?_) n53 s22 0 0 (by decide) (by decide) hf
  refine gw_aload_n F 0 rfl rfl (by decide) dX9_advance_165 ?_
  refine gw_get0 F (so_3 hst) (by decide) rfl sg_lay_RX9 (j := 3) (by decide) rfl (host := "") (.inl kw_141) dX9_advance_166 (fun h54 => ?_)
  refine gw_aload_n F 0 rfl rfl (by decide) dX9_advance_169 ?_
  refine gw_get0 F (so_3 hst) (by decide) rfl sg_lay_RX9 (j := 1) (by decide) rfl (host := "") (.inl kw_139) dX9_advance_170 (fun h55 => ?_)
  have J206 : (fX9_advance_j206 s_165e66 x1_165e66 x2_165e66 Q) → sg_W p l e (sg_rm 2 0 0) s m args below meth c (MQ below (sg_Q (none) G La s.heap.size (sg_HV La Q)) args s 0 0 (sg_A La s.heap.size)) 4 G (sg_A La s.heap.size) La s_165e66 0 0 206 [(0, sg_r 3), (1, sg_i x1_165e66), (2, sg_i x2_165e66)] [] := by
    intro hf
    unfold fX9_advance_j206 at hf
    refine gw_aload_n F 0 rfl rfl (by decide) dX9_advance_206 ?_
    refine gw_get0 F (so_3 hst) (by decide) rfl sg_lay_RX9 (j := 3) (by decide) rfl (host := "") (.inl kw_141) dX9_advance_207 (fun h56 => ?_)
    refine gw_aload_n F 0 rfl rfl (by decide) dX9_advance_210 ?_
    refine gw_get7 F (so_3 hst) (by decide) rfl sg_lay_RX9 (j := 0) (by decide) (o1 := 1) (by first | rfl | omega) rfl (host := "") (.inl kw_138) dX9_advance_211 (fun h57 => ?_)
    refine gw_get0 F (so_1 hst) (by decide) rfl sg_lay_RX8 (j := 1) (by decide) rfl (.inr kw_130) dX9_advance_214 (fun h58 => ?_)
    refine gw_icmp_lt F (tgt := 239) dX9_advance_217 (by decide) h56 h58 (fun c59 => ?_) (fun c59 => ?_)
    · have hf := hf.1 c59
      refine gw_aload_n F 0 rfl rfl (by decide) dX9_advance_239 ?_
      refine gw_get0 F (so_3 hst) (by decide) rfl sg_lay_RX9 (j := 4) (by decide) rfl (host := "") (.inl kw_142) dX9_advance_240 (fun h60 => ?_)
      refine gw_aload_n F 0 rfl rfl (by decide) dX9_advance_243 ?_
      refine gw_get0 F (so_3 hst) (by decide) rfl sg_lay_RX9 (j := 3) (by decide) rfl (host := "") (.inl kw_141) dX9_advance_244 (fun h61 => ?_)
      refine gw_icmp_le F (tgt := 262) dX9_advance_247 (by decide) h60 h61 (fun c62 => ?_) (fun c62 => ?_)
      · have hf := hf.1 c62
        refine gw_aload_n F 0 rfl rfl (by decide) dX9_advance_262 ?_
        refine gw_aload_n F 0 rfl rfl (by decide) dX9_advance_263 ?_
        refine gw_get7 F (so_3 hst) (by decide) rfl sg_lay_RX9 (j := 0) (by decide) (o1 := 1) (by first | rfl | omega) rfl (host := "") (.inl kw_138) dX9_advance_264 (fun h63 => ?_)
        refine gw_aload_n F 0 rfl rfl (by decide) dX9_advance_267 ?_
        refine gw_get0 F (so_3 hst) (by decide) rfl sg_lay_RX9 (j := 3) (by decide) rfl (host := "") (.inl kw_141) dX9_advance_268 (fun h64 => ?_)
        refine gk_PI F (gc_V F (S := [sg_r 3]) (As := [sg_i (s_165e66 3 3)]) (T := TX8) (N := 2) (CX8_byteAt hst h64 hf) (so_1 hst) (by decide) rfl kw_372 kw_91 kw_369 kw_370 kw_371 hcX8_byteAt ⟨by decide, by decide⟩ rfl rfl (Nat.le_of_ble_eq_true rfl) ⟨by decide, by decide⟩ dX9_advance_271) (fun u65 h66 hf => ?_)
        obtain ⟨s67, e68⟩ : ∃ z : sg_M, z = sg_up s_165e66 3 5 u65 := ⟨_, rfl⟩
        have hf := hf s67 e68
        refine gw_put0 F (so_3 hst) (by decide) rfl sg_lay_RX9 (j := 5) (by decide) h66 e68 tyX9_ok nmX9 rfl (tyX9_ok 5 (by decide)) rfl (host := "") (.inl kw_143) dX9_advance_274 ?_
        refine gw_aload_n F 0 rfl rfl (by decide) dX9_advance_277 ?_
        refine gw_aload_n F 0 rfl rfl (by decide) dX9_advance_278 ?_
        refine gw_get0 F (so_3 hst) (by decide) rfl sg_lay_RX9 (j := 5) (by decide) rfl (host := "") (.inl kw_143) dX9_advance_279 (fun h69 => ?_)
        refine gk_PZ F (gc_S F (S := [sg_r 3]) (As := [sg_i (s67 3 5)]) (CX9_isSignByte h69 hf) kw_384 kw_92 kw_382 kw_383 hcX9_isSignByte ⟨by decide, by decide⟩ rfl rfl (Nat.le_of_ble_eq_true rfl) ⟨by decide, by decide⟩ dX9_advance_282) (fun u70 h71 hf => ?_)
        refine gw_if_eq F (tgt := 292) dX9_advance_285 (by decide) (sg_B_R h71) (fun c72 => ?_) (fun c72 => ?_)
        · have hf := hf.1 c72
          refine gw_iconst F dX9_advance_292 ?_
          obtain ⟨s73, e74⟩ : ∃ z : sg_M, z = sg_up s67 3 2 4 := ⟨_, rfl⟩
          have hf := hf s73 e74
          refine gw_put0 F (so_3 hst) (by decide) rfl sg_lay_RX9 (j := 2) (by decide) (by decide) e74 tyX9_ok nmX9 rfl (tyX9_ok 2 (by decide)) rfl (host := "") (.inl kw_140) dX9_advance_293 ?_
          refine gw_aload_n F 0 rfl rfl (by decide) dX9_advance_296 ?_
          refine gw_aload_n F 0 rfl rfl (by decide) dX9_advance_297 ?_
          refine gw_get0 F (so_3 hst) (by decide) rfl sg_lay_RX9 (j := 3) (by decide) rfl (host := "") (.inl kw_141) dX9_advance_298 (fun h75 => ?_)
          refine gw_iconst F dX9_advance_301 ?_
          refine gw_iadd F rfl dX9_advance_302 ?_
          obtain ⟨g76, hf⟩ := hf
          obtain ⟨s77, e78⟩ : ∃ z : sg_M, z = sg_up s73 3 4 ((s73 3 3) + 1) := ⟨_, rfl⟩
          have hf := hf s77 e78
          refine gw_put0 F (so_3 hst) (by decide) rfl sg_lay_RX9 (j := 4) (by decide) g76 e78 tyX9_ok nmX9 rfl (tyX9_ok 4 (by decide)) rfl (host := "") (.inl kw_142) dX9_advance_303 ?_
          exact gr_HV F hf (by decide) (by decide) dX9_advance_306
        · have hf := hf.2 c72
          refine gw_iconst F dX9_advance_288 ?_
          refine gw_goto F (tgt := 293) dX9_advance_289 (by decide) ?_
          obtain ⟨s79, e80⟩ : ∃ z : sg_M, z = sg_up s67 3 2 3 := ⟨_, rfl⟩
          have hf := hf s79 e80
          refine gw_put0 F (so_3 hst) (by decide) rfl sg_lay_RX9 (j := 2) (by decide) (by decide) e80 tyX9_ok nmX9 rfl (tyX9_ok 2 (by decide)) rfl (host := "") (.inl kw_140) dX9_advance_293 ?_
          refine gw_aload_n F 0 rfl rfl (by decide) dX9_advance_296 ?_
          refine gw_aload_n F 0 rfl rfl (by decide) dX9_advance_297 ?_
          refine gw_get0 F (so_3 hst) (by decide) rfl sg_lay_RX9 (j := 3) (by decide) rfl (host := "") (.inl kw_141) dX9_advance_298 (fun h81 => ?_)
          refine gw_iconst F dX9_advance_301 ?_
          refine gw_iadd F rfl dX9_advance_302 ?_
          obtain ⟨g82, hf⟩ := hf
          obtain ⟨s83, e84⟩ : ∃ z : sg_M, z = sg_up s79 3 4 ((s79 3 3) + 1) := ⟨_, rfl⟩
          have hf := hf s83 e84
          refine gw_put0 F (so_3 hst) (by decide) rfl sg_lay_RX9 (j := 4) (by decide) g82 e84 tyX9_ok nmX9 rfl (tyX9_ok 4 (by decide)) rfl (host := "") (.inl kw_142) dX9_advance_303 ?_
          exact gr_HV F hf (by decide) (by decide) dX9_advance_306
      · have hf := hf.2 c62
        refine gw_aload_n F 0 rfl rfl (by decide) dX9_advance_250 ?_
        refine gw_iload_n F 1 rfl rfl dX9_advance_251 ?_
        refine gw_iload_n F 2 rfl rfl dX9_advance_252 ?_
        refine gk_PI F (gc_S F (S := [sg_r 3]) (As := [sg_i x1_165e66, sg_i x2_165e66]) (CX9_kindOfRun r1_165e66 r2_165e66 hf) kw_381 kw_92 kw_379 kw_380 hcX9_kindOfRun ⟨by decide, by decide⟩ rfl rfl (Nat.le_of_ble_eq_true rfl) ⟨by decide, by decide⟩ dX9_advance_253) (fun u85 h86 hf => ?_)
        obtain ⟨s87, e88⟩ : ∃ z : sg_M, z = sg_up s_165e66 3 2 u85 := ⟨_, rfl⟩
        have hf := hf s87 e88
        refine gw_put0 F (so_3 hst) (by decide) rfl sg_lay_RX9 (j := 2) (by decide) h86 e88 tyX9_ok nmX9 rfl (tyX9_ok 2 (by decide)) rfl (host := "") (.inl kw_140) dX9_advance_256 ?_
        refine gw_goto F (tgt := 306) dX9_advance_259 (by decide) ?_
        exact gr_HV F hf (by decide) (by decide) dX9_advance_306
    · have hf := hf.2 c59
      refine gw_aload_n F 0 rfl rfl (by decide) dX9_advance_220 ?_
      refine gw_aload_n F 0 rfl rfl (by decide) dX9_advance_221 ?_
      refine gw_get7 F (so_3 hst) (by decide) rfl sg_lay_RX9 (j := 0) (by decide) (o1 := 1) (by first | rfl | omega) rfl (host := "") (.inl kw_138) dX9_advance_222 (fun h89 => ?_)
      refine gw_get0 F (so_1 hst) (by decide) rfl sg_lay_RX8 (j := 1) (by decide) rfl (.inr kw_130) dX9_advance_225 (fun h90 => ?_)
      obtain ⟨s91, e92⟩ : ∃ z : sg_M, z = sg_up s_165e66 3 3 (s_165e66 1 1) := ⟨_, rfl⟩
      have hf := hf s91 e92
      refine gw_put0 F (so_3 hst) (by decide) rfl sg_lay_RX9 (j := 3) (by decide) h90 e92 tyX9_ok nmX9 rfl (tyX9_ok 3 (by decide)) rfl (host := "") (.inl kw_141) dX9_advance_228 ?_
      refine gw_aload_n F 0 rfl rfl (by decide) dX9_advance_231 ?_
      refine gw_iconst F dX9_advance_232 ?_
      obtain ⟨s93, e94⟩ : ∃ z : sg_M, z = sg_up s91 3 2 0 := ⟨_, rfl⟩
      have hf := hf s93 e94
      refine gw_put0 F (so_3 hst) (by decide) rfl sg_lay_RX9 (j := 2) (by decide) (by decide) e94 tyX9_ok nmX9 rfl (tyX9_ok 2 (by decide)) rfl (host := "") (.inl kw_140) dX9_advance_233 ?_
      refine gw_goto F (tgt := 306) dX9_advance_236 (by decide) ?_
      exact gr_HV F hf (by decide) (by decide) dX9_advance_306
  refine gw_icmp_lt F (tgt := 206) dX9_advance_173 (by decide) h54 h55 (fun c95 => ?_) (fun c95 => ?_)
  · have hf := hf.1 c95
    refine gw_sub [0, 1, 2] rfl ?_
    exact J206  hf
  · have hf := hf.2 c95
    refine gw_aload_n F 0 rfl rfl (by decide) dX9_advance_176 ?_
    refine gw_get7 F (so_3 hst) (by decide) rfl sg_lay_RX9 (j := 0) (by decide) (o1 := 1) (by first | rfl | omega) rfl (host := "") (.inl kw_138) dX9_advance_177 (fun h96 => ?_)
    refine gw_get0 F (so_1 hst) (by decide) rfl sg_lay_RX8 (j := 1) (by decide) rfl (.inr kw_130) dX9_advance_180 (fun h97 => ?_)
    refine gw_aload_n F 0 rfl rfl (by decide) dX9_advance_183 ?_
    refine gw_get0 F (so_3 hst) (by decide) rfl sg_lay_RX9 (j := 1) (by decide) rfl (host := "") (.inl kw_139) dX9_advance_184 (fun h98 => ?_)
    refine gw_icmp_le F (tgt := 206) dX9_advance_187 (by decide) h97 h98 (fun c99 => ?_) (fun c99 => ?_)
    · have hf := hf.1 c99
      refine gw_sub [0, 1, 2] rfl ?_
      exact J206  hf
    · have hf := hf.2 c99
      refine gw_aload_n F 0 rfl rfl (by decide) dX9_advance_190 ?_
      refine gw_aload_n F 0 rfl rfl (by decide) dX9_advance_191 ?_
      refine gw_get0 F (so_3 hst) (by decide) rfl sg_lay_RX9 (j := 1) (by decide) rfl (host := "") (.inl kw_139) dX9_advance_192 (fun h100 => ?_)
      obtain ⟨s101, e102⟩ : ∃ z : sg_M, z = sg_up s_165e66 3 3 (s_165e66 3 1) := ⟨_, rfl⟩
      have hf := hf s101 e102
      refine gw_put0 F (so_3 hst) (by decide) rfl sg_lay_RX9 (j := 3) (by decide) h100 e102 tyX9_ok nmX9 rfl (tyX9_ok 3 (by decide)) rfl (host := "") (.inl kw_141) dX9_advance_195 ?_
      refine gw_aload_n F 0 rfl rfl (by decide) dX9_advance_198 ?_
      refine gw_iconst F dX9_advance_199 ?_
      obtain ⟨s103, e104⟩ : ∃ z : sg_M, z = sg_up s101 3 2 4 := ⟨_, rfl⟩
      have hf := hf s103 e104
      refine gw_put0 F (so_3 hst) (by decide) rfl sg_lay_RX9 (j := 2) (by decide) (by decide) e104 tyX9_ok nmX9 rfl (tyX9_ok 2 (by decide)) rfl (host := "") (.inl kw_140) dX9_advance_200 ?_
      refine gw_goto F (tgt := 306) dX9_advance_203 (by decide) ?_
      exact gr_HV F hf (by decide) (by decide) dX9_advance_306

theorem dX9_fail_0 : decode cX9_fail 0 = .ok (.aload_n 0, 1) := by decide +kernel
theorem dX9_fail_1 : decode cX9_fail 1 = .ok (.getfield 25, 3) := by decide +kernel
theorem dX9_fail_4 : decode cX9_fail 4 = .ok (.ifCond .ne 16, 3) := by decide +kernel
theorem dX9_fail_7 : decode cX9_fail 7 = .ok (.aload_n 0, 1) := by decide +kernel
theorem dX9_fail_8 : decode cX9_fail 8 = .ok (.iload_n 1, 1) := by decide +kernel
theorem dX9_fail_9 : decode cX9_fail 9 = .ok (.putfield 25, 3) := by decide +kernel
theorem dX9_fail_12 : decode cX9_fail 12 = .ok (.aload_n 0, 1) := by decide +kernel
theorem dX9_fail_13 : decode cX9_fail 13 = .ok (.aload_n 0, 1) := by decide +kernel
theorem dX9_fail_14 : decode cX9_fail 14 = .ok (.getfield 16, 3) := by decide +kernel
theorem dX9_fail_17 : decode cX9_fail 17 = .ok (.putfield 28, 3) := by decide +kernel
theorem dX9_fail_20 : decode cX9_fail 20 = .ok (.return_, 1) := by decide +kernel
theorem hcX9_fail : yX9_fail.cls ≠ "java/lang/invoke/MethodHandle" ∧ yX9_fail.cls ≠ "java/lang/invoke/VarHandle" ∧ (parseMethodDescriptor yX9_fail.desc).map (fun d => d.parameters.length) = some 1 := ⟨by decide +kernel, by decide +kernel, by decide +kernel⟩
def fX9_fail (s0 : sg_M) (x1 : Int) (Q : sg_M → Prop) : Prop := (((s0 3 6) ≠ 0 → Q s0) ∧ ((s0 3 6) = 0 → ∀ s3 : sg_M, s3 = sg_up s0 3 6 x1 → ∀ s6 : sg_M, s6 = sg_up s3 3 7 (s3 3 3) → Q s6))
set_option maxHeartbeats 4000000 in
set_option maxRecDepth 100000 in
theorem CX9_fail {l : Launch} {G : sg_G} {La : sg_L} {s0 : sg_M} (hst : sg_St La) {x1 : Int} (r1 : sg_R x1) {Q : sg_M → Prop} (hf : fX9_fail s0 x1 Q) : sg_C l G yX9_fail cX9_fail 2 (none) 1 0 0 La s0 [sg_r 3, sg_i x1] (sg_HV La Q) := by
  refine sg_body (by decide +kernel) (Nat.le_of_ble_eq_true rfl) ?_
  intro p e s m args below meth c F hnm
  unfold fX9_fail at hf
  show sg_W p l e (sg_rm 1 0 0) s m args below meth c (MQ below (sg_Q (none) G La s.heap.size (sg_HV La Q)) args s 0 0 (sg_A La s.heap.size)) 2 G (sg_A La s.heap.size) La s0 0 0 0 [(0, sg_r 3), (1, sg_i x1)] []
  refine gw_aload_n F 0 rfl rfl (by decide) dX9_fail_0 ?_
  refine gw_get0 F (so_3 hst) (by decide) rfl sg_lay_RX9 (j := 6) (by decide) rfl (host := "") (.inl kw_144) dX9_fail_1 (fun h1 => ?_)
  refine gw_if_ne F (tgt := 20) dX9_fail_4 (by decide) h1 (fun c2 => ?_) (fun c2 => ?_)
  · have hf := hf.1 c2
    exact gr_HV F hf (by decide) (by decide) dX9_fail_20
  · have hf := hf.2 c2
    refine gw_aload_n F 0 rfl rfl (by decide) dX9_fail_7 ?_
    refine gw_iload_n F 1 rfl rfl dX9_fail_8 ?_
    obtain ⟨s3, e4⟩ : ∃ z : sg_M, z = sg_up s0 3 6 x1 := ⟨_, rfl⟩
    have hf := hf s3 e4
    refine gw_put0 F (so_3 hst) (by decide) rfl sg_lay_RX9 (j := 6) (by decide) r1 e4 tyX9_ok nmX9 rfl (tyX9_ok 6 (by decide)) rfl (host := "") (.inl kw_144) dX9_fail_9 ?_
    refine gw_aload_n F 0 rfl rfl (by decide) dX9_fail_12 ?_
    refine gw_aload_n F 0 rfl rfl (by decide) dX9_fail_13 ?_
    refine gw_get0 F (so_3 hst) (by decide) rfl sg_lay_RX9 (j := 3) (by decide) rfl (host := "") (.inl kw_141) dX9_fail_14 (fun h5 => ?_)
    obtain ⟨s6, e7⟩ : ∃ z : sg_M, z = sg_up s3 3 7 (s3 3 3) := ⟨_, rfl⟩
    have hf := hf s6 e7
    refine gw_put0 F (so_3 hst) (by decide) rfl sg_lay_RX9 (j := 7) (by decide) h5 e7 tyX9_ok nmX9 rfl (tyX9_ok 7 (by decide)) rfl (host := "") (.inl kw_148) dX9_fail_17 ?_
    exact gr_HV F hf (by decide) (by decide) dX9_fail_20

theorem dX9_comparison_0 : decode cX9_comparison 0 = .ok (.aload_n 0, 1) := by decide +kernel
theorem dX9_comparison_1 : decode cX9_comparison 1 = .ok (.getfield 22, 3) := by decide +kernel
theorem dX9_comparison_4 : decode cX9_comparison 4 = .ok (.istore_n 1, 1) := by decide +kernel
theorem dX9_comparison_5 : decode cX9_comparison 5 = .ok (.aload_n 0, 1) := by decide +kernel
theorem dX9_comparison_6 : decode cX9_comparison 6 = .ok (.getfield 13, 3) := by decide +kernel
theorem dX9_comparison_9 : decode cX9_comparison 9 = .ok (.iconst 3, 1) := by decide +kernel
theorem dX9_comparison_10 : decode cX9_comparison 10 = .ok (.if_icmp .ne 15, 3) := by decide +kernel
theorem dX9_comparison_13 : decode cX9_comparison 13 = .ok (.iload_n 1, 1) := by decide +kernel
theorem dX9_comparison_14 : decode cX9_comparison 14 = .ok (.bipush 60, 2) := by decide +kernel
theorem dX9_comparison_16 : decode cX9_comparison 16 = .ok (.if_icmp .lt 9, 3) := by decide +kernel
theorem dX9_comparison_19 : decode cX9_comparison 19 = .ok (.iload_n 1, 1) := by decide +kernel
theorem dX9_comparison_20 : decode cX9_comparison 20 = .ok (.bipush 62, 2) := by decide +kernel
theorem dX9_comparison_22 : decode cX9_comparison 22 = .ok (.if_icmp .le 8, 3) := by decide +kernel
theorem dX9_comparison_25 : decode cX9_comparison 25 = .ok (.aload_n 0, 1) := by decide +kernel
theorem dX9_comparison_26 : decode cX9_comparison 26 = .ok (.iconst 1, 1) := by decide +kernel
theorem dX9_comparison_27 : decode cX9_comparison 27 = .ok (.invokevirtual 81, 3) := by decide +kernel
theorem dX9_comparison_30 : decode cX9_comparison 30 = .ok (.aload_n 0, 1) := by decide +kernel
theorem dX9_comparison_31 : decode cX9_comparison 31 = .ok (.getfield 25, 3) := by decide +kernel
theorem dX9_comparison_34 : decode cX9_comparison 34 = .ok (.ifCond .eq 5, 3) := by decide +kernel
theorem dX9_comparison_37 : decode cX9_comparison 37 = .ok (.iconst 0, 1) := by decide +kernel
theorem dX9_comparison_38 : decode cX9_comparison 38 = .ok (.ireturn, 1) := by decide +kernel
theorem dX9_comparison_39 : decode cX9_comparison 39 = .ok (.aload_n 0, 1) := by decide +kernel
theorem dX9_comparison_40 : decode cX9_comparison 40 = .ok (.invokevirtual 35, 3) := by decide +kernel
theorem dX9_comparison_43 : decode cX9_comparison 43 = .ok (.iload_n 1, 1) := by decide +kernel
theorem dX9_comparison_44 : decode cX9_comparison 44 = .ok (.ireturn, 1) := by decide +kernel
theorem hcX9_comparison : yX9_comparison.cls ≠ "java/lang/invoke/MethodHandle" ∧ yX9_comparison.cls ≠ "java/lang/invoke/VarHandle" ∧ (parseMethodDescriptor yX9_comparison.desc).map (fun d => d.parameters.length) = some 0 := ⟨by decide +kernel, by decide +kernel, by decide +kernel⟩
def fX9_comparison_j30 (s0 : sg_M) (Q : Int → sg_M → Prop) (s_30 : sg_M) : Prop := (((s_30 3 6) = 0 → fX9_advance s_30 (fun s5 => Q (s0 3 5) s5)) ∧ (¬ ((s_30 3 6) = 0) → Q 0 s_30))
def fX9_comparison_j25 (s0 : sg_M) (k30 : sg_M → Prop)  : Prop := fX9_fail s0 1 (fun s6 => k30 s6)
def fX9_comparison (s0 : sg_M) (Q : Int → sg_M → Prop) : Prop := (((s0 3 2) ≠ 3 → (fX9_comparison_j25 s0 (fX9_comparison_j30 s0 Q))) ∧ ((s0 3 2) = 3 → (((s0 3 5) < 60 → (fX9_comparison_j25 s0 (fX9_comparison_j30 s0 Q))) ∧ (¬ ((s0 3 5) < 60) → (((s0 3 5) ≤ 62 → (fX9_comparison_j30 s0 Q) s0) ∧ (¬ ((s0 3 5) ≤ 62) → (fX9_comparison_j25 s0 (fX9_comparison_j30 s0 Q))))))))
set_option maxHeartbeats 4000000 in
set_option maxRecDepth 100000 in
theorem CX9_comparison {l : Launch} {G : sg_G} {La : sg_L} {s0 : sg_M} (hst : sg_St La) {Q : Int → sg_M → Prop} (hf : fX9_comparison s0 Q) : sg_C l G yX9_comparison cX9_comparison 2 (some .int) 3 0 0 La s0 [sg_r 3] (sg_HI La Q) := by
  refine sg_body (by decide +kernel) (Nat.le_of_ble_eq_true rfl) ?_
  intro p e s m args below meth c F hnm
  unfold fX9_comparison at hf
  show sg_W p l e (sg_rm 3 0 0) s m args below meth c (MQ below (sg_Q (some .int) G La s.heap.size (sg_HI La Q)) args s 0 0 (sg_A La s.heap.size)) 2 G (sg_A La s.heap.size) La s0 0 0 0 [(0, sg_r 3)] []
  refine gw_aload_n F 0 rfl rfl (by decide) dX9_comparison_0 ?_
  refine gw_get0 F (so_3 hst) (by decide) rfl sg_lay_RX9 (j := 5) (by decide) rfl (host := "") (.inl kw_143) dX9_comparison_1 (fun h1 => ?_)
  refine gw_istore_n F rfl (by decide) rfl dX9_comparison_4 ?_
  refine gw_aload_n F 1 rfl rfl (by decide) dX9_comparison_5 ?_
  refine gw_get0 F (so_3 hst) (by decide) rfl sg_lay_RX9 (j := 2) (by decide) rfl (host := "") (.inl kw_140) dX9_comparison_6 (fun h2 => ?_)
  refine gw_iconst F dX9_comparison_9 ?_
  have J30 : ∀ (s_30 : sg_M), (fX9_comparison_j30 s0 Q) s_30 → sg_W p l e (sg_rm 3 0 0) s m args below meth c (MQ below (sg_Q (some .int) G La s.heap.size (sg_HI La Q)) args s 0 0 (sg_A La s.heap.size)) 2 G (sg_A La s.heap.size) La s_30 0 0 30 [(0, sg_r 3), (1, sg_i (s0 3 5))] [] := by
    intro s_30 hf
    unfold fX9_comparison_j30 at hf
    refine gw_aload_n F 0 rfl rfl (by decide) dX9_comparison_30 ?_
    refine gw_get0 F (so_3 hst) (by decide) rfl sg_lay_RX9 (j := 6) (by decide) rfl (host := "") (.inl kw_144) dX9_comparison_31 (fun h3 => ?_)
    refine gw_if_eq F (tgt := 39) dX9_comparison_34 (by decide) h3 (fun c4 => ?_) (fun c4 => ?_)
    · have hf := hf.1 c4
      refine gw_aload_n F 0 rfl rfl (by decide) dX9_comparison_39 ?_
      refine gk_HV F (gc_V F (S := []) (As := []) (T := TX9) (N := 8) (CX9_advance hst hf) (so_3 hst) (by decide) rfl kw_368 kw_92 kw_365 kw_366 kw_367 hcX9_advance ⟨by decide, by decide⟩ rfl rfl (Nat.le_of_ble_eq_true rfl) ⟨by decide, by decide⟩ dX9_comparison_40) (fun s5 hf => ?_)
      refine gw_iload_n F 1 rfl rfl dX9_comparison_43 ?_
      exact gr_HI F h1 hf (by decide) (by decide) dX9_comparison_44
    · have hf := hf.2 c4
      refine gw_iconst F dX9_comparison_37 ?_
      exact gr_HI F (by decide) hf (by decide) (by decide) dX9_comparison_38
  have J25 : (fX9_comparison_j25 s0 (fX9_comparison_j30 s0 Q)) → sg_W p l e (sg_rm 3 0 0) s m args below meth c (MQ below (sg_Q (some .int) G La s.heap.size (sg_HI La Q)) args s 0 0 (sg_A La s.heap.size)) 2 G (sg_A La s.heap.size) La s0 0 0 25 [(0, sg_r 3), (1, sg_i (s0 3 5))] [] := by
    intro hf
    unfold fX9_comparison_j25 at hf
    refine gw_aload_n F 0 rfl rfl (by decide) dX9_comparison_25 ?_
    refine gw_iconst F dX9_comparison_26 ?_
    refine gk_HV F (gc_V F (S := []) (As := [sg_i 1]) (T := TX9) (N := 8) (CX9_fail hst (by decide) hf) (so_3 hst) (by decide) rfl kw_457 kw_92 kw_454 kw_455 kw_456 hcX9_fail ⟨by decide, by decide⟩ rfl rfl (Nat.le_of_ble_eq_true rfl) ⟨by decide, by decide⟩ dX9_comparison_27) (fun s6 hf => ?_)
    refine gw_sub [0, 1] rfl ?_
    exact J30 s6 hf
  refine gw_icmp_ne F (tgt := 25) dX9_comparison_10 (by decide) h2 (by decide) (fun c7 => ?_) (fun c7 => ?_)
  · have hf := hf.1 c7
    refine gw_sub [1, 0] rfl ?_
    exact J25  hf
  · have hf := hf.2 c7
    refine gw_iload_n F 0 rfl rfl dX9_comparison_13 ?_
    refine gw_bipush F rfl dX9_comparison_14 ?_
    refine gw_icmp_lt F (tgt := 25) dX9_comparison_16 (by decide) h1 (by decide) (fun c8 => ?_) (fun c8 => ?_)
    · have hf := hf.1 c8
      refine gw_sub [1, 0] rfl ?_
      exact J25  hf
    · have hf := hf.2 c8
      refine gw_iload_n F 0 rfl rfl dX9_comparison_19 ?_
      refine gw_bipush F rfl dX9_comparison_20 ?_
      refine gw_icmp_le F (tgt := 30) dX9_comparison_22 (by decide) h1 (by decide) (fun c9 => ?_) (fun c9 => ?_)
      · have hf := hf.1 c9
        refine gw_sub [1, 0] rfl ?_
        exact J30 s0 hf
      · have hf := hf.2 c9
        refine gw_sub [1, 0] rfl ?_
        exact J25  hf

theorem dX4_init_0 : decode cX4_init 0 = .ok (.aload_n 0, 1) := by decide +kernel
theorem dX4_init_1 : decode cX4_init 1 = .ok (.invokespecial 3, 3) := by decide +kernel
theorem dX4_init_4 : decode cX4_init 4 = .ok (.aload_n 0, 1) := by decide +kernel
theorem dX4_init_5 : decode cX4_init 5 = .ok (.iconst 0, 1) := by decide +kernel
theorem dX4_init_6 : decode cX4_init 6 = .ok (.putfield 9, 3) := by decide +kernel
theorem dX4_init_9 : decode cX4_init 9 = .ok (.aload_n 0, 1) := by decide +kernel
theorem dX4_init_10 : decode cX4_init 10 = .ok (.iconst 0, 1) := by decide +kernel
theorem dX4_init_11 : decode cX4_init 11 = .ok (.putfield 15, 3) := by decide +kernel
theorem dX4_init_14 : decode cX4_init 14 = .ok (.aload_n 0, 1) := by decide +kernel
theorem dX4_init_15 : decode cX4_init 15 = .ok (.iconst 0, 1) := by decide +kernel
theorem dX4_init_16 : decode cX4_init 16 = .ok (.iload_n 1, 1) := by decide +kernel
theorem dX4_init_17 : decode cX4_init 17 = .ok (.invokestatic 19, 3) := by decide +kernel
theorem dX4_init_20 : decode cX4_init 20 = .ok (.newarray .int, 2) := by decide +kernel
theorem dX4_init_22 : decode cX4_init 22 = .ok (.putfield 25, 3) := by decide +kernel
theorem dX4_init_25 : decode cX4_init 25 = .ok (.return_, 1) := by decide +kernel
theorem hcX4_init : yX4_init.cls ≠ "java/lang/invoke/MethodHandle" ∧ yX4_init.cls ≠ "java/lang/invoke/VarHandle" ∧ (parseMethodDescriptor yX4_init.desc).map (fun d => d.parameters.length) = some 1 := ⟨by decide +kernel, by decide +kernel, by decide +kernel⟩
def fX4_init (La : sg_L) (s0 : sg_M) (o : Int) (x1 : Int) (Q : sg_L → sg_M → Prop) : Prop := ∀ s1 : sg_M, s1 = sg_up s0 o 1 0 → ∀ s3 : sg_M, s3 = sg_up s1 o 2 0 → (0 ≤ (sg_max 0 x1) ∧ (sg_max 0 x1) ≤ 200) ∧ ∀ (q5 : Nat) (La6 : sg_L), La6 = sg_pu La (10000 + (Int.toNat (sg_max 0 x1))) q5 → ∀ s7 : sg_M, s7 = sg_nw s3 La.1 (10000 + (Int.toNat (sg_max 0 x1))) → ∀ o8 : Int, o8 = (La.1 : Int) → ∀ s19 : sg_M, s19 = sg_up s7 o 0 o8 → sg_sealed La6 s19 o 24 4 ∧ ∀ La21 : sg_L, La21 = sg_se La6 o.toNat 4 → Q La21 s19
set_option maxHeartbeats 4000000 in
set_option maxRecDepth 100000 in
theorem CX4_init {l : Launch} {G : sg_G} {La : sg_L} {s0 : sg_M} {o : Int} (to : sg_O La o 24) {x1 : Int} (r1 : sg_R x1) {Q : sg_L → sg_M → Prop} (hf : fX4_init La s0 o x1 Q) : sg_C l G yX4_init cX4_init 2 (none) 1 1 200 La s0 [sg_r o, sg_i x1] (sg_BV (sg_se La o.toNat 4) Q) := by
  refine sg_body (by decide +kernel) (Nat.le_of_ble_eq_true rfl) ?_
  intro p e s m args below meth c F hnm
  unfold fX4_init at hf
  show sg_W p l e (sg_rm 1 1 200) s m args below meth c (MQ below (sg_Q (none) G La s.heap.size (sg_BV (sg_se La o.toNat 4) Q)) args s 1 200 (sg_A La s.heap.size)) 2 G (sg_A La s.heap.size) La s0 0 0 0 [(0, sg_r o), (1, sg_i x1)] []
  have hin : meth.name = "<init>" := hnm
  refine gw_aload_n F 0 rfl rfl to.1 dX4_init_0 ?_
  refine gw_objInit F to.1 kw_195 kw_OI kw_OC (Nat.le_of_ble_eq_true rfl) (by decide) (by decide) dX4_init_1 ?_
  refine gw_aload_n F 0 rfl rfl to.1 dX4_init_4 ?_
  refine gw_iconst F dX4_init_5 ?_
  obtain ⟨s1, e2⟩ : ∃ z : sg_M, z = sg_up s0 o 1 0 := ⟨_, rfl⟩
  have hf := hf s1 e2
  refine gw_put0 F to (by decide) rfl sg_lay_RX4 (j := 1) (by decide) (by decide) e2 tyX4_ok nmX4 rfl (tyX4_ok 1 (by decide)) rfl (host := "") (.inl kw_200) dX4_init_6 ?_
  refine gw_aload_n F 0 rfl rfl to.1 dX4_init_9 ?_
  refine gw_iconst F dX4_init_10 ?_
  obtain ⟨s3, e4⟩ : ∃ z : sg_M, z = sg_up s1 o 2 0 := ⟨_, rfl⟩
  have hf := hf s3 e4
  refine gw_put1 F to (by decide) rfl sg_lay_RX4 (j := 2) (by decide) (by decide) e4 tyX4_ok nmX4 rfl (tyX4_ok 2 (by decide)) rfl (host := "") (.inl kw_205) dX4_init_11 ?_
  refine gw_aload_n F 0 rfl rfl to.1 dX4_init_14 ?_
  refine gw_iconst F dX4_init_15 ?_
  refine gw_iload_n F 1 rfl rfl dX4_init_16 ?_
  refine gw_max F (by decide) r1 rfl kw_196 kw_max1 kw_math kw_max2 (Nat.le_of_ble_eq_true rfl) (by decide) (by decide) (by decide) (by decide) dX4_init_17 ?_
  obtain ⟨⟨b140, b141⟩, hf⟩ := hf
  refine gy_newI F (N := (Int.toNat (sg_max 0 x1))) kw_131 (Int.toNat_of_nonneg b140) (by omega) (by decide) (by simp only [sg_rm]; omega) (List.forall_mem_cons.mpr ⟨(Or.inl to.2.1), (List.forall_mem_cons.mpr ⟨True.intro, (fun _ h => absurd h List.not_mem_nil)⟩)⟩) (List.forall_mem_cons.mpr ⟨(Or.inl to.2.1), (fun _ h => absurd h List.not_mem_nil)⟩) dX4_init_20 (fun q5 La6 s7 o8 e9 e10 e11 t12 hX13 => ?_)
  have hf := hf q5 La6 e9 s7 e10 o8 e11
  have hn15 : La.1 ≤ o8.toNat := by rw [e11, Int.toNat_natCast]; exact (sg_X.rf : sg_X La La).1
  have t16 := to.X hX13
  have hX17 := sg_X.tr (sg_X.rf) hX13
  refine gw_widen (k := (0 + 1)) (n := (0 + 200)) (Nat.le_refl _) (by omega) ?_
  have t18 := sg_AN_of (n := (sg_max 0 x1)) t12 (by omega) (by omega) (by omega)
  obtain ⟨s19, e20⟩ : ∃ z : sg_M, z = sg_up s7 o 0 o8 := ⟨_, rfl⟩
  have hf := hf s19 e20
  refine gw_put5F F t16 (by decide) rfl sg_lay_RX4 (j := 0) (by decide) (D0 := tyX4 0) (fun _ => ⟨rfl, rfl⟩) t18.1 t18.2.1 e20 tyX4_ok nmX4 rfl hin rfl (tyX4_ok 0 (by decide)) rfl (host := "") kw_199 dX4_init_22 ?_
  obtain ⟨g22, hf⟩ := hf
  obtain ⟨La21, e23⟩ : ∃ z : sg_L, z = sg_se La6 o.toNat 4 := ⟨_, rfl⟩
  have hf := hf La21 e23
  refine gw_seal t16 ⟨by decide, by decide, by decide⟩ (by decide) (by decide) g22.1 g22.2 ?_
  rw [← e23]
  exact gr_BC F (o := o.toNat) (kd := 4) hf (by rw [e23]; exact sg_X.both hX17) (by decide) (by decide) dX4_init_25

theorem dX0_init_0 : decode cX0_init 0 = .ok (.aload_n 0, 1) := by decide +kernel
theorem dX0_init_1 : decode cX0_init 1 = .ok (.invokespecial 3, 3) := by decide +kernel
theorem dX0_init_4 : decode cX0_init 4 = .ok (.aload_n 0, 1) := by decide +kernel
theorem dX0_init_5 : decode cX0_init 5 = .ok (.bipush 60, 2) := by decide +kernel
theorem dX0_init_7 : decode cX0_init 7 = .ok (.newarray .int, 2) := by decide +kernel
theorem dX0_init_9 : decode cX0_init 9 = .ok (.putfield 9, 3) := by decide +kernel
theorem dX0_init_12 : decode cX0_init 12 = .ok (.aload_n 0, 1) := by decide +kernel
theorem dX0_init_13 : decode cX0_init 13 = .ok (.bipush 60, 2) := by decide +kernel
theorem dX0_init_15 : decode cX0_init 15 = .ok (.newarray .int, 2) := by decide +kernel
theorem dX0_init_17 : decode cX0_init 17 = .ok (.putfield 15, 3) := by decide +kernel
theorem dX0_init_20 : decode cX0_init 20 = .ok (.aload_n 0, 1) := by decide +kernel
theorem dX0_init_21 : decode cX0_init 21 = .ok (.new 18, 3) := by decide +kernel
theorem dX0_init_24 : decode cX0_init 24 = .ok (.dup, 1) := by decide +kernel
theorem dX0_init_25 : decode cX0_init 25 = .ok (.bipush 60, 2) := by decide +kernel
theorem dX0_init_27 : decode cX0_init 27 = .ok (.invokespecial 20, 3) := by decide +kernel
theorem dX0_init_30 : decode cX0_init 30 = .ok (.putfield 23, 3) := by decide +kernel
theorem dX0_init_33 : decode cX0_init 33 = .ok (.aload_n 0, 1) := by decide +kernel
theorem dX0_init_34 : decode cX0_init 34 = .ok (.iconst 0, 1) := by decide +kernel
theorem dX0_init_35 : decode cX0_init 35 = .ok (.putfield 27, 3) := by decide +kernel
theorem dX0_init_38 : decode cX0_init 38 = .ok (.aload_n 0, 1) := by decide +kernel
theorem dX0_init_39 : decode cX0_init 39 = .ok (.iconst 0, 1) := by decide +kernel
theorem dX0_init_40 : decode cX0_init 40 = .ok (.putfield 31, 3) := by decide +kernel
theorem dX0_init_43 : decode cX0_init 43 = .ok (.aload_n 0, 1) := by decide +kernel
theorem dX0_init_44 : decode cX0_init 44 = .ok (.iconst (-1), 1) := by decide +kernel
theorem dX0_init_45 : decode cX0_init 45 = .ok (.putfield 34, 3) := by decide +kernel
theorem dX0_init_48 : decode cX0_init 48 = .ok (.aload_n 0, 1) := by decide +kernel
theorem dX0_init_49 : decode cX0_init 49 = .ok (.iconst 0, 1) := by decide +kernel
theorem dX0_init_50 : decode cX0_init 50 = .ok (.putfield 37, 3) := by decide +kernel
theorem dX0_init_53 : decode cX0_init 53 = .ok (.aload_n 0, 1) := by decide +kernel
theorem dX0_init_54 : decode cX0_init 54 = .ok (.iconst 0, 1) := by decide +kernel
theorem dX0_init_55 : decode cX0_init 55 = .ok (.putfield 40, 3) := by decide +kernel
theorem dX0_init_58 : decode cX0_init 58 = .ok (.aload_n 0, 1) := by decide +kernel
theorem dX0_init_59 : decode cX0_init 59 = .ok (.bipush 99, 2) := by decide +kernel
theorem dX0_init_61 : decode cX0_init 61 = .ok (.putfield 43, 3) := by decide +kernel
theorem dX0_init_64 : decode cX0_init 64 = .ok (.aload_n 0, 1) := by decide +kernel
theorem dX0_init_65 : decode cX0_init 65 = .ok (.iconst 0, 1) := by decide +kernel
theorem dX0_init_66 : decode cX0_init 66 = .ok (.putfield 46, 3) := by decide +kernel
theorem dX0_init_69 : decode cX0_init 69 = .ok (.aload_n 0, 1) := by decide +kernel
theorem dX0_init_70 : decode cX0_init 70 = .ok (.iconst 0, 1) := by decide +kernel
theorem dX0_init_71 : decode cX0_init 71 = .ok (.putfield 49, 3) := by decide +kernel
theorem dX0_init_74 : decode cX0_init 74 = .ok (.return_, 1) := by decide +kernel
theorem hcX0_init : yX0_init.cls ≠ "java/lang/invoke/MethodHandle" ∧ yX0_init.cls ≠ "java/lang/invoke/VarHandle" ∧ (parseMethodDescriptor yX0_init.desc).map (fun d => d.parameters.length) = some 0 := ⟨by decide +kernel, by decide +kernel, by decide +kernel⟩
def fX0_init (La : sg_L) (s0 : sg_M) (o : Int) (Q : sg_L → sg_M → Prop) : Prop := ∀ (q1 : Nat) (La2 : sg_L), La2 = sg_pu La 10060 q1 → ∀ s3 : sg_M, s3 = sg_nw s0 La.1 10060 → ∀ o4 : Int, o4 = (La.1 : Int) → ∀ s14 : sg_M, s14 = sg_up s3 o 0 o4 → ∀ (q16 : Nat) (La17 : sg_L), La17 = sg_pu La2 10060 q16 → ∀ s18 : sg_M, s18 = sg_nw s14 La2.1 10060 → ∀ o19 : Int, o19 = (La2.1 : Int) → ∀ s29 : sg_M, s29 = sg_up s18 o 1 o19 → ∀ (q31 : Nat) (La32 : sg_L), La32 = sg_pu La17 24 q31 → ∀ s33 : sg_M, s33 = sg_nw s29 La17.1 24 → ∀ o34 : Int, o34 = (La17.1 : Int) → fX4_init La32 s33 o34 60 (fun La43 s44 => ∀ s49 : sg_M, s49 = sg_up s44 o 2 o34 → ∀ s51 : sg_M, s51 = sg_up s49 o 3 0 → ∀ s53 : sg_M, s53 = sg_up s51 o 4 0 → ∀ s55 : sg_M, s55 = sg_up s53 o 5 (-1) → ∀ s57 : sg_M, s57 = sg_up s55 o 6 0 → ∀ s59 : sg_M, s59 = sg_up s57 o 7 0 → ∀ s61 : sg_M, s61 = sg_up s59 o 8 99 → ∀ s63 : sg_M, s63 = sg_up s61 o 9 0 → ∀ s65 : sg_M, s65 = sg_up s63 o 10 0 → sg_sealed La43 s65 o 20 0 ∧ ∀ La67 : sg_L, La67 = sg_se La43 o.toNat 0 → Q La67 s65)
set_option maxHeartbeats 4000000 in
set_option maxRecDepth 100000 in
theorem CX0_init {l : Launch} {G : sg_G} {La : sg_L} {s0 : sg_M} {o : Int} (to : sg_O La o 20) {Q : sg_L → sg_M → Prop} (hf : fX0_init La s0 o Q) : sg_C l G yX0_init cX0_init 1 (none) 2 4 323 La s0 [sg_r o] (sg_BV (sg_se La o.toNat 0) Q) := by
  refine sg_body (by decide +kernel) (Nat.le_of_ble_eq_true rfl) ?_
  intro p e s m args below meth c F hnm
  unfold fX0_init at hf
  show sg_W p l e (sg_rm 2 4 323) s m args below meth c (MQ below (sg_Q (none) G La s.heap.size (sg_BV (sg_se La o.toNat 0) Q)) args s 4 323 (sg_A La s.heap.size)) 1 G (sg_A La s.heap.size) La s0 0 0 0 [(0, sg_r o)] []
  have hin : meth.name = "<init>" := hnm
  refine gw_aload_n F 0 rfl rfl to.1 dX0_init_0 ?_
  refine gw_objInit F to.1 kw_249 kw_OI kw_OC (Nat.le_of_ble_eq_true rfl) (by decide) (by decide) dX0_init_1 ?_
  refine gw_aload_n F 0 rfl rfl to.1 dX0_init_4 ?_
  refine gw_bipush F rfl dX0_init_5 ?_
  refine gy_newI F (N := 60) kw_131 rfl (by decide) (by decide) (by decide) (List.forall_mem_cons.mpr ⟨(Or.inl to.2.1), (fun _ h => absurd h List.not_mem_nil)⟩) (List.forall_mem_cons.mpr ⟨(Or.inl to.2.1), (fun _ h => absurd h List.not_mem_nil)⟩) dX0_init_7 (fun q1 La2 s3 o4 e5 e6 e7 t8 hX9 => ?_)
  have hf := hf q1 La2 e5 s3 e6 o4 e7
  have hn10 : La.1 ≤ o4.toNat := by rw [e7, Int.toNat_natCast]; exact (sg_X.rf : sg_X La La).1
  have t11 := to.X hX9
  have hX12 := sg_X.tr (sg_X.rf) hX9
  have t13 := sg_AN_of (n := 60) t8 (by decide) (by decide) (by decide)
  obtain ⟨s14, e15⟩ : ∃ z : sg_M, z = sg_up s3 o 0 o4 := ⟨_, rfl⟩
  have hf := hf s14 e15
  refine gw_put5F F t11 (by decide) rfl sg_lay_RX0 (j := 0) (by decide) (D0 := tyX0 0) (fun _ => ⟨rfl, rfl⟩) t13.1 t13.2.1 e15 tyX0_ok nmX0 rfl hin rfl (tyX0_ok 0 (by decide)) rfl (host := "") kw_252 dX0_init_9 ?_
  refine gw_aload_n F 0 rfl rfl t11.1 dX0_init_12 ?_
  refine gw_bipush F rfl dX0_init_13 ?_
  refine gy_newI F (N := 60) kw_131 rfl (by decide) (by decide) (by decide) (List.forall_mem_cons.mpr ⟨(Or.inl t11.2.1), (fun _ h => absurd h List.not_mem_nil)⟩) (List.forall_mem_cons.mpr ⟨(Or.inl t11.2.1), (fun _ h => absurd h List.not_mem_nil)⟩) dX0_init_15 (fun q16 La17 s18 o19 e20 e21 e22 t23 hX24 => ?_)
  have hf := hf q16 La17 e20 s18 e21 o19 e22
  have hn25 : La.1 ≤ o19.toNat := by rw [e22, Int.toNat_natCast]; exact (hX12 : sg_X La La2).1
  have t26 := t11.X hX24
  have hX27 := sg_X.tr (hX12) hX24
  have t28 := sg_AN_of (n := 60) t23 (by decide) (by decide) (by decide)
  obtain ⟨s29, e30⟩ : ∃ z : sg_M, z = sg_up s18 o 1 o19 := ⟨_, rfl⟩
  have hf := hf s29 e30
  refine gw_put5F F t26 (by decide) rfl sg_lay_RX0 (j := 1) (by decide) (D0 := tyX0 1) (fun _ => ⟨rfl, rfl⟩) t28.1 t28.2.1 e30 tyX0_ok nmX0 rfl hin rfl (tyX0_ok 1 (by decide)) rfl (host := "") kw_253 dX0_init_17 ?_
  refine gw_aload_n F 0 rfl rfl t26.1 dX0_init_20 ?_
  refine gy_new F (kd := 24) (T := TX4) (by decide) rfl sg_lay_RX4 tyX4_ok kw_250 kw_191 kw_97 ns_X4 nf_X4 nr_X4 (by decide) (by decide) (List.forall_mem_cons.mpr ⟨(Or.inl t26.2.1), (fun _ h => absurd h List.not_mem_nil)⟩) (List.forall_mem_cons.mpr ⟨(Or.inl t26.2.1), (fun _ h => absurd h List.not_mem_nil)⟩) dX0_init_21 (fun q31 La32 s33 o34 e35 e36 e37 t38 hX39 => ?_)
  have hf := hf q31 La32 e35 s33 e36 o34 e37
  have hn40 : La.1 ≤ o34.toNat := by rw [e37, Int.toNat_natCast]; exact (hX27 : sg_X La La17).1
  have t41 := t26.X hX39
  have hX42 := sg_X.tr (hX27) hX39
  refine gw_dup F rfl dX0_init_24 ?_
  refine gw_bipush F rfl dX0_init_25 ?_
  refine gk_BV F (gc_I F (S := [sg_r o34, sg_r o]) (As := [sg_i 60]) (CX4_init t38 (by decide) hf) t38.1 kw_194 kw_97 kw_251 kw_193 rfl hcX4_init ⟨by decide, by decide⟩ rfl rfl (Nat.le_of_ble_eq_true rfl) ⟨by decide, by decide⟩ dX0_init_27) (List.forall_mem_cons.mpr ⟨(Or.inl t41.2.1), (fun _ h => absurd h List.not_mem_nil)⟩) (List.forall_mem_cons.mpr ⟨(Or.inl t38.2.1), (List.forall_mem_cons.mpr ⟨(Or.inl t41.2.1), (fun _ h => absurd h List.not_mem_nil)⟩)⟩) (fun La43 s44 hX45 hf => ?_)
  have t46 := (sg_O_sx t41 t38 (by decide)).X hX45
  have t47 := (sg_O_sealed t38).X hX45
  have hX48 := (sg_X_sx (hX42) hn40).tr hX45
  obtain ⟨s49, e50⟩ : ∃ z : sg_M, z = sg_up s44 o 2 o34 := ⟨_, rfl⟩
  have hf := hf s49 e50
  refine gw_put5F F t46 (by decide) rfl sg_lay_RX0 (j := 2) (by decide) (D0 := tyX0 2) (fun _ => ⟨rfl, rfl⟩) t47.1 t47.2.1 e50 tyX0_ok nmX0 rfl hin rfl (tyX0_ok 2 (by decide)) rfl (host := "") kw_254 dX0_init_30 ?_
  refine gw_aload_n F 0 rfl rfl t46.1 dX0_init_33 ?_
  refine gw_iconst F dX0_init_34 ?_
  obtain ⟨s51, e52⟩ : ∃ z : sg_M, z = sg_up s49 o 3 0 := ⟨_, rfl⟩
  have hf := hf s51 e52
  refine gw_put0 F t46 (by decide) rfl sg_lay_RX0 (j := 3) (by decide) (by decide) e52 tyX0_ok nmX0 rfl (tyX0_ok 3 (by decide)) rfl (host := "") (.inl kw_257) dX0_init_35 ?_
  refine gw_aload_n F 0 rfl rfl t46.1 dX0_init_38 ?_
  refine gw_iconst F dX0_init_39 ?_
  obtain ⟨s53, e54⟩ : ∃ z : sg_M, z = sg_up s51 o 4 0 := ⟨_, rfl⟩
  have hf := hf s53 e54
  refine gw_put0 F t46 (by decide) rfl sg_lay_RX0 (j := 4) (by decide) (by decide) e54 tyX0_ok nmX0 rfl (tyX0_ok 4 (by decide)) rfl (host := "") (.inl kw_258) dX0_init_40 ?_
  refine gw_aload_n F 0 rfl rfl t46.1 dX0_init_43 ?_
  refine gw_iconst F dX0_init_44 ?_
  obtain ⟨s55, e56⟩ : ∃ z : sg_M, z = sg_up s53 o 5 (-1) := ⟨_, rfl⟩
  have hf := hf s55 e56
  refine gw_put0 F t46 (by decide) rfl sg_lay_RX0 (j := 5) (by decide) (by decide) e56 tyX0_ok nmX0 rfl (tyX0_ok 5 (by decide)) rfl (host := "") (.inl kw_259) dX0_init_45 ?_
  refine gw_aload_n F 0 rfl rfl t46.1 dX0_init_48 ?_
  refine gw_iconst F dX0_init_49 ?_
  obtain ⟨s57, e58⟩ : ∃ z : sg_M, z = sg_up s55 o 6 0 := ⟨_, rfl⟩
  have hf := hf s57 e58
  refine gw_put0 F t46 (by decide) rfl sg_lay_RX0 (j := 6) (by decide) (by decide) e58 tyX0_ok nmX0 rfl (tyX0_ok 6 (by decide)) rfl (host := "") (.inl kw_262) dX0_init_50 ?_
  refine gw_aload_n F 0 rfl rfl t46.1 dX0_init_53 ?_
  refine gw_iconst F dX0_init_54 ?_
  obtain ⟨s59, e60⟩ : ∃ z : sg_M, z = sg_up s57 o 7 0 := ⟨_, rfl⟩
  have hf := hf s59 e60
  refine gw_put0 F t46 (by decide) rfl sg_lay_RX0 (j := 7) (by decide) (by decide) e60 tyX0_ok nmX0 rfl (tyX0_ok 7 (by decide)) rfl (host := "") (.inl kw_264) dX0_init_55 ?_
  refine gw_aload_n F 0 rfl rfl t46.1 dX0_init_58 ?_
  refine gw_bipush F rfl dX0_init_59 ?_
  obtain ⟨s61, e62⟩ : ∃ z : sg_M, z = sg_up s59 o 8 99 := ⟨_, rfl⟩
  have hf := hf s61 e62
  refine gw_put0 F t46 (by decide) rfl sg_lay_RX0 (j := 8) (by decide) (by decide) e62 tyX0_ok nmX0 rfl (tyX0_ok 8 (by decide)) rfl (host := "") (.inl kw_267) dX0_init_61 ?_
  refine gw_aload_n F 0 rfl rfl t46.1 dX0_init_64 ?_
  refine gw_iconst F dX0_init_65 ?_
  obtain ⟨s63, e64⟩ : ∃ z : sg_M, z = sg_up s61 o 9 0 := ⟨_, rfl⟩
  have hf := hf s63 e64
  refine gw_put0 F t46 (by decide) rfl sg_lay_RX0 (j := 9) (by decide) (by decide) e64 tyX0_ok nmX0 rfl (tyX0_ok 9 (by decide)) rfl (host := "") (.inl kw_270) dX0_init_66 ?_
  refine gw_aload_n F 0 rfl rfl t46.1 dX0_init_69 ?_
  refine gw_iconst F dX0_init_70 ?_
  obtain ⟨s65, e66⟩ : ∃ z : sg_M, z = sg_up s63 o 10 0 := ⟨_, rfl⟩
  have hf := hf s65 e66
  refine gw_put1 F t46 (by decide) rfl sg_lay_RX0 (j := 10) (by decide) (by decide) e66 tyX0_ok nmX0 rfl (tyX0_ok 10 (by decide)) rfl (host := "") (.inl kw_273) dX0_init_71 ?_
  obtain ⟨g68, hf⟩ := hf
  obtain ⟨La67, e69⟩ : ∃ z : sg_L, z = sg_se La43 o.toNat 0 := ⟨_, rfl⟩
  have hf := hf La67 e69
  refine gw_seal t46 ⟨by decide, by decide, by decide⟩ (by decide) (by decide) g68.1 g68.2 ?_
  rw [← e69]
  exact gr_BC F (o := o.toNat) (kd := 0) hf (by rw [e69]; exact sg_X.both hX48) (by decide) (by decide) dX0_init_74

theorem dX9_number_0 : decode cX9_number 0 = .ok (.aload_n 0, 1) := by decide +kernel
theorem dX9_number_1 : decode cX9_number 1 = .ok (.getfield 13, 3) := by decide +kernel
theorem dX9_number_4 : decode cX9_number 4 = .ok (.iconst 2, 1) := by decide +kernel
theorem dX9_number_5 : decode cX9_number 5 = .ok (.if_icmp .eq 11, 3) := by decide +kernel
theorem dX9_number_8 : decode cX9_number 8 = .ok (.aload_n 0, 1) := by decide +kernel
theorem dX9_number_9 : decode cX9_number 9 = .ok (.iconst 1, 1) := by decide +kernel
theorem dX9_number_10 : decode cX9_number 10 = .ok (.invokevirtual 81, 3) := by decide +kernel
theorem dX9_number_13 : decode cX9_number 13 = .ok (.goto 40, 3) := by decide +kernel
theorem dX9_number_16 : decode cX9_number 16 = .ok (.aload_n 0, 1) := by decide +kernel
theorem dX9_number_17 : decode cX9_number 17 = .ok (.getfield 22, 3) := by decide +kernel
theorem dX9_number_20 : decode cX9_number 20 = .ok (.iload_n 1, 1) := by decide +kernel
theorem dX9_number_21 : decode cX9_number 21 = .ok (.if_icmp .lt 11, 3) := by decide +kernel
theorem dX9_number_24 : decode cX9_number 24 = .ok (.aload_n 0, 1) := by decide +kernel
theorem dX9_number_25 : decode cX9_number 25 = .ok (.getfield 22, 3) := by decide +kernel
theorem dX9_number_28 : decode cX9_number 28 = .ok (.iload_n 2, 1) := by decide +kernel
theorem dX9_number_29 : decode cX9_number 29 = .ok (.if_icmp .le 11, 3) := by decide +kernel
theorem dX9_number_32 : decode cX9_number 32 = .ok (.aload_n 0, 1) := by decide +kernel
theorem dX9_number_33 : decode cX9_number 33 = .ok (.iconst 2, 1) := by decide +kernel
theorem dX9_number_34 : decode cX9_number 34 = .ok (.invokevirtual 81, 3) := by decide +kernel
theorem dX9_number_37 : decode cX9_number 37 = .ok (.goto 16, 3) := by decide +kernel
theorem dX9_number_40 : decode cX9_number 40 = .ok (.aload_n 0, 1) := by decide +kernel
theorem dX9_number_41 : decode cX9_number 41 = .ok (.getfield 22, 3) := by decide +kernel
theorem dX9_number_44 : decode cX9_number 44 = .ok (.iload_n 3, 1) := by decide +kernel
theorem dX9_number_45 : decode cX9_number 45 = .ok (.if_icmp .le 8, 3) := by decide +kernel
theorem dX9_number_48 : decode cX9_number 48 = .ok (.aload_n 0, 1) := by decide +kernel
theorem dX9_number_49 : decode cX9_number 49 = .ok (.iconst 4, 1) := by decide +kernel
theorem dX9_number_50 : decode cX9_number 50 = .ok (.invokevirtual 81, 3) := by decide +kernel
theorem dX9_number_53 : decode cX9_number 53 = .ok (.aload_n 0, 1) := by decide +kernel
theorem dX9_number_54 : decode cX9_number 54 = .ok (.getfield 25, 3) := by decide +kernel
theorem dX9_number_57 : decode cX9_number 57 = .ok (.ifCond .eq 5, 3) := by decide +kernel
theorem dX9_number_60 : decode cX9_number 60 = .ok (.iconst 0, 1) := by decide +kernel
theorem dX9_number_61 : decode cX9_number 61 = .ok (.ireturn, 1) := by decide +kernel
theorem dX9_number_62 : decode cX9_number 62 = .ok (.aload_n 0, 1) := by decide +kernel
theorem dX9_number_63 : decode cX9_number 63 = .ok (.getfield 22, 3) := by decide +kernel
theorem dX9_number_66 : decode cX9_number 66 = .ok (.istore 4, 2) := by decide +kernel
theorem dX9_number_68 : decode cX9_number 68 = .ok (.aload_n 0, 1) := by decide +kernel
theorem dX9_number_69 : decode cX9_number 69 = .ok (.invokevirtual 35, 3) := by decide +kernel
theorem dX9_number_72 : decode cX9_number 72 = .ok (.iload 4, 2) := by decide +kernel
theorem dX9_number_74 : decode cX9_number 74 = .ok (.ireturn, 1) := by decide +kernel
theorem hcX9_number : yX9_number.cls ≠ "java/lang/invoke/MethodHandle" ∧ yX9_number.cls ≠ "java/lang/invoke/VarHandle" ∧ (parseMethodDescriptor yX9_number.desc).map (fun d => d.parameters.length) = some 3 := ⟨by decide +kernel, by decide +kernel, by decide +kernel⟩
def fX9_number_j53  (Q : Int → sg_M → Prop) (s_53 : sg_M) : Prop := (((s_53 3 6) = 0 → fX9_advance s_53 (fun s5 => Q (s_53 3 5) s5)) ∧ (¬ ((s_53 3 6) = 0) → Q 0 s_53))
def fX9_number_j32 (s0 : sg_M) (k53 : sg_M → Prop)  : Prop := fX9_fail s0 2 (fun s8 => k53 s8)
def fX9_number (s0 : sg_M) (x1 : Int) (x2 : Int) (x3 : Int) (Q : Int → sg_M → Prop) : Prop := (((s0 3 2) = 2 → (((s0 3 5) < x1 → (fX9_number_j32 s0 (fX9_number_j53  Q))) ∧ (¬ ((s0 3 5) < x1) → (((s0 3 5) ≤ x2 → (((s0 3 5) ≤ x3 → (fX9_number_j53  Q) s0) ∧ (¬ ((s0 3 5) ≤ x3) → fX9_fail s0 4 (fun s14 => (fX9_number_j53  Q) s14)))) ∧ (¬ ((s0 3 5) ≤ x2) → (fX9_number_j32 s0 (fX9_number_j53  Q))))))) ∧ (¬ ((s0 3 2) = 2) → fX9_fail s0 1 (fun s15 => (fX9_number_j53  Q) s15)))
set_option maxHeartbeats 4000000 in
set_option maxRecDepth 100000 in
theorem CX9_number {l : Launch} {G : sg_G} {La : sg_L} {s0 : sg_M} (hst : sg_St La) {x1 : Int} (r1 : sg_R x1) {x2 : Int} (r2 : sg_R x2) {x3 : Int} (r3 : sg_R x3) {Q : Int → sg_M → Prop} (hf : fX9_number s0 x1 x2 x3 Q) : sg_C l G yX9_number cX9_number 5 (some .int) 3 0 0 La s0 [sg_r 3, sg_i x1, sg_i x2, sg_i x3] (sg_HI La Q) := by
  refine sg_body (by decide +kernel) (Nat.le_of_ble_eq_true rfl) ?_
  intro p e s m args below meth c F hnm
  unfold fX9_number at hf
  show sg_W p l e (sg_rm 3 0 0) s m args below meth c (MQ below (sg_Q (some .int) G La s.heap.size (sg_HI La Q)) args s 0 0 (sg_A La s.heap.size)) 5 G (sg_A La s.heap.size) La s0 0 0 0 [(0, sg_r 3), (1, sg_i x1), (2, sg_i x2), (3, sg_i x3)] []
  refine gw_aload_n F 0 rfl rfl (by decide) dX9_number_0 ?_
  refine gw_get0 F (so_3 hst) (by decide) rfl sg_lay_RX9 (j := 2) (by decide) rfl (host := "") (.inl kw_140) dX9_number_1 (fun h1 => ?_)
  refine gw_iconst F dX9_number_4 ?_
  have J53 : ∀ (s_53 : sg_M), (fX9_number_j53  Q) s_53 → sg_W p l e (sg_rm 3 0 0) s m args below meth c (MQ below (sg_Q (some .int) G La s.heap.size (sg_HI La Q)) args s 0 0 (sg_A La s.heap.size)) 5 G (sg_A La s.heap.size) La s_53 0 0 53 [(0, sg_r 3)] [] := by
    intro s_53 hf
    unfold fX9_number_j53 at hf
    refine gw_aload_n F 0 rfl rfl (by decide) dX9_number_53 ?_
    refine gw_get0 F (so_3 hst) (by decide) rfl sg_lay_RX9 (j := 6) (by decide) rfl (host := "") (.inl kw_144) dX9_number_54 (fun h2 => ?_)
    refine gw_if_eq F (tgt := 62) dX9_number_57 (by decide) h2 (fun c3 => ?_) (fun c3 => ?_)
    · have hf := hf.1 c3
      refine gw_aload_n F 0 rfl rfl (by decide) dX9_number_62 ?_
      refine gw_get0 F (so_3 hst) (by decide) rfl sg_lay_RX9 (j := 5) (by decide) rfl (host := "") (.inl kw_143) dX9_number_63 (fun h4 => ?_)
      refine gw_istore F (by decide) rfl dX9_number_66 ?_
      refine gw_aload_n F 1 rfl rfl (by decide) dX9_number_68 ?_
      refine gk_HV F (gc_V F (S := []) (As := []) (T := TX9) (N := 8) (CX9_advance hst hf) (so_3 hst) (by decide) rfl kw_368 kw_92 kw_365 kw_366 kw_367 hcX9_advance ⟨by decide, by decide⟩ rfl rfl (Nat.le_of_ble_eq_true rfl) ⟨by decide, by decide⟩ dX9_number_69) (fun s5 hf => ?_)
      refine gw_iload F 0 rfl dX9_number_72 ?_
      exact gr_HI F h4 hf (by decide) (by decide) dX9_number_74
    · have hf := hf.2 c3
      refine gw_iconst F dX9_number_60 ?_
      exact gr_HI F (by decide) hf (by decide) (by decide) dX9_number_61
  refine gw_icmp_eq F (tgt := 16) dX9_number_5 (by decide) h1 (by decide) (fun c6 => ?_) (fun c6 => ?_)
  · have hf := hf.1 c6
    refine gw_aload_n F 0 rfl rfl (by decide) dX9_number_16 ?_
    refine gw_get0 F (so_3 hst) (by decide) rfl sg_lay_RX9 (j := 5) (by decide) rfl (host := "") (.inl kw_143) dX9_number_17 (fun h7 => ?_)
    refine gw_iload_n F 1 rfl rfl dX9_number_20 ?_
    have J32 : (fX9_number_j32 s0 (fX9_number_j53  Q)) → sg_W p l e (sg_rm 3 0 0) s m args below meth c (MQ below (sg_Q (some .int) G La s.heap.size (sg_HI La Q)) args s 0 0 (sg_A La s.heap.size)) 5 G (sg_A La s.heap.size) La s0 0 0 32 [(0, sg_r 3)] [] := by
      intro hf
      unfold fX9_number_j32 at hf
      refine gw_aload_n F 0 rfl rfl (by decide) dX9_number_32 ?_
      refine gw_iconst F dX9_number_33 ?_
      refine gk_HV F (gc_V F (S := []) (As := [sg_i 2]) (T := TX9) (N := 8) (CX9_fail hst (by decide) hf) (so_3 hst) (by decide) rfl kw_457 kw_92 kw_454 kw_455 kw_456 hcX9_fail ⟨by decide, by decide⟩ rfl rfl (Nat.le_of_ble_eq_true rfl) ⟨by decide, by decide⟩ dX9_number_34) (fun s8 hf => ?_)
      refine gw_goto F (tgt := 53) dX9_number_37 (by decide) ?_
      refine gw_sub [0] rfl ?_
      exact J53 s8 hf
    refine gw_icmp_lt F (tgt := 32) dX9_number_21 (by decide) h7 r1 (fun c9 => ?_) (fun c9 => ?_)
    · have hf := hf.1 c9
      refine gw_sub [0] rfl ?_
      exact J32  hf
    · have hf := hf.2 c9
      refine gw_aload_n F 0 rfl rfl (by decide) dX9_number_24 ?_
      refine gw_get0 F (so_3 hst) (by decide) rfl sg_lay_RX9 (j := 5) (by decide) rfl (host := "") (.inl kw_143) dX9_number_25 (fun h10 => ?_)
      refine gw_iload_n F 2 rfl rfl dX9_number_28 ?_
      refine gw_icmp_le F (tgt := 40) dX9_number_29 (by decide) h10 r2 (fun c11 => ?_) (fun c11 => ?_)
      · have hf := hf.1 c11
        refine gw_aload_n F 0 rfl rfl (by decide) dX9_number_40 ?_
        refine gw_get0 F (so_3 hst) (by decide) rfl sg_lay_RX9 (j := 5) (by decide) rfl (host := "") (.inl kw_143) dX9_number_41 (fun h12 => ?_)
        refine gw_iload_n F 3 rfl rfl dX9_number_44 ?_
        refine gw_icmp_le F (tgt := 53) dX9_number_45 (by decide) h12 r3 (fun c13 => ?_) (fun c13 => ?_)
        · have hf := hf.1 c13
          refine gw_sub [0] rfl ?_
          exact J53 s0 hf
        · have hf := hf.2 c13
          refine gw_aload_n F 0 rfl rfl (by decide) dX9_number_48 ?_
          refine gw_iconst F dX9_number_49 ?_
          refine gk_HV F (gc_V F (S := []) (As := [sg_i 4]) (T := TX9) (N := 8) (CX9_fail hst (by decide) hf) (so_3 hst) (by decide) rfl kw_457 kw_92 kw_454 kw_455 kw_456 hcX9_fail ⟨by decide, by decide⟩ rfl rfl (Nat.le_of_ble_eq_true rfl) ⟨by decide, by decide⟩ dX9_number_50) (fun s14 hf => ?_)
          refine gw_sub [0] rfl ?_
          exact J53 s14 hf
      · have hf := hf.2 c11
        refine gw_sub [0] rfl ?_
        exact J32  hf
  · have hf := hf.2 c6
    refine gw_aload_n F 0 rfl rfl (by decide) dX9_number_8 ?_
    refine gw_iconst F dX9_number_9 ?_
    refine gk_HV F (gc_V F (S := []) (As := [sg_i 1]) (T := TX9) (N := 8) (CX9_fail hst (by decide) hf) (so_3 hst) (by decide) rfl kw_457 kw_92 kw_454 kw_455 kw_456 hcX9_fail ⟨by decide, by decide⟩ rfl rfl (Nat.le_of_ble_eq_true rfl) ⟨by decide, by decide⟩ dX9_number_10) (fun s15 hf => ?_)
    refine gw_goto F (tgt := 53) dX9_number_13 (by decide) ?_
    refine gw_sub [0] rfl ?_
    exact J53 s15 hf

theorem dX9_isGoingOn_0 : decode cX9_isGoingOn 0 = .ok (.aload_n 0, 1) := by decide +kernel
theorem dX9_isGoingOn_1 : decode cX9_isGoingOn 1 = .ok (.getfield 25, 3) := by decide +kernel
theorem dX9_isGoingOn_4 : decode cX9_isGoingOn 4 = .ok (.ifCond .ne 14, 3) := by decide +kernel
theorem dX9_isGoingOn_7 : decode cX9_isGoingOn 7 = .ok (.aload_n 0, 1) := by decide +kernel
theorem dX9_isGoingOn_8 : decode cX9_isGoingOn 8 = .ok (.getfield 13, 3) := by decide +kernel
theorem dX9_isGoingOn_11 : decode cX9_isGoingOn 11 = .ok (.ifCond .eq 7, 3) := by decide +kernel
theorem dX9_isGoingOn_14 : decode cX9_isGoingOn 14 = .ok (.iconst 1, 1) := by decide +kernel
theorem dX9_isGoingOn_15 : decode cX9_isGoingOn 15 = .ok (.goto 4, 3) := by decide +kernel
theorem dX9_isGoingOn_18 : decode cX9_isGoingOn 18 = .ok (.iconst 0, 1) := by decide +kernel
theorem dX9_isGoingOn_19 : decode cX9_isGoingOn 19 = .ok (.ireturn, 1) := by decide +kernel
theorem hcX9_isGoingOn : yX9_isGoingOn.cls ≠ "java/lang/invoke/MethodHandle" ∧ yX9_isGoingOn.cls ≠ "java/lang/invoke/VarHandle" ∧ (parseMethodDescriptor yX9_isGoingOn.desc).map (fun d => d.parameters.length) = some 0 := ⟨by decide +kernel, by decide +kernel, by decide +kernel⟩
def fX9_isGoingOn (s0 : sg_M) (Q : Int → Prop) : Prop := (((s0 3 6) ≠ 0 → Q 0) ∧ ((s0 3 6) = 0 → (((s0 3 2) = 0 → Q 0) ∧ (¬ ((s0 3 2) = 0) → Q 1))))
set_option maxHeartbeats 4000000 in
set_option maxRecDepth 100000 in
theorem CX9_isGoingOn {l : Launch} {G : sg_G} {La : sg_L} {s0 : sg_M} (hst : sg_St La) {Q : Int → Prop} (hf : fX9_isGoingOn s0 Q) : sg_C l G yX9_isGoingOn cX9_isGoingOn 1 (some .boolean) 1 0 0 La s0 [sg_r 3] (sg_PZ La s0 Q) := by
  refine sg_body (by decide +kernel) (Nat.le_of_ble_eq_true rfl) ?_
  intro p e s m args below meth c F hnm
  unfold fX9_isGoingOn at hf
  show sg_W p l e (sg_rm 1 0 0) s m args below meth c (MQ below (sg_Q (some .boolean) G La s.heap.size (sg_PZ La s0 Q)) args s 0 0 (sg_A La s.heap.size)) 1 G (sg_A La s.heap.size) La s0 0 0 0 [(0, sg_r 3)] []
  refine gw_aload_n F 0 rfl rfl (by decide) dX9_isGoingOn_0 ?_
  refine gw_get0 F (so_3 hst) (by decide) rfl sg_lay_RX9 (j := 6) (by decide) rfl (host := "") (.inl kw_144) dX9_isGoingOn_1 (fun h1 => ?_)
  refine gw_if_ne F (tgt := 18) dX9_isGoingOn_4 (by decide) h1 (fun c2 => ?_) (fun c2 => ?_)
  · have hf := hf.1 c2
    refine gw_iconst F dX9_isGoingOn_18 ?_
    exact gr_PZ F (by decide) hf (by decide) (by decide) dX9_isGoingOn_19
  · have hf := hf.2 c2
    refine gw_aload_n F 0 rfl rfl (by decide) dX9_isGoingOn_7 ?_
    refine gw_get0 F (so_3 hst) (by decide) rfl sg_lay_RX9 (j := 2) (by decide) rfl (host := "") (.inl kw_140) dX9_isGoingOn_8 (fun h3 => ?_)
    refine gw_if_eq F (tgt := 18) dX9_isGoingOn_11 (by decide) h3 (fun c4 => ?_) (fun c4 => ?_)
    · have hf := hf.1 c4
      refine gw_iconst F dX9_isGoingOn_18 ?_
      exact gr_PZ F (by decide) hf (by decide) (by decide) dX9_isGoingOn_19
    · have hf := hf.2 c4
      refine gw_iconst F dX9_isGoingOn_14 ?_
      refine gw_goto F (tgt := 19) dX9_isGoingOn_15 (by decide) ?_
      exact gr_PZ F (by decide) hf (by decide) (by decide) dX9_isGoingOn_19

theorem dX11_isNear_0 : decode cX11_isNear 0 = .ok (.iload_n 0, 1) := by decide +kernel
theorem dX11_isNear_1 : decode cX11_isNear 1 = .ok (.ifCond .le 17, 3) := by decide +kernel
theorem dX11_isNear_4 : decode cX11_isNear 4 = .ok (.iload_n 0, 1) := by decide +kernel
theorem dX11_isNear_5 : decode cX11_isNear 5 = .ok (.iload_n 1, 1) := by decide +kernel
theorem dX11_isNear_6 : decode cX11_isNear 6 = .ok (.isub, 1) := by decide +kernel
theorem dX11_isNear_7 : decode cX11_isNear 7 = .ok (.invokestatic 286, 3) := by decide +kernel
theorem dX11_isNear_10 : decode cX11_isNear 10 = .ok (.iload_n 2, 1) := by decide +kernel
theorem dX11_isNear_11 : decode cX11_isNear 11 = .ok (.if_icmp .gt 7, 3) := by decide +kernel
theorem dX11_isNear_14 : decode cX11_isNear 14 = .ok (.iconst 1, 1) := by decide +kernel
theorem dX11_isNear_15 : decode cX11_isNear 15 = .ok (.goto 4, 3) := by decide +kernel
theorem dX11_isNear_18 : decode cX11_isNear 18 = .ok (.iconst 0, 1) := by decide +kernel
theorem dX11_isNear_19 : decode cX11_isNear 19 = .ok (.ireturn, 1) := by decide +kernel
theorem hcX11_isNear : yX11_isNear.cls ≠ "java/lang/invoke/MethodHandle" ∧ yX11_isNear.cls ≠ "java/lang/invoke/VarHandle" ∧ (parseMethodDescriptor yX11_isNear.desc).map (fun d => d.parameters.length) = some 3 := ⟨by decide +kernel, by decide +kernel, by decide +kernel⟩
def fX11_isNear (x0 : Int) (x1 : Int) (x2 : Int) (Q : Int → Prop) : Prop := ((x0 ≤ 0 → Q 0) ∧ (¬ (x0 ≤ 0) → sg_R (x0 - x1) ∧ sg_R (sg_abs (x0 - x1)) ∧ ((x2 < (sg_abs (x0 - x1)) → Q 0) ∧ (¬ (x2 < (sg_abs (x0 - x1))) → Q 1))))
set_option maxHeartbeats 4000000 in
set_option maxRecDepth 100000 in
theorem CX11_isNear {l : Launch} {G : sg_G} {La : sg_L} {s0 : sg_M} {x0 : Int} (r0 : sg_R x0) {x1 : Int} (r1 : sg_R x1) {x2 : Int} (r2 : sg_R x2) {Q : Int → Prop} (hf : fX11_isNear x0 x1 x2 Q) : sg_C l G yX11_isNear cX11_isNear 3 (some .boolean) 1 0 0 La s0 [sg_i x0, sg_i x1, sg_i x2] (sg_PZ La s0 Q) := by
  refine sg_body (by decide +kernel) (Nat.le_of_ble_eq_true rfl) ?_
  intro p e s m args below meth c F hnm
  unfold fX11_isNear at hf
  show sg_W p l e (sg_rm 1 0 0) s m args below meth c (MQ below (sg_Q (some .boolean) G La s.heap.size (sg_PZ La s0 Q)) args s 0 0 (sg_A La s.heap.size)) 3 G (sg_A La s.heap.size) La s0 0 0 0 [(0, sg_i x0), (1, sg_i x1), (2, sg_i x2)] []
  refine gw_iload_n F 0 rfl rfl dX11_isNear_0 ?_
  refine gw_if_le F (tgt := 18) dX11_isNear_1 (by decide) r0 (fun c1 => ?_) (fun c1 => ?_)
  · have hf := hf.1 c1
    refine gw_iconst F dX11_isNear_18 ?_
    exact gr_PZ F (by decide) hf (by decide) (by decide) dX11_isNear_19
  · have hf := hf.2 c1
    refine gw_iload_n F 0 rfl rfl dX11_isNear_4 ?_
    refine gw_iload_n F 1 rfl rfl dX11_isNear_5 ?_
    refine gw_isub F rfl dX11_isNear_6 ?_
    obtain ⟨g2, hf⟩ := hf
    refine gw_abs F g2 rfl kw_697 kw_abs1 kw_math kw_abs2 (Nat.le_of_ble_eq_true rfl) (by decide) (by decide) (by decide) (by decide) dX11_isNear_7 ?_
    refine gw_iload_n F 2 rfl rfl dX11_isNear_10 ?_
    obtain ⟨g3, hf⟩ := hf
    refine gw_icmp_gt F (tgt := 18) dX11_isNear_11 (by decide) g3 r2 (fun c4 => ?_) (fun c4 => ?_)
    · have hf := hf.1 c4
      refine gw_iconst F dX11_isNear_18 ?_
      exact gr_PZ F (by decide) hf (by decide) (by decide) dX11_isNear_19
    · have hf := hf.2 c4
      refine gw_iconst F dX11_isNear_14 ?_
      refine gw_goto F (tgt := 19) dX11_isNear_15 (by decide) ?_
      exact gr_PZ F (by decide) hf (by decide) (by decide) dX11_isNear_19

theorem dX0_isPlace_0 : decode cX0_isPlace 0 = .ok (.iload_n 1, 1) := by decide +kernel
theorem dX0_isPlace_1 : decode cX0_isPlace 1 = .ok (.ifCond .le 22, 3) := by decide +kernel
theorem dX0_isPlace_4 : decode cX0_isPlace 4 = .ok (.aload_n 0, 1) := by decide +kernel
theorem dX0_isPlace_5 : decode cX0_isPlace 5 = .ok (.getfield 15, 3) := by decide +kernel
theorem dX0_isPlace_8 : decode cX0_isPlace 8 = .ok (.iload_n 1, 1) := by decide +kernel
theorem dX0_isPlace_9 : decode cX0_isPlace 9 = .ok (.iaload, 1) := by decide +kernel
theorem dX0_isPlace_10 : decode cX0_isPlace 10 = .ok (.aload_n 0, 1) := by decide +kernel
theorem dX0_isPlace_11 : decode cX0_isPlace 11 = .ok (.getfield 15, 3) := by decide +kernel
theorem dX0_isPlace_14 : decode cX0_isPlace 14 = .ok (.iload_n 1, 1) := by decide +kernel
theorem dX0_isPlace_15 : decode cX0_isPlace 15 = .ok (.iconst 1, 1) := by decide +kernel
theorem dX0_isPlace_16 : decode cX0_isPlace 16 = .ok (.isub, 1) := by decide +kernel
theorem dX0_isPlace_17 : decode cX0_isPlace 17 = .ok (.iaload, 1) := by decide +kernel
theorem dX0_isPlace_18 : decode cX0_isPlace 18 = .ok (.if_icmp .lt 5, 3) := by decide +kernel
theorem dX0_isPlace_21 : decode cX0_isPlace 21 = .ok (.iconst 0, 1) := by decide +kernel
theorem dX0_isPlace_22 : decode cX0_isPlace 22 = .ok (.ireturn, 1) := by decide +kernel
theorem dX0_isPlace_23 : decode cX0_isPlace 23 = .ok (.iload_n 1, 1) := by decide +kernel
theorem dX0_isPlace_24 : decode cX0_isPlace 24 = .ok (.iconst 1, 1) := by decide +kernel
theorem dX0_isPlace_25 : decode cX0_isPlace 25 = .ok (.iadd, 1) := by decide +kernel
theorem dX0_isPlace_26 : decode cX0_isPlace 26 = .ok (.istore_n 2, 1) := by decide +kernel
theorem dX0_isPlace_27 : decode cX0_isPlace 27 = .ok (.iload_n 2, 1) := by decide +kernel
theorem dX0_isPlace_28 : decode cX0_isPlace 28 = .ok (.aload_n 0, 1) := by decide +kernel
theorem dX0_isPlace_29 : decode cX0_isPlace 29 = .ok (.getfield 27, 3) := by decide +kernel
theorem dX0_isPlace_32 : decode cX0_isPlace 32 = .ok (.if_icmp .ge 24, 3) := by decide +kernel
theorem dX0_isPlace_35 : decode cX0_isPlace 35 = .ok (.aload_n 0, 1) := by decide +kernel
theorem dX0_isPlace_36 : decode cX0_isPlace 36 = .ok (.getfield 15, 3) := by decide +kernel
theorem dX0_isPlace_39 : decode cX0_isPlace 39 = .ok (.iload_n 2, 1) := by decide +kernel
theorem dX0_isPlace_40 : decode cX0_isPlace 40 = .ok (.iaload, 1) := by decide +kernel
theorem dX0_isPlace_41 : decode cX0_isPlace 41 = .ok (.aload_n 0, 1) := by decide +kernel
theorem dX0_isPlace_42 : decode cX0_isPlace 42 = .ok (.getfield 15, 3) := by decide +kernel
theorem dX0_isPlace_45 : decode cX0_isPlace 45 = .ok (.iload_n 1, 1) := by decide +kernel
theorem dX0_isPlace_46 : decode cX0_isPlace 46 = .ok (.iaload, 1) := by decide +kernel
theorem dX0_isPlace_47 : decode cX0_isPlace 47 = .ok (.if_icmp .ne 9, 3) := by decide +kernel
theorem dX0_isPlace_50 : decode cX0_isPlace 50 = .ok (.iinc 2 1, 3) := by decide +kernel
theorem dX0_isPlace_53 : decode cX0_isPlace 53 = .ok (.goto (-26), 3) := by decide +kernel
theorem dX0_isPlace_56 : decode cX0_isPlace 56 = .ok (.iload_n 2, 1) := by decide +kernel
theorem dX0_isPlace_57 : decode cX0_isPlace 57 = .ok (.aload_n 0, 1) := by decide +kernel
theorem dX0_isPlace_58 : decode cX0_isPlace 58 = .ok (.getfield 27, 3) := by decide +kernel
theorem dX0_isPlace_61 : decode cX0_isPlace 61 = .ok (.if_icmp .ge 18, 3) := by decide +kernel
theorem dX0_isPlace_64 : decode cX0_isPlace 64 = .ok (.aload_n 0, 1) := by decide +kernel
theorem dX0_isPlace_65 : decode cX0_isPlace 65 = .ok (.getfield 15, 3) := by decide +kernel
theorem dX0_isPlace_68 : decode cX0_isPlace 68 = .ok (.iload_n 2, 1) := by decide +kernel
theorem dX0_isPlace_69 : decode cX0_isPlace 69 = .ok (.iaload, 1) := by decide +kernel
theorem dX0_isPlace_70 : decode cX0_isPlace 70 = .ok (.aload_n 0, 1) := by decide +kernel
theorem dX0_isPlace_71 : decode cX0_isPlace 71 = .ok (.getfield 15, 3) := by decide +kernel
theorem dX0_isPlace_74 : decode cX0_isPlace 74 = .ok (.iload_n 1, 1) := by decide +kernel
theorem dX0_isPlace_75 : decode cX0_isPlace 75 = .ok (.iaload, 1) := by decide +kernel
theorem dX0_isPlace_76 : decode cX0_isPlace 76 = .ok (.if_icmp .le 7, 3) := by decide +kernel
theorem dX0_isPlace_79 : decode cX0_isPlace 79 = .ok (.iconst 1, 1) := by decide +kernel
theorem dX0_isPlace_80 : decode cX0_isPlace 80 = .ok (.goto 4, 3) := by decide +kernel
theorem dX0_isPlace_83 : decode cX0_isPlace 83 = .ok (.iconst 0, 1) := by decide +kernel
theorem dX0_isPlace_84 : decode cX0_isPlace 84 = .ok (.ireturn, 1) := by decide +kernel
theorem hcX0_isPlace : yX0_isPlace.cls ≠ "java/lang/invoke/MethodHandle" ∧ yX0_isPlace.cls ≠ "java/lang/invoke/VarHandle" ∧ (parseMethodDescriptor yX0_isPlace.desc).map (fun d => d.parameters.length) = some 1 := ⟨by decide +kernel, by decide +kernel, by decide +kernel⟩
def fX0_isPlace_L27 (s0 : sg_M) (x1 : Int) (k56 : Int → Prop) : Nat → Int → Prop
  | 0, _ => False
  | n_27 + 1, x2_27 => (((s0 32 3) ≤ x2_27 → k56 x2_27) ∧ (¬ ((s0 32 3) ≤ x2_27) → (0 ≤ x2_27 ∧ x2_27 < 60) ∧ (0 ≤ x1 ∧ x1 < 60) ∧ (((s0 34 x2_27) ≠ (s0 34 x1) → k56 x2_27) ∧ ((s0 34 x2_27) = (s0 34 x1) → sg_R (x2_27 + 1) ∧ (fX0_isPlace_L27 s0 x1 k56 n_27) (x2_27 + 1)))))
def fX0_isPlace_j23 (s0 : sg_M) (x1 : Int) (Q : Int → Prop)  : Prop := sg_R (x1 + 1) ∧ (∃ n12 : Nat, fX0_isPlace_L27 s0 x1 (fun x2_56e27 => (((s0 32 3) ≤ x2_56e27 → Q 1) ∧ (¬ ((s0 32 3) ≤ x2_56e27) → (0 ≤ x2_56e27 ∧ x2_56e27 < 60) ∧ (0 ≤ x1 ∧ x1 < 60) ∧ (((s0 34 x2_56e27) ≤ (s0 34 x1) → Q 0) ∧ (¬ ((s0 34 x2_56e27) ≤ (s0 34 x1)) → Q 1))))) n12 (x1 + 1))
def fX0_isPlace (s0 : sg_M) (x1 : Int) (Q : Int → Prop) : Prop := ((x1 ≤ 0 → (fX0_isPlace_j23 s0 x1 Q)) ∧ (¬ (x1 ≤ 0) → (0 ≤ x1 ∧ x1 < 60) ∧ (0 ≤ (x1 - 1) ∧ (x1 - 1) < 60) ∧ (((s0 34 x1) < (s0 34 (x1 - 1)) → (fX0_isPlace_j23 s0 x1 Q)) ∧ (¬ ((s0 34 x1) < (s0 34 (x1 - 1))) → Q 0))))
set_option maxHeartbeats 4000000 in
set_option maxRecDepth 100000 in
theorem CX0_isPlace {l : Launch} {G : sg_G} {La : sg_L} {s0 : sg_M} (hst : sg_St La) {x1 : Int} (r1 : sg_R x1) {Q : Int → Prop} (hf : fX0_isPlace s0 x1 Q) : sg_C l G yX0_isPlace cX0_isPlace 3 (some .boolean) 1 0 0 La s0 [sg_r 32, sg_i x1] (sg_PZ La s0 Q) := by
  refine sg_body (by decide +kernel) (Nat.le_of_ble_eq_true rfl) ?_
  intro p e s m args below meth c F hnm
  unfold fX0_isPlace at hf
  show sg_W p l e (sg_rm 1 0 0) s m args below meth c (MQ below (sg_Q (some .boolean) G La s.heap.size (sg_PZ La s0 Q)) args s 0 0 (sg_A La s.heap.size)) 3 G (sg_A La s.heap.size) La s0 0 0 0 [(0, sg_r 32), (1, sg_i x1)] []
  refine gw_iload_n F 1 rfl rfl dX0_isPlace_0 ?_
  have J23 : (fX0_isPlace_j23 s0 x1 Q) → sg_W p l e (sg_rm 1 0 0) s m args below meth c (MQ below (sg_Q (some .boolean) G La s.heap.size (sg_PZ La s0 Q)) args s 0 0 (sg_A La s.heap.size)) 3 G (sg_A La s.heap.size) La s0 0 0 23 [(0, sg_r 32), (1, sg_i x1)] [] := by
    intro hf
    unfold fX0_isPlace_j23 at hf
    refine gw_iload_n F 1 rfl rfl dX0_isPlace_23 ?_
    refine gw_iconst F dX0_isPlace_24 ?_
    refine gw_iadd F rfl dX0_isPlace_25 ?_
    refine gw_istore_n F rfl (by decide) rfl dX0_isPlace_26 ?_
    have L27 : ∀ (k56 : Int → Prop) (hk56 : ∀ (x2_56e27 : Int), sg_R x2_56e27 → k56 x2_56e27 → sg_W p l e (sg_rm 1 0 0) s m args below meth c (MQ below (sg_Q (some .boolean) G La s.heap.size (sg_PZ La s0 Q)) args s 0 0 (sg_A La s.heap.size)) 3 G (sg_A La s.heap.size) La s0 0 0 56 [(0, sg_r 32), (1, sg_i x1), (2, sg_i x2_56e27)] []), ∀ n_27 : Nat, ∀ (x2_27 : Int), sg_R x2_27 → fX0_isPlace_L27 s0 x1 k56 n_27 x2_27 → sg_W p l e (sg_rm 1 0 0) s m args below meth c (MQ below (sg_Q (some .boolean) G La s.heap.size (sg_PZ La s0 Q)) args s 0 0 (sg_A La s.heap.size)) 3 G (sg_A La s.heap.size) La s0 0 0 27 [(0, sg_r 32), (1, sg_i x1), (2, sg_i x2_27)] [] := by
      intro k56 hk56 n_27
      induction n_27 with
      | zero => intro x2_27 r2_27 hf; exact hf.elim
      | succ n_27 ih =>
        intro x2_27 r2_27 hf
        unfold fX0_isPlace_L27 at hf
        refine gw_iload_n F 2 rfl rfl dX0_isPlace_27 ?_
        refine gw_aload_n F 0 rfl rfl (by decide) dX0_isPlace_28 ?_
        refine gw_get0 F (so_32 hst) (by decide) rfl sg_lay_RX0 (j := 3) (by decide) rfl (host := "") (.inl kw_257) dX0_isPlace_29 (fun h1 => ?_)
        refine gw_icmp_ge F (tgt := 56) dX0_isPlace_32 (by decide) r2_27 h1 (fun c2 => ?_) (fun c2 => ?_)
        · have hf := hf.1 c2
          refine gw_sub [0, 1, 2] rfl ?_
          exact hk56 x2_27 r2_27 hf
        · have hf := hf.2 c2
          refine gw_aload_n F 0 rfl rfl (by decide) dX0_isPlace_35 ?_
          refine gw_get3 F (so_32 hst) (by decide) rfl sg_lay_RX0 (j := 1) (by decide) (o1 := 34) (by first | rfl | omega) rfl (host := "") (.inl kw_253) dX0_isPlace_36 (fun h3 => ?_)
          refine gw_iload_n F 2 rfl rfl dX0_isPlace_39 ?_
          obtain ⟨⟨b40, b41⟩, hf⟩ := hf
          refine gw_iald F (sa_34 hst) b40 b41 dX0_isPlace_40 (fun h5 => ?_)
          refine gw_aload_n F 0 rfl rfl (by decide) dX0_isPlace_41 ?_
          refine gw_get3 F (so_32 hst) (by decide) rfl sg_lay_RX0 (j := 1) (by decide) (o1 := 34) (by first | rfl | omega) rfl (host := "") (.inl kw_253) dX0_isPlace_42 (fun h6 => ?_)
          refine gw_iload_n F 1 rfl rfl dX0_isPlace_45 ?_
          obtain ⟨⟨b70, b71⟩, hf⟩ := hf
          refine gw_iald F (sa_34 hst) b70 b71 dX0_isPlace_46 (fun h8 => ?_)
          refine gw_icmp_ne F (tgt := 56) dX0_isPlace_47 (by decide) h5 h8 (fun c9 => ?_) (fun c9 => ?_)
          · have hf := hf.1 c9
            refine gw_sub [0, 1, 2] rfl ?_
            exact hk56 x2_27 r2_27 hf
          · have hf := hf.2 c9
            refine gw_iinc F (z := (x2_27 + 1)) 2 rfl (by omega) (by decide) rfl dX0_isPlace_50 ?_
            refine gw_goto F (tgt := 27) dX0_isPlace_53 (by decide) ?_
            obtain ⟨g10, hf⟩ := hf
            refine gw_sub [1, 2, 0] rfl ?_
            exact ih (x2_27 + 1) g10 hf
    obtain ⟨g11, hf⟩ := hf
    obtain ⟨n12, hf⟩ := hf
    refine gw_sub [1, 2, 0] rfl ?_
    refine L27 _ (fun x2_56e27 r2_56e27 hf => ?_) n12 (x1 + 1) g11 hf
    refine gw_iload_n F 2 rfl rfl dX0_isPlace_56 ?_
    refine gw_aload_n F 0 rfl rfl (by decide) dX0_isPlace_57 ?_
    refine gw_get0 F (so_32 hst) (by decide) rfl sg_lay_RX0 (j := 3) (by decide) rfl (host := "") (.inl kw_257) dX0_isPlace_58 (fun h13 => ?_)
    refine gw_icmp_ge F (tgt := 79) dX0_isPlace_61 (by decide) r2_56e27 h13 (fun c14 => ?_) (fun c14 => ?_)
    · have hf := hf.1 c14
      refine gw_iconst F dX0_isPlace_79 ?_
      refine gw_goto F (tgt := 84) dX0_isPlace_80 (by decide) ?_
      exact gr_PZ F (by decide) hf (by decide) (by decide) dX0_isPlace_84
    · have hf := hf.2 c14
      refine gw_aload_n F 0 rfl rfl (by decide) dX0_isPlace_64 ?_
      refine gw_get3 F (so_32 hst) (by decide) rfl sg_lay_RX0 (j := 1) (by decide) (o1 := 34) (by first | rfl | omega) rfl (host := "") (.inl kw_253) dX0_isPlace_65 (fun h15 => ?_)
      refine gw_iload_n F 2 rfl rfl dX0_isPlace_68 ?_
      obtain ⟨⟨b160, b161⟩, hf⟩ := hf
      refine gw_iald F (sa_34 hst) b160 b161 dX0_isPlace_69 (fun h17 => ?_)
      refine gw_aload_n F 0 rfl rfl (by decide) dX0_isPlace_70 ?_
      refine gw_get3 F (so_32 hst) (by decide) rfl sg_lay_RX0 (j := 1) (by decide) (o1 := 34) (by first | rfl | omega) rfl (host := "") (.inl kw_253) dX0_isPlace_71 (fun h18 => ?_)
      refine gw_iload_n F 1 rfl rfl dX0_isPlace_74 ?_
      obtain ⟨⟨b190, b191⟩, hf⟩ := hf
      refine gw_iald F (sa_34 hst) b190 b191 dX0_isPlace_75 (fun h20 => ?_)
      refine gw_icmp_le F (tgt := 83) dX0_isPlace_76 (by decide) h17 h20 (fun c21 => ?_) (fun c21 => ?_)
      · have hf := hf.1 c21
        refine gw_iconst F dX0_isPlace_83 ?_
        exact gr_PZ F (by decide) hf (by decide) (by decide) dX0_isPlace_84
      · have hf := hf.2 c21
        refine gw_iconst F dX0_isPlace_79 ?_
        refine gw_goto F (tgt := 84) dX0_isPlace_80 (by decide) ?_
        exact gr_PZ F (by decide) hf (by decide) (by decide) dX0_isPlace_84
  refine gw_if_le F (tgt := 23) dX0_isPlace_1 (by decide) r1 (fun c22 => ?_) (fun c22 => ?_)
  · have hf := hf.1 c22
    refine gw_sub [0, 1] rfl ?_
    exact J23  hf
  · have hf := hf.2 c22
    refine gw_aload_n F 0 rfl rfl (by decide) dX0_isPlace_4 ?_
    refine gw_get3 F (so_32 hst) (by decide) rfl sg_lay_RX0 (j := 1) (by decide) (o1 := 34) (by first | rfl | omega) rfl (host := "") (.inl kw_253) dX0_isPlace_5 (fun h23 => ?_)
    refine gw_iload_n F 1 rfl rfl dX0_isPlace_8 ?_
    obtain ⟨⟨b240, b241⟩, hf⟩ := hf
    refine gw_iald F (sa_34 hst) b240 b241 dX0_isPlace_9 (fun h25 => ?_)
    refine gw_aload_n F 0 rfl rfl (by decide) dX0_isPlace_10 ?_
    refine gw_get3 F (so_32 hst) (by decide) rfl sg_lay_RX0 (j := 1) (by decide) (o1 := 34) (by first | rfl | omega) rfl (host := "") (.inl kw_253) dX0_isPlace_11 (fun h26 => ?_)
    refine gw_iload_n F 1 rfl rfl dX0_isPlace_14 ?_
    refine gw_iconst F dX0_isPlace_15 ?_
    refine gw_isub F rfl dX0_isPlace_16 ?_
    obtain ⟨⟨b270, b271⟩, hf⟩ := hf
    refine gw_iald F (sa_34 hst) b270 b271 dX0_isPlace_17 (fun h28 => ?_)
    refine gw_icmp_lt F (tgt := 23) dX0_isPlace_18 (by decide) h25 h28 (fun c29 => ?_) (fun c29 => ?_)
    · have hf := hf.1 c29
      refine gw_sub [0, 1] rfl ?_
      exact J23  hf
    · have hf := hf.2 c29
      refine gw_iconst F dX0_isPlace_21 ?_
      exact gr_PZ F (by decide) hf (by decide) (by decide) dX0_isPlace_22

theorem dX11_within_0 : decode cX11_within 0 = .ok (.iload_n 1, 1) := by decide +kernel
theorem dX11_within_1 : decode cX11_within 1 = .ok (.ineg, 1) := by decide +kernel
theorem dX11_within_2 : decode cX11_within 2 = .ok (.iload_n 1, 1) := by decide +kernel
theorem dX11_within_3 : decode cX11_within 3 = .ok (.iload_n 0, 1) := by decide +kernel
theorem dX11_within_4 : decode cX11_within 4 = .ok (.invokestatic 297, 3) := by decide +kernel
theorem dX11_within_7 : decode cX11_within 7 = .ok (.invokestatic 291, 3) := by decide +kernel
theorem dX11_within_10 : decode cX11_within 10 = .ok (.ireturn, 1) := by decide +kernel
theorem hcX11_within : yX11_within.cls ≠ "java/lang/invoke/MethodHandle" ∧ yX11_within.cls ≠ "java/lang/invoke/VarHandle" ∧ (parseMethodDescriptor yX11_within.desc).map (fun d => d.parameters.length) = some 2 := ⟨by decide +kernel, by decide +kernel, by decide +kernel⟩
def fX11_within (x0 : Int) (x1 : Int) (Q : Int → Prop) : Prop := sg_R (-x1) ∧ Q (sg_max (-x1) (sg_min x1 x0))
set_option maxHeartbeats 4000000 in
set_option maxRecDepth 100000 in
theorem CX11_within {l : Launch} {G : sg_G} {La : sg_L} {s0 : sg_M} {x0 : Int} (r0 : sg_R x0) {x1 : Int} (r1 : sg_R x1) {Q : Int → Prop} (hf : fX11_within x0 x1 Q) : sg_C l G yX11_within cX11_within 2 (some .int) 1 0 0 La s0 [sg_i x0, sg_i x1] (sg_PI La s0 Q) := by
  refine sg_body (by decide +kernel) (Nat.le_of_ble_eq_true rfl) ?_
  intro p e s m args below meth c F hnm
  unfold fX11_within at hf
  show sg_W p l e (sg_rm 1 0 0) s m args below meth c (MQ below (sg_Q (some .int) G La s.heap.size (sg_PI La s0 Q)) args s 0 0 (sg_A La s.heap.size)) 2 G (sg_A La s.heap.size) La s0 0 0 0 [(0, sg_i x0), (1, sg_i x1)] []
  refine gw_iload_n F 1 rfl rfl dX11_within_0 ?_
  refine gw_ineg F rfl dX11_within_1 ?_
  refine gw_iload_n F 1 rfl rfl dX11_within_2 ?_
  refine gw_iload_n F 0 rfl rfl dX11_within_3 ?_
  refine gw_min F r1 r0 rfl kw_522 kw_min1 kw_math kw_min2 (Nat.le_of_ble_eq_true rfl) (by decide) (by decide) (by decide) (by decide) dX11_within_4 ?_
  obtain ⟨g1, hf⟩ := hf
  refine gw_max F g1 (sg_min_R r1 r0) rfl kw_523 kw_max1 kw_math kw_max2 (Nat.le_of_ble_eq_true rfl) (by decide) (by decide) (by decide) (by decide) dX11_within_7 ?_
  exact gr_PI F (sg_max_R g1 (sg_min_R r1 r0)) hf (by decide) (by decide) dX11_within_10

theorem dX1_stiffness_0 : decode cX1_stiffness 0 = .ok (.aload_n 0, 1) := by decide +kernel
theorem dX1_stiffness_1 : decode cX1_stiffness 1 = .ok (.iload_n 1, 1) := by decide +kernel
theorem dX1_stiffness_2 : decode cX1_stiffness 2 = .ok (.invokevirtual 38, 3) := by decide +kernel
theorem dX1_stiffness_5 : decode cX1_stiffness 5 = .ok (.ifCond .eq 40, 3) := by decide +kernel
theorem dX1_stiffness_8 : decode cX1_stiffness 8 = .ok (.aload_n 0, 1) := by decide +kernel
theorem dX1_stiffness_9 : decode cX1_stiffness 9 = .ok (.getfield 9, 3) := by decide +kernel
theorem dX1_stiffness_12 : decode cX1_stiffness 12 = .ok (.iload_n 1, 1) := by decide +kernel
theorem dX1_stiffness_13 : decode cX1_stiffness 13 = .ok (.iaload, 1) := by decide +kernel
theorem dX1_stiffness_14 : decode cX1_stiffness 14 = .ok (.aload_n 0, 1) := by decide +kernel
theorem dX1_stiffness_15 : decode cX1_stiffness 15 = .ok (.getfield 18, 3) := by decide +kernel
theorem dX1_stiffness_18 : decode cX1_stiffness 18 = .ok (.iload_n 1, 1) := by decide +kernel
theorem dX1_stiffness_19 : decode cX1_stiffness 19 = .ok (.iaload, 1) := by decide +kernel
theorem dX1_stiffness_20 : decode cX1_stiffness 20 = .ok (.isub, 1) := by decide +kernel
theorem dX1_stiffness_21 : decode cX1_stiffness 21 = .ok (.aload_n 0, 1) := by decide +kernel
theorem dX1_stiffness_22 : decode cX1_stiffness 22 = .ok (.getfield 15, 3) := by decide +kernel
theorem dX1_stiffness_25 : decode cX1_stiffness 25 = .ok (.iload_n 1, 1) := by decide +kernel
theorem dX1_stiffness_26 : decode cX1_stiffness 26 = .ok (.iaload, 1) := by decide +kernel
theorem dX1_stiffness_27 : decode cX1_stiffness 27 = .ok (.imul, 1) := by decide +kernel
theorem dX1_stiffness_28 : decode cX1_stiffness 28 = .ok (.aload_n 0, 1) := by decide +kernel
theorem dX1_stiffness_29 : decode cX1_stiffness 29 = .ok (.getfield 15, 3) := by decide +kernel
theorem dX1_stiffness_32 : decode cX1_stiffness 32 = .ok (.iload_n 1, 1) := by decide +kernel
theorem dX1_stiffness_33 : decode cX1_stiffness 33 = .ok (.iaload, 1) := by decide +kernel
theorem dX1_stiffness_34 : decode cX1_stiffness 34 = .ok (.imul, 1) := by decide +kernel
theorem dX1_stiffness_35 : decode cX1_stiffness 35 = .ok (.aload_n 0, 1) := by decide +kernel
theorem dX1_stiffness_36 : decode cX1_stiffness 36 = .ok (.getfield 15, 3) := by decide +kernel
theorem dX1_stiffness_39 : decode cX1_stiffness 39 = .ok (.iload_n 1, 1) := by decide +kernel
theorem dX1_stiffness_40 : decode cX1_stiffness 40 = .ok (.iaload, 1) := by decide +kernel
theorem dX1_stiffness_41 : decode cX1_stiffness 41 = .ok (.imul, 1) := by decide +kernel
theorem dX1_stiffness_42 : decode cX1_stiffness 42 = .ok (.goto 4, 3) := by decide +kernel
theorem dX1_stiffness_45 : decode cX1_stiffness 45 = .ok (.iconst 0, 1) := by decide +kernel
theorem dX1_stiffness_46 : decode cX1_stiffness 46 = .ok (.ireturn, 1) := by decide +kernel
theorem hcX1_stiffness : yX1_stiffness.cls ≠ "java/lang/invoke/MethodHandle" ∧ yX1_stiffness.cls ≠ "java/lang/invoke/VarHandle" ∧ (parseMethodDescriptor yX1_stiffness.desc).map (fun d => d.parameters.length) = some 1 := ⟨by decide +kernel, by decide +kernel, by decide +kernel⟩
def fX1_stiffness (s0 : sg_M) (o : Int) (x1 : Int) (Q : Int → Prop) : Prop := fX1_has s0 o x1 (fun u1 => ((u1 = 0 → Q 0) ∧ (¬ (u1 = 0) → (0 ≤ x1 ∧ x1 < 60) ∧ (0 ≤ x1 ∧ x1 < 60) ∧ (0 ≤ x1 ∧ x1 < 60) ∧ (0 ≤ x1 ∧ x1 < 60) ∧ (0 ≤ x1 ∧ x1 < 60) ∧ sg_R (((((s0 (o + 1) x1) - (s0 (o + 3) x1)) * (s0 (o + 2) x1)) * (s0 (o + 2) x1)) * (s0 (o + 2) x1)) ∧ Q (((((s0 (o + 1) x1) - (s0 (o + 3) x1)) * (s0 (o + 2) x1)) * (s0 (o + 2) x1)) * (s0 (o + 2) x1)))))
set_option maxHeartbeats 4000000 in
set_option maxRecDepth 100000 in
theorem CX1_stiffness {l : Launch} {G : sg_G} {La : sg_L} {s0 : sg_M} {o : Int} (to : sg_O La o 1) {x1 : Int} (r1 : sg_R x1) {Q : Int → Prop} (hf : fX1_stiffness s0 o x1 Q) : sg_C l G yX1_stiffness cX1_stiffness 2 (some .int) 2 0 0 La s0 [sg_r o, sg_i x1] (sg_PI La s0 Q) := by
  refine sg_body (by decide +kernel) (Nat.le_of_ble_eq_true rfl) ?_
  intro p e s m args below meth c F hnm
  unfold fX1_stiffness at hf
  show sg_W p l e (sg_rm 2 0 0) s m args below meth c (MQ below (sg_Q (some .int) G La s.heap.size (sg_PI La s0 Q)) args s 0 0 (sg_A La s.heap.size)) 2 G (sg_A La s.heap.size) La s0 0 0 0 [(0, sg_r o), (1, sg_i x1)] []
  refine gw_aload_n F 0 rfl rfl to.1 dX1_stiffness_0 ?_
  refine gw_iload_n F 1 rfl rfl dX1_stiffness_1 ?_
  refine gk_PZ F (gc_V F (S := []) (As := [sg_i x1]) (T := TX1) (N := 7) (CX1_has to r1 hf) to (by decide) rfl kw_518 kw_94 kw_515 kw_516 kw_517 hcX1_has ⟨by decide, by decide⟩ rfl rfl (Nat.le_of_ble_eq_true rfl) ⟨by decide, by decide⟩ dX1_stiffness_2) (fun u1 h2 hf => ?_)
  refine gw_if_eq F (tgt := 45) dX1_stiffness_5 (by decide) (sg_B_R h2) (fun c3 => ?_) (fun c3 => ?_)
  · have hf := hf.1 c3
    refine gw_iconst F dX1_stiffness_45 ?_
    exact gr_PI F (by decide) hf (by decide) (by decide) dX1_stiffness_46
  · have hf := hf.2 c3
    refine gw_aload_n F 0 rfl rfl to.1 dX1_stiffness_8 ?_
    refine gw_get3 F to (by decide) rfl sg_lay_RX1 (j := 0) (by decide) (o1 := (o + 1)) (by first | rfl | omega) rfl (host := "") (.inl kw_158) dX1_stiffness_9 (fun h4 => ?_)
    refine gw_iload_n F 1 rfl rfl dX1_stiffness_12 ?_
    obtain ⟨⟨b50, b51⟩, hf⟩ := hf
    refine gw_iald F (sg_AN_of (sg_O_of h4 (by decide)) (by decide) (by decide) (by decide)) b50 b51 dX1_stiffness_13 (fun h6 => ?_)
    refine gw_aload_n F 0 rfl rfl to.1 dX1_stiffness_14 ?_
    refine gw_get3 F to (by decide) rfl sg_lay_RX1 (j := 2) (by decide) (o1 := (o + 3)) (by first | rfl | omega) rfl (host := "") (.inl kw_161) dX1_stiffness_15 (fun h7 => ?_)
    refine gw_iload_n F 1 rfl rfl dX1_stiffness_18 ?_
    obtain ⟨⟨b80, b81⟩, hf⟩ := hf
    refine gw_iald F (sg_AN_of (sg_O_of h7 (by decide)) (by decide) (by decide) (by decide)) b80 b81 dX1_stiffness_19 (fun h9 => ?_)
    refine gw_isub F rfl dX1_stiffness_20 ?_
    refine gw_aload_n F 0 rfl rfl to.1 dX1_stiffness_21 ?_
    refine gw_get3 F to (by decide) rfl sg_lay_RX1 (j := 1) (by decide) (o1 := (o + 2)) (by first | rfl | omega) rfl (host := "") (.inl kw_159) dX1_stiffness_22 (fun h10 => ?_)
    refine gw_iload_n F 1 rfl rfl dX1_stiffness_25 ?_
    obtain ⟨⟨b110, b111⟩, hf⟩ := hf
    refine gw_iald F (sg_AN_of (sg_O_of h10 (by decide)) (by decide) (by decide) (by decide)) b110 b111 dX1_stiffness_26 (fun h12 => ?_)
    refine gw_imul F rfl dX1_stiffness_27 ?_
    refine gw_aload_n F 0 rfl rfl to.1 dX1_stiffness_28 ?_
    refine gw_get3 F to (by decide) rfl sg_lay_RX1 (j := 1) (by decide) (o1 := (o + 2)) (by first | rfl | omega) rfl (host := "") (.inl kw_159) dX1_stiffness_29 (fun h13 => ?_)
    refine gw_iload_n F 1 rfl rfl dX1_stiffness_32 ?_
    obtain ⟨⟨b140, b141⟩, hf⟩ := hf
    refine gw_iald F (sg_AN_of (sg_O_of h13 (by decide)) (by decide) (by decide) (by decide)) b140 b141 dX1_stiffness_33 (fun h15 => ?_)
    refine gw_imul F rfl dX1_stiffness_34 ?_
    refine gw_aload_n F 0 rfl rfl to.1 dX1_stiffness_35 ?_
    refine gw_get3 F to (by decide) rfl sg_lay_RX1 (j := 1) (by decide) (o1 := (o + 2)) (by first | rfl | omega) rfl (host := "") (.inl kw_159) dX1_stiffness_36 (fun h16 => ?_)
    refine gw_iload_n F 1 rfl rfl dX1_stiffness_39 ?_
    obtain ⟨⟨b170, b171⟩, hf⟩ := hf
    refine gw_iald F (sg_AN_of (sg_O_of h16 (by decide)) (by decide) (by decide) (by decide)) b170 b171 dX1_stiffness_40 (fun h18 => ?_)
    refine gw_imul F rfl dX1_stiffness_41 ?_
    refine gw_goto F (tgt := 46) dX1_stiffness_42 (by decide) ?_
    obtain ⟨g19, hf⟩ := hf
    exact gr_PI F g19 hf (by decide) (by decide) dX1_stiffness_46

theorem dX1_curve_0 : decode cX1_curve 0 = .ok (.aload_n 0, 1) := by decide +kernel
theorem dX1_curve_1 : decode cX1_curve 1 = .ok (.getfield 24, 3) := by decide +kernel
theorem dX1_curve_4 : decode cX1_curve 4 = .ok (.iconst 1, 1) := by decide +kernel
theorem dX1_curve_5 : decode cX1_curve 5 = .ok (.isub, 1) := by decide +kernel
theorem dX1_curve_6 : decode cX1_curve 6 = .ok (.istore 4, 2) := by decide +kernel
theorem dX1_curve_8 : decode cX1_curve 8 = .ok (.aload_n 0, 1) := by decide +kernel
theorem dX1_curve_9 : decode cX1_curve 9 = .ok (.iload_n 3, 1) := by decide +kernel
theorem dX1_curve_10 : decode cX1_curve 10 = .ok (.invokevirtual 42, 3) := by decide +kernel
theorem dX1_curve_13 : decode cX1_curve 13 = .ok (.istore 5, 2) := by decide +kernel
theorem dX1_curve_15 : decode cX1_curve 15 = .ok (.iload 4, 2) := by decide +kernel
theorem dX1_curve_17 : decode cX1_curve 17 = .ok (.iconst 1, 1) := by decide +kernel
theorem dX1_curve_18 : decode cX1_curve 18 = .ok (.if_icmp .lt 17, 3) := by decide +kernel
theorem dX1_curve_21 : decode cX1_curve 21 = .ok (.iload 5, 2) := by decide +kernel
theorem dX1_curve_23 : decode cX1_curve 23 = .ok (.iconst 1, 1) := by decide +kernel
theorem dX1_curve_24 : decode cX1_curve 24 = .ok (.if_icmp .lt 11, 3) := by decide +kernel
theorem dX1_curve_27 : decode cX1_curve 27 = .ok (.aload_n 0, 1) := by decide +kernel
theorem dX1_curve_28 : decode cX1_curve 28 = .ok (.iload_n 3, 1) := by decide +kernel
theorem dX1_curve_29 : decode cX1_curve 29 = .ok (.invokevirtual 38, 3) := by decide +kernel
theorem dX1_curve_32 : decode cX1_curve 32 = .ok (.ifCond .ne 5, 3) := by decide +kernel
theorem dX1_curve_35 : decode cX1_curve 35 = .ok (.iconst 0, 1) := by decide +kernel
theorem dX1_curve_36 : decode cX1_curve 36 = .ok (.ireturn, 1) := by decide +kernel
theorem dX1_curve_37 : decode cX1_curve 37 = .ok (.iload_n 1, 1) := by decide +kernel
theorem dX1_curve_38 : decode cX1_curve 38 = .ok (.iload 4, 2) := by decide +kernel
theorem dX1_curve_40 : decode cX1_curve 40 = .ok (.iload_n 3, 1) := by decide +kernel
theorem dX1_curve_41 : decode cX1_curve 41 = .ok (.isub, 1) := by decide +kernel
theorem dX1_curve_42 : decode cX1_curve 42 = .ok (.imul, 1) := by decide +kernel
theorem dX1_curve_43 : decode cX1_curve 43 = .ok (.iload_n 2, 1) := by decide +kernel
theorem dX1_curve_44 : decode cX1_curve 44 = .ok (.iload_n 3, 1) := by decide +kernel
theorem dX1_curve_45 : decode cX1_curve 45 = .ok (.imul, 1) := by decide +kernel
theorem dX1_curve_46 : decode cX1_curve 46 = .ok (.iadd, 1) := by decide +kernel
theorem dX1_curve_47 : decode cX1_curve 47 = .ok (.iload 4, 2) := by decide +kernel
theorem dX1_curve_49 : decode cX1_curve 49 = .ok (.idiv, 1) := by decide +kernel
theorem dX1_curve_50 : decode cX1_curve 50 = .ok (.istore 6, 2) := by decide +kernel
theorem dX1_curve_52 : decode cX1_curve 52 = .ok (.iload 6, 2) := by decide +kernel
theorem dX1_curve_54 : decode cX1_curve 54 = .ok (.sipush 1000, 3) := by decide +kernel
theorem dX1_curve_57 : decode cX1_curve 57 = .ok (.imul, 1) := by decide +kernel
theorem dX1_curve_58 : decode cX1_curve 58 = .ok (.iload 5, 2) := by decide +kernel
theorem dX1_curve_60 : decode cX1_curve 60 = .ok (.idiv, 1) := by decide +kernel
theorem dX1_curve_61 : decode cX1_curve 61 = .ok (.aload_n 0, 1) := by decide +kernel
theorem dX1_curve_62 : decode cX1_curve 62 = .ok (.getfield 21, 3) := by decide +kernel
theorem dX1_curve_65 : decode cX1_curve 65 = .ok (.iload_n 3, 1) := by decide +kernel
theorem dX1_curve_66 : decode cX1_curve 66 = .ok (.iaload, 1) := by decide +kernel
theorem dX1_curve_67 : decode cX1_curve 67 = .ok (.iadd, 1) := by decide +kernel
theorem dX1_curve_68 : decode cX1_curve 68 = .ok (.sipush 2000, 3) := by decide +kernel
theorem dX1_curve_71 : decode cX1_curve 71 = .ok (.invokestatic 46, 3) := by decide +kernel
theorem dX1_curve_74 : decode cX1_curve 74 = .ok (.ireturn, 1) := by decide +kernel
theorem hcX1_curve : yX1_curve.cls ≠ "java/lang/invoke/MethodHandle" ∧ yX1_curve.cls ≠ "java/lang/invoke/VarHandle" ∧ (parseMethodDescriptor yX1_curve.desc).map (fun d => d.parameters.length) = some 3 := ⟨by decide +kernel, by decide +kernel, by decide +kernel⟩
def fX1_curve (s0 : sg_M) (o : Int) (x1 : Int) (x2 : Int) (x3 : Int) (Q : Int → Prop) : Prop := fX1_stiffness s0 o x3 (fun u2 => sg_R ((s0 o 4) - 1) ∧ ((((s0 o 4) - 1) < 1 → Q 0) ∧ (¬ (((s0 o 4) - 1) < 1) → ((u2 < 1 → Q 0) ∧ (¬ (u2 < 1) → fX1_has s0 o x3 (fun u7 => ((u7 ≠ 0 → sg_R ((x1 * (((s0 o 4) - 1) - x3)) + (x2 * x3)) ∧ (((s0 o 4) - 1) ≠ 0) ∧ ∀ v12 : Int, v12 = (Int.tdiv ((x1 * (((s0 o 4) - 1) - x3)) + (x2 * x3)) ((s0 o 4) - 1)) → sg_R v12 ∧ sg_R (v12 * 1000) ∧ (u2 ≠ 0) ∧ (0 ≤ x3 ∧ x3 < 60) ∧ sg_R ((Int.tdiv (v12 * 1000) u2) + (s0 (o + 4) x3)) ∧ fX11_within ((Int.tdiv (v12 * 1000) u2) + (s0 (o + 4) x3)) 2000 (fun u21 => Q u21)) ∧ (u7 = 0 → Q 0))))))))
set_option maxHeartbeats 4000000 in
set_option maxRecDepth 100000 in
theorem CX1_curve {l : Launch} {G : sg_G} {La : sg_L} {s0 : sg_M} {o : Int} (to : sg_O La o 1) {x1 : Int} (r1 : sg_R x1) {x2 : Int} (r2 : sg_R x2) {x3 : Int} (r3 : sg_R x3) {Q : Int → Prop} (hf : fX1_curve s0 o x1 x2 x3 Q) : sg_C l G yX1_curve cX1_curve 7 (some .int) 3 0 0 La s0 [sg_r o, sg_i x1, sg_i x2, sg_i x3] (sg_PI La s0 Q) := by
  refine sg_body (by decide +kernel) (Nat.le_of_ble_eq_true rfl) ?_
  intro p e s m args below meth c F hnm
  unfold fX1_curve at hf
  show sg_W p l e (sg_rm 3 0 0) s m args below meth c (MQ below (sg_Q (some .int) G La s.heap.size (sg_PI La s0 Q)) args s 0 0 (sg_A La s.heap.size)) 7 G (sg_A La s.heap.size) La s0 0 0 0 [(0, sg_r o), (1, sg_i x1), (2, sg_i x2), (3, sg_i x3)] []
  refine gw_aload_n F 0 rfl rfl to.1 dX1_curve_0 ?_
  refine gw_get0 F to (by decide) rfl sg_lay_RX1 (j := 4) (by decide) rfl (host := "") (.inl kw_163) dX1_curve_1 (fun h1 => ?_)
  refine gw_iconst F dX1_curve_4 ?_
  refine gw_isub F rfl dX1_curve_5 ?_
  refine gw_istore F (by decide) rfl dX1_curve_6 ?_
  refine gw_aload_n F 1 rfl rfl to.1 dX1_curve_8 ?_
  refine gw_iload_n F 4 rfl rfl dX1_curve_9 ?_
  refine gk_PI F (gc_V F (S := []) (As := [sg_i x3]) (T := TX1) (N := 7) (CX1_stiffness to r3 hf) to (by decide) rfl kw_514 kw_94 kw_512 kw_513 kw_4 hcX1_stiffness ⟨by decide, by decide⟩ rfl rfl (Nat.le_of_ble_eq_true rfl) ⟨by decide, by decide⟩ dX1_curve_10) (fun u2 h3 hf => ?_)
  refine gw_istore F (by decide) rfl dX1_curve_13 ?_
  refine gw_iload F 1 rfl dX1_curve_15 ?_
  refine gw_iconst F dX1_curve_17 ?_
  obtain ⟨g4, hf⟩ := hf
  refine gw_icmp_lt F (tgt := 35) dX1_curve_18 (by decide) g4 (by decide) (fun c5 => ?_) (fun c5 => ?_)
  · have hf := hf.1 c5
    refine gw_iconst F dX1_curve_35 ?_
    exact gr_PI F (by decide) hf (by decide) (by decide) dX1_curve_36
  · have hf := hf.2 c5
    refine gw_iload F 0 rfl dX1_curve_21 ?_
    refine gw_iconst F dX1_curve_23 ?_
    refine gw_icmp_lt F (tgt := 35) dX1_curve_24 (by decide) h3 (by decide) (fun c6 => ?_) (fun c6 => ?_)
    · have hf := hf.1 c6
      refine gw_iconst F dX1_curve_35 ?_
      exact gr_PI F (by decide) hf (by decide) (by decide) dX1_curve_36
    · have hf := hf.2 c6
      refine gw_aload_n F 2 rfl rfl to.1 dX1_curve_27 ?_
      refine gw_iload_n F 5 rfl rfl dX1_curve_28 ?_
      refine gk_PZ F (gc_V F (S := []) (As := [sg_i x3]) (T := TX1) (N := 7) (CX1_has to r3 hf) to (by decide) rfl kw_518 kw_94 kw_515 kw_516 kw_517 hcX1_has ⟨by decide, by decide⟩ rfl rfl (Nat.le_of_ble_eq_true rfl) ⟨by decide, by decide⟩ dX1_curve_29) (fun u7 h8 hf => ?_)
      refine gw_if_ne F (tgt := 37) dX1_curve_32 (by decide) (sg_B_R h8) (fun c9 => ?_) (fun c9 => ?_)
      · have hf := hf.1 c9
        refine gw_iload_n F 3 rfl rfl dX1_curve_37 ?_
        refine gw_iload F 1 rfl dX1_curve_38 ?_
        refine gw_iload_n F 5 rfl rfl dX1_curve_40 ?_
        refine gw_isub F rfl dX1_curve_41 ?_
        refine gw_imul F rfl dX1_curve_42 ?_
        refine gw_iload_n F 4 rfl rfl dX1_curve_43 ?_
        refine gw_iload_n F 5 rfl rfl dX1_curve_44 ?_
        refine gw_imul F rfl dX1_curve_45 ?_
        refine gw_iadd F rfl dX1_curve_46 ?_
        refine gw_iload F 1 rfl dX1_curve_47 ?_
        obtain ⟨g10, hf⟩ := hf
        obtain ⟨g11, hf⟩ := hf
        refine gw_idiv F g10 g4 g11 rfl dX1_curve_49 ?_
        obtain ⟨v12, e13⟩ : ∃ z : Int, z = (Int.tdiv ((x1 * (((s0 o 4) - 1) - x3)) + (x2 * x3)) ((s0 o 4) - 1)) := ⟨_, rfl⟩
        obtain ⟨g14, hf⟩ := hf v12 e13
        refine gw_nmI e13 ?_
        refine gw_istore F (by decide) rfl dX1_curve_50 ?_
        refine gw_iload F 0 rfl dX1_curve_52 ?_
        refine gw_sipush F rfl dX1_curve_54 ?_
        refine gw_imul F rfl dX1_curve_57 ?_
        refine gw_iload F 1 rfl dX1_curve_58 ?_
        obtain ⟨g15, hf⟩ := hf
        obtain ⟨g16, hf⟩ := hf
        refine gw_idiv F g15 h3 g16 rfl dX1_curve_60 ?_
        refine gw_aload_n F 3 rfl rfl to.1 dX1_curve_61 ?_
        refine gw_get3 F to (by decide) rfl sg_lay_RX1 (j := 3) (by decide) (o1 := (o + 4)) (by first | rfl | omega) rfl (host := "") (.inl kw_162) dX1_curve_62 (fun h17 => ?_)
        refine gw_iload_n F 6 rfl rfl dX1_curve_65 ?_
        obtain ⟨⟨b180, b181⟩, hf⟩ := hf
        refine gw_iald F (sg_AN_of (sg_O_of h17 (by decide)) (by decide) (by decide) (by decide)) b180 b181 dX1_curve_66 (fun h19 => ?_)
        refine gw_iadd F rfl dX1_curve_67 ?_
        refine gw_sipush F rfl dX1_curve_68 ?_
        obtain ⟨g20, hf⟩ := hf
        refine gk_PI F (gc_SN F (S := []) (As := [sg_i ((Int.tdiv (v12 * 1000) u2) + (s0 (o + 4) x3)), sg_i 2000]) (CX11_within g20 (by decide) hf) kw_521 kw_90 kw_519 kw_520 hcX11_within ⟨by decide, by decide⟩ rfl rfl (Nat.le_of_ble_eq_true rfl) ⟨by decide, by decide⟩ dX1_curve_71) (fun u21 h22 hf => ?_)
        exact gr_PI F h22 hf (by decide) (by decide) dX1_curve_74
      · have hf := hf.2 c9
        refine gw_iconst F dX1_curve_35 ?_
        exact gr_PI F (by decide) hf (by decide) (by decide) dX1_curve_36

theorem dX4_add_0 : decode cX4_add 0 = .ok (.aload_n 0, 1) := by decide +kernel
theorem dX4_add_1 : decode cX4_add 1 = .ok (.getfield 9, 3) := by decide +kernel
theorem dX4_add_4 : decode cX4_add 4 = .ok (.ifCond .lt 35, 3) := by decide +kernel
theorem dX4_add_7 : decode cX4_add 7 = .ok (.aload_n 0, 1) := by decide +kernel
theorem dX4_add_8 : decode cX4_add 8 = .ok (.getfield 9, 3) := by decide +kernel
theorem dX4_add_11 : decode cX4_add 11 = .ok (.aload_n 0, 1) := by decide +kernel
theorem dX4_add_12 : decode cX4_add 12 = .ok (.getfield 25, 3) := by decide +kernel
theorem dX4_add_15 : decode cX4_add 15 = .ok (.arraylength, 1) := by decide +kernel
theorem dX4_add_16 : decode cX4_add 16 = .ok (.if_icmp .ge 23, 3) := by decide +kernel
theorem dX4_add_19 : decode cX4_add 19 = .ok (.aload_n 0, 1) := by decide +kernel
theorem dX4_add_20 : decode cX4_add 20 = .ok (.getfield 25, 3) := by decide +kernel
theorem dX4_add_23 : decode cX4_add 23 = .ok (.aload_n 0, 1) := by decide +kernel
theorem dX4_add_24 : decode cX4_add 24 = .ok (.getfield 9, 3) := by decide +kernel
theorem dX4_add_27 : decode cX4_add 27 = .ok (.iload_n 1, 1) := by decide +kernel
theorem dX4_add_28 : decode cX4_add 28 = .ok (.iastore, 1) := by decide +kernel
theorem dX4_add_29 : decode cX4_add 29 = .ok (.aload_n 0, 1) := by decide +kernel
theorem dX4_add_30 : decode cX4_add 30 = .ok (.dup, 1) := by decide +kernel
theorem dX4_add_31 : decode cX4_add 31 = .ok (.getfield 9, 3) := by decide +kernel
theorem dX4_add_34 : decode cX4_add 34 = .ok (.iconst 1, 1) := by decide +kernel
theorem dX4_add_35 : decode cX4_add 35 = .ok (.iadd, 1) := by decide +kernel
theorem dX4_add_36 : decode cX4_add 36 = .ok (.putfield 9, 3) := by decide +kernel
theorem dX4_add_39 : decode cX4_add 39 = .ok (.return_, 1) := by decide +kernel
theorem hcX4_add : yX4_add.cls ≠ "java/lang/invoke/MethodHandle" ∧ yX4_add.cls ≠ "java/lang/invoke/VarHandle" ∧ (parseMethodDescriptor yX4_add.desc).map (fun d => d.parameters.length) = some 1 := ⟨by decide +kernel, by decide +kernel, by decide +kernel⟩
def fX4_add (La : sg_L) (s0 : sg_M) (o : Int) (x1 : Int) (Q : sg_M → Prop) : Prop := (((s0 o 1) < 0 → Q s0) ∧ (¬ ((s0 o 1) < 0) → sg_R (sg_ln La (o + 1)) ∧ (((sg_ln La (o + 1)) ≤ (s0 o 1) → Q s0) ∧ (¬ ((sg_ln La (o + 1)) ≤ (s0 o 1)) → (0 ≤ (s0 o 1) ∧ (s0 o 1) < (sg_ln La (o + 1))) ∧ ∀ s10 : sg_M, s10 = sg_up s0 (o + 1) (s0 o 1) x1 → sg_R ((s10 o 1) + 1) ∧ ∀ s14 : sg_M, s14 = sg_up s10 o 1 ((s10 o 1) + 1) → Q s14))))
set_option maxHeartbeats 4000000 in
set_option maxRecDepth 100000 in
theorem CX4_add {l : Launch} {G : sg_G} {La : sg_L} {s0 : sg_M} {o : Int} (to : sg_O La o 4) {x1 : Int} (r1 : sg_R x1) {Q : sg_M → Prop} (hf : fX4_add La s0 o x1 Q) : sg_C l G yX4_add cX4_add 2 (none) 1 0 0 La s0 [sg_r o, sg_i x1] (sg_HV La Q) := by
  refine sg_body (by decide +kernel) (Nat.le_of_ble_eq_true rfl) ?_
  intro p e s m args below meth c F hnm
  unfold fX4_add at hf
  show sg_W p l e (sg_rm 1 0 0) s m args below meth c (MQ below (sg_Q (none) G La s.heap.size (sg_HV La Q)) args s 0 0 (sg_A La s.heap.size)) 2 G (sg_A La s.heap.size) La s0 0 0 0 [(0, sg_r o), (1, sg_i x1)] []
  refine gw_aload_n F 0 rfl rfl to.1 dX4_add_0 ?_
  refine gw_get0 F to (by decide) rfl sg_lay_RX4 (j := 1) (by decide) rfl (host := "") (.inl kw_200) dX4_add_1 (fun h1 => ?_)
  refine gw_if_lt F (tgt := 39) dX4_add_4 (by decide) h1 (fun c2 => ?_) (fun c2 => ?_)
  · have hf := hf.1 c2
    exact gr_HV F hf (by decide) (by decide) dX4_add_39
  · have hf := hf.2 c2
    refine gw_aload_n F 0 rfl rfl to.1 dX4_add_7 ?_
    refine gw_get0 F to (by decide) rfl sg_lay_RX4 (j := 1) (by decide) rfl (host := "") (.inl kw_200) dX4_add_8 (fun h3 => ?_)
    refine gw_aload_n F 0 rfl rfl to.1 dX4_add_11 ?_
    refine gw_get3 F to (by decide) rfl sg_lay_RX4 (j := 0) (by decide) (o1 := (o + 1)) (by first | rfl | omega) rfl (host := "") (.inl kw_199) dX4_add_12 (fun h4 => ?_)
    refine gw_alen F (sg_AN_any h4) dX4_add_15 ?_
    obtain ⟨g5, hf⟩ := hf
    refine gw_icmp_ge F (tgt := 39) dX4_add_16 (by decide) h3 g5 (fun c6 => ?_) (fun c6 => ?_)
    · have hf := hf.1 c6
      exact gr_HV F hf (by decide) (by decide) dX4_add_39
    · have hf := hf.2 c6
      refine gw_aload_n F 0 rfl rfl to.1 dX4_add_19 ?_
      refine gw_get3 F to (by decide) rfl sg_lay_RX4 (j := 0) (by decide) (o1 := (o + 1)) (by first | rfl | omega) rfl (host := "") (.inl kw_199) dX4_add_20 (fun h7 => ?_)
      refine gw_aload_n F 0 rfl rfl to.1 dX4_add_23 ?_
      refine gw_get0 F to (by decide) rfl sg_lay_RX4 (j := 1) (by decide) rfl (host := "") (.inl kw_200) dX4_add_24 (fun h8 => ?_)
      refine gw_iload_n F 1 rfl rfl dX4_add_27 ?_
      obtain ⟨⟨b90, b91⟩, hf⟩ := hf
      obtain ⟨s10, e11⟩ : ∃ z : sg_M, z = sg_up s0 (o + 1) (s0 o 1) x1 := ⟨_, rfl⟩
      have hf := hf s10 e11
      refine gw_iast F (sg_AN_any h7) b90 b91 r1 e11 dX4_add_28 ?_
      refine gw_aload_n F 0 rfl rfl to.1 dX4_add_29 ?_
      refine gw_dup F rfl dX4_add_30 ?_
      refine gw_get0 F to (by decide) rfl sg_lay_RX4 (j := 1) (by decide) rfl (host := "") (.inl kw_200) dX4_add_31 (fun h12 => ?_)
      refine gw_iconst F dX4_add_34 ?_
      refine gw_iadd F rfl dX4_add_35 ?_
      obtain ⟨g13, hf⟩ := hf
      obtain ⟨s14, e15⟩ : ∃ z : sg_M, z = sg_up s10 o 1 ((s10 o 1) + 1) := ⟨_, rfl⟩
      have hf := hf s14 e15
      refine gw_put0 F to (by decide) rfl sg_lay_RX4 (j := 1) (by decide) g13 e15 tyX4_ok nmX4 rfl (tyX4_ok 1 (by decide)) rfl (host := "") (.inl kw_200) dX4_add_36 ?_
      exact gr_HV F hf (by decide) (by decide) dX4_add_39
