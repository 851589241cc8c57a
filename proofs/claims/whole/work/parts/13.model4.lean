theorem dX12_thrown_0 : decode cX12_thrown 0 = .ok (.aload_n 0, 1) := by decide +kernel
theorem dX12_thrown_1 : decode cX12_thrown 1 = .ok (.getfield 84, 3) := by decide +kernel
theorem dX12_thrown_4 : decode cX12_thrown 4 = .ok (.ireturn, 1) := by decide +kernel
theorem hcX12_thrown : yX12_thrown.cls ≠ "java/lang/invoke/MethodHandle" ∧ yX12_thrown.cls ≠ "java/lang/invoke/VarHandle" ∧ (parseMethodDescriptor yX12_thrown.desc).map (fun d => d.parameters.length) = some 0 := ⟨by decide +kernel, by decide +kernel, by decide +kernel⟩
def fX12_thrown (s0 : sg_M) (Q : Int → Prop) : Prop := Q (s0 64 0)
set_option maxHeartbeats 4000000 in
set_option maxRecDepth 100000 in
theorem CX12_thrown {l : Launch} {G : sg_G} {La : sg_L} {s0 : sg_M} (hst : sg_St La) {Q : Int → Prop} (hf : fX12_thrown s0 Q) : sg_C l G yX12_thrown cX12_thrown 1 (some .int) 1 0 0 La s0 [sg_r 64] (sg_PI La s0 Q) := by
  refine sg_body (by decide +kernel) (Nat.le_of_ble_eq_true rfl) ?_
  intro p e s m args below meth c F hnm
  unfold fX12_thrown at hf
  show sg_W p l e (sg_rm 1 0 0) s m args below meth c (MQ below (sg_Q (some .int) G La s.heap.size (sg_PI La s0 Q)) args s 0 0 (sg_A La s.heap.size)) 1 G (sg_A La s.heap.size) La s0 0 0 0 [(0, sg_r 64)] []
  refine gw_aload_n F 0 rfl rfl (by decide) dX12_thrown_0 ?_
  refine gw_get0 F (so_64 hst) (by decide) rfl sg_lay_RX12 (j := 0) (by decide) rfl (host := "") (.inl kw_956) dX12_thrown_1 (fun h1 => ?_)
  exact gr_PI F h1 hf (by decide) (by decide) dX12_thrown_4

theorem dX12_valueOf_0 : decode cX12_valueOf 0 = .ok (.iload_n 1, 1) := by decide +kernel
theorem dX12_valueOf_1 : decode cX12_valueOf 1 = .ok (.tableswitch 60 16 20 #[35, 40, 45, 50, 55], 35) := by decide +kernel
theorem dX12_valueOf_36 : decode cX12_valueOf 36 = .ok (.aload_n 0, 1) := by decide +kernel
theorem dX12_valueOf_37 : decode cX12_valueOf 37 = .ok (.getfield 273, 3) := by decide +kernel
theorem dX12_valueOf_40 : decode cX12_valueOf 40 = .ok (.ireturn, 1) := by decide +kernel
theorem dX12_valueOf_41 : decode cX12_valueOf 41 = .ok (.aload_n 0, 1) := by decide +kernel
theorem dX12_valueOf_42 : decode cX12_valueOf 42 = .ok (.getfield 276, 3) := by decide +kernel
theorem dX12_valueOf_45 : decode cX12_valueOf 45 = .ok (.ireturn, 1) := by decide +kernel
theorem dX12_valueOf_46 : decode cX12_valueOf 46 = .ok (.aload_n 0, 1) := by decide +kernel
theorem dX12_valueOf_47 : decode cX12_valueOf 47 = .ok (.getfield 279, 3) := by decide +kernel
theorem dX12_valueOf_50 : decode cX12_valueOf 50 = .ok (.ireturn, 1) := by decide +kernel
theorem dX12_valueOf_51 : decode cX12_valueOf 51 = .ok (.aload_n 0, 1) := by decide +kernel
theorem dX12_valueOf_52 : decode cX12_valueOf 52 = .ok (.getfield 221, 3) := by decide +kernel
theorem dX12_valueOf_55 : decode cX12_valueOf 55 = .ok (.ireturn, 1) := by decide +kernel
theorem dX12_valueOf_56 : decode cX12_valueOf 56 = .ok (.aload_n 0, 1) := by decide +kernel
theorem dX12_valueOf_57 : decode cX12_valueOf 57 = .ok (.getfield 226, 3) := by decide +kernel
theorem dX12_valueOf_60 : decode cX12_valueOf 60 = .ok (.ireturn, 1) := by decide +kernel
theorem dX12_valueOf_61 : decode cX12_valueOf 61 = .ok (.iload_n 2, 1) := by decide +kernel
theorem dX12_valueOf_62 : decode cX12_valueOf 62 = .ok (.ireturn, 1) := by decide +kernel
theorem hcX12_valueOf : yX12_valueOf.cls ≠ "java/lang/invoke/MethodHandle" ∧ yX12_valueOf.cls ≠ "java/lang/invoke/VarHandle" ∧ (parseMethodDescriptor yX12_valueOf.desc).map (fun d => d.parameters.length) = some 2 := ⟨by decide +kernel, by decide +kernel, by decide +kernel⟩
def fX12_valueOf (s0 : sg_M) (x1 : Int) (x2 : Int) (Q : Int → Prop) : Prop := ((x1 < 16 ∨ 20 < x1 → Q x2) ∧ (x1 = 16 → Q (s0 64 39)) ∧ (x1 = 17 → Q (s0 64 40)) ∧ (x1 = 18 → Q (s0 64 41)) ∧ (x1 = 19 → Q (s0 64 31)) ∧ (x1 = 20 → Q (s0 64 29)))
set_option maxHeartbeats 4000000 in
set_option maxRecDepth 100000 in
theorem CX12_valueOf {l : Launch} {G : sg_G} {La : sg_L} {s0 : sg_M} (hst : sg_St La) {x1 : Int} (r1 : sg_R x1) {x2 : Int} (r2 : sg_R x2) {Q : Int → Prop} (hf : fX12_valueOf s0 x1 x2 Q) : sg_C l G yX12_valueOf cX12_valueOf 3 (some .int) 1 0 0 La s0 [sg_r 64, sg_i x1, sg_i x2] (sg_PI La s0 Q) := by
  refine sg_body (by decide +kernel) (Nat.le_of_ble_eq_true rfl) ?_
  intro p e s m args below meth c F hnm
  unfold fX12_valueOf at hf
  show sg_W p l e (sg_rm 1 0 0) s m args below meth c (MQ below (sg_Q (some .int) G La s.heap.size (sg_PI La s0 Q)) args s 0 0 (sg_A La s.heap.size)) 3 G (sg_A La s.heap.size) La s0 0 0 0 [(0, sg_r 64), (1, sg_i x1), (2, sg_i x2)] []
  refine gw_iload_n F 1 rfl rfl dX12_valueOf_0 ?_
  refine gw_switch F dX12_valueOf_1 r1 (td := 61) (by decide) (fun c1 => ?_) (fun i hi1 hi2 => ?_)
  · have hf := hf.1 c1
    refine gw_iload_n F 2 rfl rfl dX12_valueOf_61 ?_
    exact gr_PI F r2 hf (by decide) (by decide) dX12_valueOf_62
  · rcases (show i = 0 ∨ i = 1 ∨ i = 2 ∨ i = 3 ∨ i = 4 by omega) with rfl | rfl | rfl | rfl | rfl
    · have hf := hf.2.1 (by omega)
      refine ⟨35, 36, rfl, by decide, ?_⟩
      refine gw_aload_n F 0 rfl rfl (by decide) dX12_valueOf_36 ?_
      refine gw_get0 F (so_64 hst) (by decide) rfl sg_lay_RX12 (j := 39) (by decide) rfl (host := "") (.inl kw_995) dX12_valueOf_37 (fun h2 => ?_)
      exact gr_PI F h2 hf (by decide) (by decide) dX12_valueOf_40
    · have hf := hf.2.2.1 (by omega)
      refine ⟨40, 41, rfl, by decide, ?_⟩
      refine gw_aload_n F 0 rfl rfl (by decide) dX12_valueOf_41 ?_
      refine gw_get0 F (so_64 hst) (by decide) rfl sg_lay_RX12 (j := 40) (by decide) rfl (host := "") (.inl kw_996) dX12_valueOf_42 (fun h3 => ?_)
      exact gr_PI F h3 hf (by decide) (by decide) dX12_valueOf_45
    · have hf := hf.2.2.2.1 (by omega)
      refine ⟨45, 46, rfl, by decide, ?_⟩
      refine gw_aload_n F 0 rfl rfl (by decide) dX12_valueOf_46 ?_
      refine gw_get0 F (so_64 hst) (by decide) rfl sg_lay_RX12 (j := 41) (by decide) rfl (host := "") (.inl kw_997) dX12_valueOf_47 (fun h4 => ?_)
      exact gr_PI F h4 hf (by decide) (by decide) dX12_valueOf_50
    · have hf := hf.2.2.2.2.1 (by omega)
      refine ⟨50, 51, rfl, by decide, ?_⟩
      refine gw_aload_n F 0 rfl rfl (by decide) dX12_valueOf_51 ?_
      refine gw_get0 F (so_64 hst) (by decide) rfl sg_lay_RX12 (j := 31) (by decide) rfl (host := "") (.inl kw_987) dX12_valueOf_52 (fun h5 => ?_)
      exact gr_PI F h5 hf (by decide) (by decide) dX12_valueOf_55
    · have hf := hf.2.2.2.2.2 (by omega)
      refine ⟨55, 56, rfl, by decide, ?_⟩
      refine gw_aload_n F 0 rfl rfl (by decide) dX12_valueOf_56 ?_
      refine gw_get0 F (so_64 hst) (by decide) rfl sg_lay_RX12 (j := 29) (by decide) rfl (host := "") (.inl kw_985) dX12_valueOf_57 (fun h6 => ?_)
      exact gr_PI F h6 hf (by decide) (by decide) dX12_valueOf_60

theorem dX12_readTime_0 : decode cX12_readTime 0 = .ok (.aload_n 0, 1) := by decide +kernel
theorem dX12_readTime_1 : decode cX12_readTime 1 = .ok (.bipush 7, 2) := by decide +kernel
theorem dX12_readTime_3 : decode cX12_readTime 3 = .ok (.invokevirtual 289, 3) := by decide +kernel
theorem dX12_readTime_6 : decode cX12_readTime 6 = .ok (.ifCond .ne 5, 3) := by decide +kernel
theorem dX12_readTime_9 : decode cX12_readTime 9 = .ok (.iconst 0, 1) := by decide +kernel
theorem dX12_readTime_10 : decode cX12_readTime 10 = .ok (.ireturn, 1) := by decide +kernel
theorem dX12_readTime_11 : decode cX12_readTime 11 = .ok (.aload_n 0, 1) := by decide +kernel
theorem dX12_readTime_12 : decode cX12_readTime 12 = .ok (.invokevirtual 292, 3) := by decide +kernel
theorem dX12_readTime_15 : decode cX12_readTime 15 = .ok (.ireturn, 1) := by decide +kernel
theorem hcX12_readTime : yX12_readTime.cls ≠ "java/lang/invoke/MethodHandle" ∧ yX12_readTime.cls ≠ "java/lang/invoke/VarHandle" ∧ (parseMethodDescriptor yX12_readTime.desc).map (fun d => d.parameters.length) = some 0 := ⟨by decide +kernel, by decide +kernel, by decide +kernel⟩
def fX12_readTime (s0 : sg_M) (Q : Int → sg_M → Prop) : Prop := fX12_readWord s0 7 (fun u1 s3 => ((u1 ≠ 0 → fX12_readLast s3 (fun u5 s7 => Q u5 s7)) ∧ (u1 = 0 → Q 0 s3)))
set_option maxHeartbeats 4000000 in
set_option maxRecDepth 100000 in
theorem CX12_readTime {l : Launch} {G : sg_G} {La : sg_L} {s0 : sg_M} (hst : sg_St La) {Q : Int → sg_M → Prop} (hf : fX12_readTime s0 Q) : sg_C l G yX12_readTime cX12_readTime 1 (some .boolean) 5 0 0 La s0 [sg_r 64] (sg_HZ La Q) := by
  refine sg_body (by decide +kernel) (Nat.le_of_ble_eq_true rfl) ?_
  intro p e s m args below meth c F hnm
  unfold fX12_readTime at hf
  show sg_W p l e (sg_rm 5 0 0) s m args below meth c (MQ below (sg_Q (some .boolean) G La s.heap.size (sg_HZ La Q)) args s 0 0 (sg_A La s.heap.size)) 1 G (sg_A La s.heap.size) La s0 0 0 0 [(0, sg_r 64)] []
  refine gw_aload_n F 0 rfl rfl (by decide) dX12_readTime_0 ?_
  refine gw_bipush F rfl dX12_readTime_1 ?_
  refine gk_HZ F (gc_V F (S := []) (As := [sg_i 7]) (T := TX12) (N := 62) (CX12_readWord hst (by decide) hf) (so_64 hst) (by decide) rfl kw_1186 kw_103 kw_1184 kw_1185 kw_65 hcX12_readWord ⟨by decide, by decide⟩ rfl rfl (Nat.le_of_ble_eq_true rfl) ⟨by decide, by decide⟩ dX12_readTime_3) (fun u1 s3 h2 hf => ?_)
  refine gw_if_ne F (tgt := 11) dX12_readTime_6 (by decide) (sg_B_R h2) (fun c4 => ?_) (fun c4 => ?_)
  · have hf := hf.1 c4
    refine gw_aload_n F 0 rfl rfl (by decide) dX12_readTime_11 ?_
    refine gk_HZ F (gc_V F (S := []) (As := []) (T := TX12) (N := 62) (CX12_readLast hst hf) (so_64 hst) (by decide) rfl kw_1189 kw_103 kw_1187 kw_1188 kw_66 hcX12_readLast ⟨by decide, by decide⟩ rfl rfl (Nat.le_of_ble_eq_true rfl) ⟨by decide, by decide⟩ dX12_readTime_12) (fun u5 s7 h6 hf => ?_)
    exact gr_HZ F h6 hf (by decide) (by decide) dX12_readTime_15
  · have hf := hf.2 c4
    refine gw_iconst F dX12_readTime_9 ?_
    exact gr_HZ F (by decide) hf (by decide) (by decide) dX12_readTime_10

theorem dX12_readStep_0 : decode cX12_readStep 0 = .ok (.aload_n 0, 1) := by decide +kernel
theorem dX12_readStep_1 : decode cX12_readStep 1 = .ok (.iconst 5, 1) := by decide +kernel
theorem dX12_readStep_2 : decode cX12_readStep 2 = .ok (.invokevirtual 172, 3) := by decide +kernel
theorem dX12_readStep_5 : decode cX12_readStep 5 = .ok (.ifCond .ne 12, 3) := by decide +kernel
theorem dX12_readStep_8 : decode cX12_readStep 8 = .ok (.aload_n 0, 1) := by decide +kernel
theorem dX12_readStep_9 : decode cX12_readStep 9 = .ok (.bipush 6, 2) := by decide +kernel
theorem dX12_readStep_11 : decode cX12_readStep 11 = .ok (.invokevirtual 172, 3) := by decide +kernel
theorem dX12_readStep_14 : decode cX12_readStep 14 = .ok (.ifCond .eq 139, 3) := by decide +kernel
theorem dX12_readStep_17 : decode cX12_readStep 17 = .ok (.aload_n 0, 1) := by decide +kernel
theorem dX12_readStep_18 : decode cX12_readStep 18 = .ok (.bipush 6, 2) := by decide +kernel
theorem dX12_readStep_20 : decode cX12_readStep 20 = .ok (.invokevirtual 172, 3) := by decide +kernel
theorem dX12_readStep_23 : decode cX12_readStep 23 = .ok (.istore_n 1, 1) := by decide +kernel
theorem dX12_readStep_24 : decode cX12_readStep 24 = .ok (.aload_n 0, 1) := by decide +kernel
theorem dX12_readStep_25 : decode cX12_readStep 25 = .ok (.invokevirtual 162, 3) := by decide +kernel
theorem dX12_readStep_28 : decode cX12_readStep 28 = .ok (.aload_n 0, 1) := by decide +kernel
theorem dX12_readStep_29 : decode cX12_readStep 29 = .ok (.sipush 9999, 3) := by decide +kernel
theorem dX12_readStep_32 : decode cX12_readStep 32 = .ok (.invokevirtual 193, 3) := by decide +kernel
theorem dX12_readStep_35 : decode cX12_readStep 35 = .ok (.ifCond .ne 5, 3) := by decide +kernel
theorem dX12_readStep_38 : decode cX12_readStep 38 = .ok (.iconst 0, 1) := by decide +kernel
theorem dX12_readStep_39 : decode cX12_readStep 39 = .ok (.ireturn, 1) := by decide +kernel
theorem dX12_readStep_40 : decode cX12_readStep 40 = .ok (.aload_n 0, 1) := by decide +kernel
theorem dX12_readStep_41 : decode cX12_readStep 41 = .ok (.getfield 159, 3) := by decide +kernel
theorem dX12_readStep_44 : decode cX12_readStep 44 = .ok (.istore_n 2, 1) := by decide +kernel
theorem dX12_readStep_45 : decode cX12_readStep 45 = .ok (.aload_n 0, 1) := by decide +kernel
theorem dX12_readStep_46 : decode cX12_readStep 46 = .ok (.sipush 9999, 3) := by decide +kernel
theorem dX12_readStep_49 : decode cX12_readStep 49 = .ok (.invokevirtual 193, 3) := by decide +kernel
theorem dX12_readStep_52 : decode cX12_readStep 52 = .ok (.ifCond .ne 5, 3) := by decide +kernel
theorem dX12_readStep_55 : decode cX12_readStep 55 = .ok (.iconst 0, 1) := by decide +kernel
theorem dX12_readStep_56 : decode cX12_readStep 56 = .ok (.ireturn, 1) := by decide +kernel
theorem dX12_readStep_57 : decode cX12_readStep 57 = .ok (.aload_n 0, 1) := by decide +kernel
theorem dX12_readStep_58 : decode cX12_readStep 58 = .ok (.getfield 159, 3) := by decide +kernel
theorem dX12_readStep_61 : decode cX12_readStep 61 = .ok (.istore_n 3, 1) := by decide +kernel
theorem dX12_readStep_62 : decode cX12_readStep 62 = .ok (.iconst 0, 1) := by decide +kernel
theorem dX12_readStep_63 : decode cX12_readStep 63 = .ok (.istore 4, 2) := by decide +kernel
theorem dX12_readStep_65 : decode cX12_readStep 65 = .ok (.iload_n 1, 1) := by decide +kernel
theorem dX12_readStep_66 : decode cX12_readStep 66 = .ok (.ifCond .eq 18, 3) := by decide +kernel
theorem dX12_readStep_69 : decode cX12_readStep 69 = .ok (.aload_n 0, 1) := by decide +kernel
theorem dX12_readStep_70 : decode cX12_readStep 70 = .ok (.invokevirtual 298, 3) := by decide +kernel
theorem dX12_readStep_73 : decode cX12_readStep 73 = .ok (.ifCond .ne 5, 3) := by decide +kernel
theorem dX12_readStep_76 : decode cX12_readStep 76 = .ok (.iconst 0, 1) := by decide +kernel
theorem dX12_readStep_77 : decode cX12_readStep 77 = .ok (.ireturn, 1) := by decide +kernel
theorem dX12_readStep_78 : decode cX12_readStep 78 = .ok (.aload_n 0, 1) := by decide +kernel
theorem dX12_readStep_79 : decode cX12_readStep 79 = .ok (.getfield 159, 3) := by decide +kernel
theorem dX12_readStep_82 : decode cX12_readStep 82 = .ok (.istore 4, 2) := by decide +kernel
theorem dX12_readStep_84 : decode cX12_readStep 84 = .ok (.iconst 1, 1) := by decide +kernel
theorem dX12_readStep_85 : decode cX12_readStep 85 = .ok (.istore 5, 2) := by decide +kernel
theorem dX12_readStep_87 : decode cX12_readStep 87 = .ok (.iload 5, 2) := by decide +kernel
theorem dX12_readStep_89 : decode cX12_readStep 89 = .ok (.iload 4, 2) := by decide +kernel
theorem dX12_readStep_91 : decode cX12_readStep 91 = .ok (.if_icmp .gt 47, 3) := by decide +kernel
theorem dX12_readStep_94 : decode cX12_readStep 94 = .ok (.aload_n 0, 1) := by decide +kernel
theorem dX12_readStep_95 : decode cX12_readStep 95 = .ok (.aload_n 0, 1) := by decide +kernel
theorem dX12_readStep_96 : decode cX12_readStep 96 = .ok (.getfield 301, 3) := by decide +kernel
theorem dX12_readStep_99 : decode cX12_readStep 99 = .ok (.iload_n 2, 1) := by decide +kernel
theorem dX12_readStep_100 : decode cX12_readStep 100 = .ok (.aload_n 0, 1) := by decide +kernel
theorem dX12_readStep_101 : decode cX12_readStep 101 = .ok (.getfield 301, 3) := by decide +kernel
theorem dX12_readStep_104 : decode cX12_readStep 104 = .ok (.isub, 1) := by decide +kernel
theorem dX12_readStep_105 : decode cX12_readStep 105 = .ok (.iload 5, 2) := by decide +kernel
theorem dX12_readStep_107 : decode cX12_readStep 107 = .ok (.imul, 1) := by decide +kernel
theorem dX12_readStep_108 : decode cX12_readStep 108 = .ok (.iload 4, 2) := by decide +kernel
theorem dX12_readStep_110 : decode cX12_readStep 110 = .ok (.idiv, 1) := by decide +kernel
theorem dX12_readStep_111 : decode cX12_readStep 111 = .ok (.iadd, 1) := by decide +kernel
theorem dX12_readStep_112 : decode cX12_readStep 112 = .ok (.aload_n 0, 1) := by decide +kernel
theorem dX12_readStep_113 : decode cX12_readStep 113 = .ok (.getfield 304, 3) := by decide +kernel
theorem dX12_readStep_116 : decode cX12_readStep 116 = .ok (.iload_n 3, 1) := by decide +kernel
theorem dX12_readStep_117 : decode cX12_readStep 117 = .ok (.aload_n 0, 1) := by decide +kernel
theorem dX12_readStep_118 : decode cX12_readStep 118 = .ok (.getfield 304, 3) := by decide +kernel
theorem dX12_readStep_121 : decode cX12_readStep 121 = .ok (.isub, 1) := by decide +kernel
theorem dX12_readStep_122 : decode cX12_readStep 122 = .ok (.iload 5, 2) := by decide +kernel
theorem dX12_readStep_124 : decode cX12_readStep 124 = .ok (.imul, 1) := by decide +kernel
theorem dX12_readStep_125 : decode cX12_readStep 125 = .ok (.iload 4, 2) := by decide +kernel
theorem dX12_readStep_127 : decode cX12_readStep 127 = .ok (.idiv, 1) := by decide +kernel
theorem dX12_readStep_128 : decode cX12_readStep 128 = .ok (.iadd, 1) := by decide +kernel
theorem dX12_readStep_129 : decode cX12_readStep 129 = .ok (.invokevirtual 307, 3) := by decide +kernel
theorem dX12_readStep_132 : decode cX12_readStep 132 = .ok (.iinc 5 1, 3) := by decide +kernel
theorem dX12_readStep_135 : decode cX12_readStep 135 = .ok (.goto (-48), 3) := by decide +kernel
theorem dX12_readStep_138 : decode cX12_readStep 138 = .ok (.aload_n 0, 1) := by decide +kernel
theorem dX12_readStep_139 : decode cX12_readStep 139 = .ok (.iload_n 2, 1) := by decide +kernel
theorem dX12_readStep_140 : decode cX12_readStep 140 = .ok (.putfield 301, 3) := by decide +kernel
theorem dX12_readStep_143 : decode cX12_readStep 143 = .ok (.aload_n 0, 1) := by decide +kernel
theorem dX12_readStep_144 : decode cX12_readStep 144 = .ok (.iload_n 3, 1) := by decide +kernel
theorem dX12_readStep_145 : decode cX12_readStep 145 = .ok (.putfield 304, 3) := by decide +kernel
theorem dX12_readStep_148 : decode cX12_readStep 148 = .ok (.aload_n 0, 1) := by decide +kernel
theorem dX12_readStep_149 : decode cX12_readStep 149 = .ok (.invokevirtual 189, 3) := by decide +kernel
theorem dX12_readStep_152 : decode cX12_readStep 152 = .ok (.ireturn, 1) := by decide +kernel
theorem dX12_readStep_153 : decode cX12_readStep 153 = .ok (.aload_n 0, 1) := by decide +kernel
theorem dX12_readStep_154 : decode cX12_readStep 154 = .ok (.bipush 8, 2) := by decide +kernel
theorem dX12_readStep_156 : decode cX12_readStep 156 = .ok (.invokevirtual 172, 3) := by decide +kernel
theorem dX12_readStep_159 : decode cX12_readStep 159 = .ok (.ifCond .eq 107, 3) := by decide +kernel
theorem dX12_readStep_162 : decode cX12_readStep 162 = .ok (.aload_n 0, 1) := by decide +kernel
theorem dX12_readStep_163 : decode cX12_readStep 163 = .ok (.invokevirtual 162, 3) := by decide +kernel
theorem dX12_readStep_166 : decode cX12_readStep 166 = .ok (.aload_n 0, 1) := by decide +kernel
theorem dX12_readStep_167 : decode cX12_readStep 167 = .ok (.iconst 0, 1) := by decide +kernel
theorem dX12_readStep_168 : decode cX12_readStep 168 = .ok (.sipush 999, 3) := by decide +kernel
theorem dX12_readStep_171 : decode cX12_readStep 171 = .ok (.invokevirtual 168, 3) := by decide +kernel
theorem dX12_readStep_174 : decode cX12_readStep 174 = .ok (.ifCond .ne 5, 3) := by decide +kernel
theorem dX12_readStep_177 : decode cX12_readStep 177 = .ok (.iconst 0, 1) := by decide +kernel
theorem dX12_readStep_178 : decode cX12_readStep 178 = .ok (.ireturn, 1) := by decide +kernel
theorem dX12_readStep_179 : decode cX12_readStep 179 = .ok (.aload_n 0, 1) := by decide +kernel
theorem dX12_readStep_180 : decode cX12_readStep 180 = .ok (.getfield 159, 3) := by decide +kernel
theorem dX12_readStep_183 : decode cX12_readStep 183 = .ok (.istore_n 1, 1) := by decide +kernel
theorem dX12_readStep_184 : decode cX12_readStep 184 = .ok (.aload_n 0, 1) := by decide +kernel
theorem dX12_readStep_185 : decode cX12_readStep 185 = .ok (.invokevirtual 298, 3) := by decide +kernel
theorem dX12_readStep_188 : decode cX12_readStep 188 = .ok (.ifCond .ne 5, 3) := by decide +kernel
theorem dX12_readStep_191 : decode cX12_readStep 191 = .ok (.iconst 0, 1) := by decide +kernel
theorem dX12_readStep_192 : decode cX12_readStep 192 = .ok (.ireturn, 1) := by decide +kernel
theorem dX12_readStep_193 : decode cX12_readStep 193 = .ok (.aload_n 0, 1) := by decide +kernel
theorem dX12_readStep_194 : decode cX12_readStep 194 = .ok (.getfield 159, 3) := by decide +kernel
theorem dX12_readStep_197 : decode cX12_readStep 197 = .ok (.istore_n 2, 1) := by decide +kernel
theorem dX12_readStep_198 : decode cX12_readStep 198 = .ok (.iconst 1, 1) := by decide +kernel
theorem dX12_readStep_199 : decode cX12_readStep 199 = .ok (.istore_n 3, 1) := by decide +kernel
theorem dX12_readStep_200 : decode cX12_readStep 200 = .ok (.iload_n 3, 1) := by decide +kernel
theorem dX12_readStep_201 : decode cX12_readStep 201 = .ok (.iload_n 2, 1) := by decide +kernel
theorem dX12_readStep_202 : decode cX12_readStep 202 = .ok (.if_icmp .gt 59, 3) := by decide +kernel
theorem dX12_readStep_205 : decode cX12_readStep 205 = .ok (.aload_n 0, 1) := by decide +kernel
theorem dX12_readStep_206 : decode cX12_readStep 206 = .ok (.aload_n 0, 1) := by decide +kernel
theorem dX12_readStep_207 : decode cX12_readStep 207 = .ok (.getfield 301, 3) := by decide +kernel
theorem dX12_readStep_210 : decode cX12_readStep 210 = .ok (.iload_n 3, 1) := by decide +kernel
theorem dX12_readStep_211 : decode cX12_readStep 211 = .ok (.iconst 4, 1) := by decide +kernel
theorem dX12_readStep_212 : decode cX12_readStep 212 = .ok (.irem, 1) := by decide +kernel
theorem dX12_readStep_213 : decode cX12_readStep 213 = .ok (.iconst 1, 1) := by decide +kernel
theorem dX12_readStep_214 : decode cX12_readStep 214 = .ok (.if_icmp .ne 15, 3) := by decide +kernel
theorem dX12_readStep_217 : decode cX12_readStep 217 = .ok (.aload_n 0, 1) := by decide +kernel
theorem dX12_readStep_218 : decode cX12_readStep 218 = .ok (.getfield 304, 3) := by decide +kernel
theorem dX12_readStep_221 : decode cX12_readStep 221 = .ok (.iload_n 1, 1) := by decide +kernel
theorem dX12_readStep_222 : decode cX12_readStep 222 = .ok (.iadd, 1) := by decide +kernel
theorem dX12_readStep_223 : decode cX12_readStep 223 = .ok (.invokestatic 311, 3) := by decide +kernel
theorem dX12_readStep_226 : decode cX12_readStep 226 = .ok (.goto 26, 3) := by decide +kernel
theorem dX12_readStep_229 : decode cX12_readStep 229 = .ok (.iload_n 3, 1) := by decide +kernel
theorem dX12_readStep_230 : decode cX12_readStep 230 = .ok (.iconst 4, 1) := by decide +kernel
theorem dX12_readStep_231 : decode cX12_readStep 231 = .ok (.irem, 1) := by decide +kernel
theorem dX12_readStep_232 : decode cX12_readStep 232 = .ok (.iconst 3, 1) := by decide +kernel
theorem dX12_readStep_233 : decode cX12_readStep 233 = .ok (.if_icmp .ne 15, 3) := by decide +kernel
theorem dX12_readStep_236 : decode cX12_readStep 236 = .ok (.aload_n 0, 1) := by decide +kernel
theorem dX12_readStep_237 : decode cX12_readStep 237 = .ok (.getfield 304, 3) := by decide +kernel
theorem dX12_readStep_240 : decode cX12_readStep 240 = .ok (.iload_n 1, 1) := by decide +kernel
theorem dX12_readStep_241 : decode cX12_readStep 241 = .ok (.isub, 1) := by decide +kernel
theorem dX12_readStep_242 : decode cX12_readStep 242 = .ok (.invokestatic 311, 3) := by decide +kernel
theorem dX12_readStep_245 : decode cX12_readStep 245 = .ok (.goto 7, 3) := by decide +kernel
theorem dX12_readStep_248 : decode cX12_readStep 248 = .ok (.aload_n 0, 1) := by decide +kernel
theorem dX12_readStep_249 : decode cX12_readStep 249 = .ok (.getfield 304, 3) := by decide +kernel
theorem dX12_readStep_252 : decode cX12_readStep 252 = .ok (.invokevirtual 307, 3) := by decide +kernel
theorem dX12_readStep_255 : decode cX12_readStep 255 = .ok (.iinc 3 1, 3) := by decide +kernel
theorem dX12_readStep_258 : decode cX12_readStep 258 = .ok (.goto (-58), 3) := by decide +kernel
theorem dX12_readStep_261 : decode cX12_readStep 261 = .ok (.aload_n 0, 1) := by decide +kernel
theorem dX12_readStep_262 : decode cX12_readStep 262 = .ok (.invokevirtual 189, 3) := by decide +kernel
theorem dX12_readStep_265 : decode cX12_readStep 265 = .ok (.ireturn, 1) := by decide +kernel
theorem dX12_readStep_266 : decode cX12_readStep 266 = .ok (.aload_n 0, 1) := by decide +kernel
theorem dX12_readStep_267 : decode cX12_readStep 267 = .ok (.bipush 9, 2) := by decide +kernel
theorem dX12_readStep_269 : decode cX12_readStep 269 = .ok (.invokevirtual 289, 3) := by decide +kernel
theorem dX12_readStep_272 : decode cX12_readStep 272 = .ok (.ifCond .eq 10, 3) := by decide +kernel
theorem dX12_readStep_275 : decode cX12_readStep 275 = .ok (.aload_n 0, 1) := by decide +kernel
theorem dX12_readStep_276 : decode cX12_readStep 276 = .ok (.invokevirtual 292, 3) := by decide +kernel
theorem dX12_readStep_279 : decode cX12_readStep 279 = .ok (.ifCond .ne 5, 3) := by decide +kernel
theorem dX12_readStep_282 : decode cX12_readStep 282 = .ok (.iconst 0, 1) := by decide +kernel
theorem dX12_readStep_283 : decode cX12_readStep 283 = .ok (.ireturn, 1) := by decide +kernel
theorem dX12_readStep_284 : decode cX12_readStep 284 = .ok (.aload_n 0, 1) := by decide +kernel
theorem dX12_readStep_285 : decode cX12_readStep 285 = .ok (.getfield 159, 3) := by decide +kernel
theorem dX12_readStep_288 : decode cX12_readStep 288 = .ok (.istore_n 1, 1) := by decide +kernel
theorem dX12_readStep_289 : decode cX12_readStep 289 = .ok (.iconst 0, 1) := by decide +kernel
theorem dX12_readStep_290 : decode cX12_readStep 290 = .ok (.istore_n 2, 1) := by decide +kernel
theorem dX12_readStep_291 : decode cX12_readStep 291 = .ok (.iload_n 2, 1) := by decide +kernel
theorem dX12_readStep_292 : decode cX12_readStep 292 = .ok (.iload_n 1, 1) := by decide +kernel
theorem dX12_readStep_293 : decode cX12_readStep 293 = .ok (.if_icmp .ge 21, 3) := by decide +kernel
theorem dX12_readStep_296 : decode cX12_readStep 296 = .ok (.aload_n 0, 1) := by decide +kernel
theorem dX12_readStep_297 : decode cX12_readStep 297 = .ok (.aload_n 0, 1) := by decide +kernel
theorem dX12_readStep_298 : decode cX12_readStep 298 = .ok (.getfield 301, 3) := by decide +kernel
theorem dX12_readStep_301 : decode cX12_readStep 301 = .ok (.aload_n 0, 1) := by decide +kernel
theorem dX12_readStep_302 : decode cX12_readStep 302 = .ok (.getfield 304, 3) := by decide +kernel
theorem dX12_readStep_305 : decode cX12_readStep 305 = .ok (.invokevirtual 307, 3) := by decide +kernel
theorem dX12_readStep_308 : decode cX12_readStep 308 = .ok (.iinc 2 1, 3) := by decide +kernel
theorem dX12_readStep_311 : decode cX12_readStep 311 = .ok (.goto (-20), 3) := by decide +kernel
theorem dX12_readStep_314 : decode cX12_readStep 314 = .ok (.aload_n 0, 1) := by decide +kernel
theorem dX12_readStep_315 : decode cX12_readStep 315 = .ok (.invokevirtual 189, 3) := by decide +kernel
theorem dX12_readStep_318 : decode cX12_readStep 318 = .ok (.ireturn, 1) := by decide +kernel
theorem hcX12_readStep : yX12_readStep.cls ≠ "java/lang/invoke/MethodHandle" ∧ yX12_readStep.cls ≠ "java/lang/invoke/VarHandle" ∧ (parseMethodDescriptor yX12_readStep.desc).map (fun d => d.parameters.length) = some 0 := ⟨by decide +kernel, by decide +kernel, by decide +kernel⟩
def fX12_readStep_L87 (s8 : sg_M) (s13 : sg_M) (x4_84 : Int) (Q : Int → sg_M → Prop) : Nat → sg_M → Int → Prop
  | 0, _, _ => False
  | n_87 + 1, s_87, x5_87 => ((x4_84 < x5_87 → ∀ s17 : sg_M, s17 = sg_up s_87 64 44 (s8 64 13) → ∀ s19 : sg_M, s19 = sg_up s17 64 45 (s13 64 13) → fX12_readEnd s19 (fun u21 s23 => Q u21 s23)) ∧ (¬ (x4_84 < x5_87) → sg_R (((s8 64 13) - (s_87 64 44)) * x5_87) ∧ (x4_84 ≠ 0) ∧ sg_R (((s13 64 13) - (s_87 64 45)) * x5_87) ∧ (x4_84 ≠ 0) ∧ sg_R ((s_87 64 44) + (Int.tdiv (((s8 64 13) - (s_87 64 44)) * x5_87) x4_84)) ∧ sg_R ((s_87 64 45) + (Int.tdiv (((s13 64 13) - (s_87 64 45)) * x5_87) x4_84)) ∧ fX12_tickTo s_87 ((s_87 64 44) + (Int.tdiv (((s8 64 13) - (s_87 64 44)) * x5_87) x4_84)) ((s_87 64 45) + (Int.tdiv (((s13 64 13) - (s_87 64 45)) * x5_87) x4_84)) (fun s34 => sg_R (x5_87 + 1) ∧ (fX12_readStep_L87 s8 s13 x4_84 Q n_87) s34 (x5_87 + 1))))
def fX12_readStep_j84 (s8 : sg_M) (s13 : sg_M) (Q : Int → sg_M → Prop) (s_84 : sg_M) (x4_84 : Int) : Prop := (∃ n36 : Nat, fX12_readStep_L87 s8 s13 x4_84 Q n36 s_84 1)
def fX12_readStep_j17 (s0 : sg_M) (Q : Int → sg_M → Prop)  : Prop := fX12_isWord s0 6 (fun u3 => fX12_go s0 (fun s5 => fX12_readSigned s5 9999 (fun u6 s8 => ((u6 ≠ 0 → fX12_readSigned s8 9999 (fun u11 s13 => ((u11 ≠ 0 → ((u3 = 0 → (fX12_readStep_j84 s8 s13 Q) s13 0) ∧ (¬ (u3 = 0) → fX12_readTime s13 (fun u38 s40 => ((u38 ≠ 0 → (fX12_readStep_j84 s8 s13 Q) s40 (s40 64 13)) ∧ (u38 = 0 → Q 0 s40)))))) ∧ (u11 = 0 → Q 0 s13)))) ∧ (u6 = 0 → Q 0 s8)))))
def fX12_readStep_L291 (s56 : sg_M) (Q : Int → sg_M → Prop) : Nat → sg_M → Int → Prop
  | 0, _, _ => False
  | n_291 + 1, s_291, x2_291 => (((s56 64 13) ≤ x2_291 → fX12_readEnd s_291 (fun u60 s62 => Q u60 s62)) ∧ (¬ ((s56 64 13) ≤ x2_291) → fX12_tickTo s_291 (s_291 64 44) (s_291 64 45) (fun s65 => sg_R (x2_291 + 1) ∧ (fX12_readStep_L291 s56 Q n_291) s65 (x2_291 + 1))))
def fX12_readStep_j252 (s_200 : sg_M) (x3_200 : Int) (k200 : sg_M → Int → Prop) (y0_252 : Int) : Prop := fX12_tickTo s_200 (s_200 64 44) y0_252 (fun s84 => sg_R (x3_200 + 1) ∧ k200 s84 (x3_200 + 1))
def fX12_readStep_L200 (s71 : sg_M) (s76 : sg_M) (Q : Int → sg_M → Prop) : Nat → sg_M → Int → Prop
  | 0, _, _ => False
  | n_200 + 1, s_200, x3_200 => (((s76 64 13) < x3_200 → fX12_readEnd s_200 (fun u80 s82 => Q u80 s82)) ∧ (¬ ((s76 64 13) < x3_200) → sg_R (Int.tmod x3_200 4) ∧ (((Int.tmod x3_200 4) ≠ 1 → sg_R (Int.tmod x3_200 4) ∧ (((Int.tmod x3_200 4) ≠ 3 → (fX12_readStep_j252 s_200 x3_200 (fX12_readStep_L200 s71 s76 Q n_200)) (s_200 64 45)) ∧ ((Int.tmod x3_200 4) = 3 → sg_R ((s_200 64 45) - (s71 64 13)) ∧ fX12_cut ((s_200 64 45) - (s71 64 13)) (fun u93 => (fX12_readStep_j252 s_200 x3_200 (fX12_readStep_L200 s71 s76 Q n_200)) u93)))) ∧ ((Int.tmod x3_200 4) = 1 → sg_R ((s_200 64 45) + (s71 64 13)) ∧ fX12_cut ((s_200 64 45) + (s71 64 13)) (fun u97 => (fX12_readStep_j252 s_200 x3_200 (fX12_readStep_L200 s71 s76 Q n_200)) u97)))))
def fX12_readStep (s0 : sg_M) (Q : Int → sg_M → Prop) : Prop := fX12_isWord s0 5 (fun u1 => ((u1 ≠ 0 → (fX12_readStep_j17 s0 Q)) ∧ (u1 = 0 → fX12_isWord s0 6 (fun u44 => ((u44 = 0 → fX12_isWord s0 8 (fun u47 => ((u47 = 0 → fX12_readWord s0 9 (fun u50 s52 => ((u50 = 0 → Q 0 s52) ∧ (¬ (u50 = 0) → fX12_readLast s52 (fun u54 s56 => ((u54 ≠ 0 → (∃ n67 : Nat, fX12_readStep_L291 s56 Q n67 s56 0)) ∧ (u54 = 0 → Q 0 s56))))))) ∧ (¬ (u47 = 0) → fX12_go s0 (fun s68 => fX12_readNumber s68 0 999 (fun u69 s71 => ((u69 ≠ 0 → fX12_readTime s71 (fun u74 s76 => ((u74 ≠ 0 → (∃ n99 : Nat, fX12_readStep_L200 s71 s76 Q n99 s76 1)) ∧ (u74 = 0 → Q 0 s76)))) ∧ (u69 = 0 → Q 0 s71)))))))) ∧ (¬ (u44 = 0) → (fX12_readStep_j17 s0 Q)))))))
set_option maxHeartbeats 4000000 in
set_option maxRecDepth 100000 in
theorem CX12_readStep {l : Launch} {G : sg_G} {La : sg_L} {s0 : sg_M} (hst : sg_St La) {Q : Int → sg_M → Prop} (hf : fX12_readStep s0 Q) : sg_C l G yX12_readStep cX12_readStep 6 (some .boolean) 6 0 0 La s0 [sg_r 64] (sg_HZ La Q) := by
  refine sg_body (by decide +kernel) (Nat.le_of_ble_eq_true rfl) ?_
  intro p e s m args below meth c F hnm
  unfold fX12_readStep at hf
  show sg_W p l e (sg_rm 6 0 0) s m args below meth c (MQ below (sg_Q (some .boolean) G La s.heap.size (sg_HZ La Q)) args s 0 0 (sg_A La s.heap.size)) 6 G (sg_A La s.heap.size) La s0 0 0 0 [(0, sg_r 64)] []
  refine gw_aload_n F 0 rfl rfl (by decide) dX12_readStep_0 ?_
  refine gw_iconst F dX12_readStep_1 ?_
  refine gk_PZ F (gc_V F (S := []) (As := [sg_i 5]) (T := TX12) (N := 62) (CX12_isWord hst (by decide) hf) (so_64 hst) (by decide) rfl kw_1066 kw_103 kw_1064 kw_1065 kw_46 hcX12_isWord ⟨by decide, by decide⟩ rfl rfl (Nat.le_of_ble_eq_true rfl) ⟨by decide, by decide⟩ dX12_readStep_2) (fun u1 h2 hf => ?_)
  have J17 : (fX12_readStep_j17 s0 Q) → sg_W p l e (sg_rm 6 0 0) s m args below meth c (MQ below (sg_Q (some .boolean) G La s.heap.size (sg_HZ La Q)) args s 0 0 (sg_A La s.heap.size)) 6 G (sg_A La s.heap.size) La s0 0 0 17 [(0, sg_r 64)] [] := by
    intro hf
    unfold fX12_readStep_j17 at hf
    refine gw_aload_n F 0 rfl rfl (by decide) dX12_readStep_17 ?_
    refine gw_bipush F rfl dX12_readStep_18 ?_
    refine gk_PZ F (gc_V F (S := []) (As := [sg_i 6]) (T := TX12) (N := 62) (CX12_isWord hst (by decide) hf) (so_64 hst) (by decide) rfl kw_1066 kw_103 kw_1064 kw_1065 kw_46 hcX12_isWord ⟨by decide, by decide⟩ rfl rfl (Nat.le_of_ble_eq_true rfl) ⟨by decide, by decide⟩ dX12_readStep_20) (fun u3 h4 hf => ?_)
    refine gw_istore_n F rfl (by decide) rfl dX12_readStep_23 ?_
    refine gw_aload_n F 1 rfl rfl (by decide) dX12_readStep_24 ?_
    refine gk_HV F (gc_V F (S := []) (As := []) (T := TX12) (N := 62) (CX12_go hst hf) (so_64 hst) (by decide) rfl kw_1049 kw_103 kw_1047 kw_1048 kw_43 hcX12_go ⟨by decide, by decide⟩ rfl rfl (Nat.le_of_ble_eq_true rfl) ⟨by decide, by decide⟩ dX12_readStep_25) (fun s5 hf => ?_)
    refine gw_aload_n F 1 rfl rfl (by decide) dX12_readStep_28 ?_
    refine gw_sipush F rfl dX12_readStep_29 ?_
    refine gk_HZ F (gc_V F (S := []) (As := [sg_i 9999]) (T := TX12) (N := 62) (CX12_readSigned hst (by decide) hf) (so_64 hst) (by decide) rfl kw_1093 kw_103 kw_1091 kw_1092 kw_51 hcX12_readSigned ⟨by decide, by decide⟩ rfl rfl (Nat.le_of_ble_eq_true rfl) ⟨by decide, by decide⟩ dX12_readStep_32) (fun u6 s8 h7 hf => ?_)
    refine gw_if_ne F (tgt := 40) dX12_readStep_35 (by decide) (sg_B_R h7) (fun c9 => ?_) (fun c9 => ?_)
    · have hf := hf.1 c9
      refine gw_aload_n F 1 rfl rfl (by decide) dX12_readStep_40 ?_
      refine gw_get0 F (so_64 hst) (by decide) rfl sg_lay_RX12 (j := 13) (by decide) rfl (host := "") (.inl kw_969) dX12_readStep_41 (fun h10 => ?_)
      refine gw_istore_n F rfl (by decide) rfl dX12_readStep_44 ?_
      refine gw_aload_n F 2 rfl rfl (by decide) dX12_readStep_45 ?_
      refine gw_sipush F rfl dX12_readStep_46 ?_
      refine gk_HZ F (gc_V F (S := []) (As := [sg_i 9999]) (T := TX12) (N := 62) (CX12_readSigned hst (by decide) hf) (so_64 hst) (by decide) rfl kw_1093 kw_103 kw_1091 kw_1092 kw_51 hcX12_readSigned ⟨by decide, by decide⟩ rfl rfl (Nat.le_of_ble_eq_true rfl) ⟨by decide, by decide⟩ dX12_readStep_49) (fun u11 s13 h12 hf => ?_)
      refine gw_if_ne F (tgt := 57) dX12_readStep_52 (by decide) (sg_B_R h12) (fun c14 => ?_) (fun c14 => ?_)
      · have hf := hf.1 c14
        refine gw_aload_n F 2 rfl rfl (by decide) dX12_readStep_57 ?_
        refine gw_get0 F (so_64 hst) (by decide) rfl sg_lay_RX12 (j := 13) (by decide) rfl (host := "") (.inl kw_969) dX12_readStep_58 (fun h15 => ?_)
        refine gw_istore_n F rfl (by decide) rfl dX12_readStep_61 ?_
        refine gw_iconst F dX12_readStep_62 ?_
        refine gw_istore F (by decide) rfl dX12_readStep_63 ?_
        refine gw_iload_n F 3 rfl rfl dX12_readStep_65 ?_
        have J84 : ∀ (s_84 : sg_M) (x4_84 : Int), sg_R x4_84 → (fX12_readStep_j84 s8 s13 Q) s_84 x4_84 → sg_W p l e (sg_rm 6 0 0) s m args below meth c (MQ below (sg_Q (some .boolean) G La s.heap.size (sg_HZ La Q)) args s 0 0 (sg_A La s.heap.size)) 6 G (sg_A La s.heap.size) La s_84 0 0 84 [(0, sg_r 64), (2, sg_i (s8 64 13)), (3, sg_i (s13 64 13)), (4, sg_i x4_84)] [] := by
          intro s_84 x4_84 r4_84 hf
          unfold fX12_readStep_j84 at hf
          refine gw_iconst F dX12_readStep_84 ?_
          refine gw_istore F (by decide) rfl dX12_readStep_85 ?_
          have L87 : ∀ n_87 : Nat, ∀ (s_87 : sg_M) (x5_87 : Int), sg_R x5_87 → fX12_readStep_L87 s8 s13 x4_84 Q n_87 s_87 x5_87 → sg_W p l e (sg_rm 6 0 0) s m args below meth c (MQ below (sg_Q (some .boolean) G La s.heap.size (sg_HZ La Q)) args s 0 0 (sg_A La s.heap.size)) 6 G (sg_A La s.heap.size) La s_87 0 0 87 [(0, sg_r 64), (2, sg_i (s8 64 13)), (3, sg_i (s13 64 13)), (4, sg_i x4_84), (5, sg_i x5_87)] [] := by
            intro n_87
            induction n_87 with
            | zero => intro s_87 x5_87 r5_87 hf; exact hf.elim
            | succ n_87 ih =>
              intro s_87 x5_87 r5_87 hf
              unfold fX12_readStep_L87 at hf
              refine gw_iload F 4 rfl dX12_readStep_87 ?_
              refine gw_iload F 3 rfl dX12_readStep_89 ?_
              refine gw_icmp_gt F (tgt := 138) dX12_readStep_91 (by decide) r5_87 r4_84 (fun c16 => ?_) (fun c16 => ?_)
              · have hf := hf.1 c16
                refine gw_aload_n F 0 rfl rfl (by decide) dX12_readStep_138 ?_
                refine gw_iload_n F 1 rfl rfl dX12_readStep_139 ?_
                obtain ⟨s17, e18⟩ : ∃ z : sg_M, z = sg_up s_87 64 44 (s8 64 13) := ⟨_, rfl⟩
                have hf := hf s17 e18
                refine gw_put0 F (so_64 hst) (by decide) rfl sg_lay_RX12 (j := 44) (by decide) h10 e18 tyX12_ok nmX12 rfl (tyX12_ok 44 (by decide)) rfl (host := "") (.inl kw_1000) dX12_readStep_140 ?_
                refine gw_aload_n F 0 rfl rfl (by decide) dX12_readStep_143 ?_
                refine gw_iload_n F 2 rfl rfl dX12_readStep_144 ?_
                obtain ⟨s19, e20⟩ : ∃ z : sg_M, z = sg_up s17 64 45 (s13 64 13) := ⟨_, rfl⟩
                have hf := hf s19 e20
                refine gw_put0 F (so_64 hst) (by decide) rfl sg_lay_RX12 (j := 45) (by decide) h15 e20 tyX12_ok nmX12 rfl (tyX12_ok 45 (by decide)) rfl (host := "") (.inl kw_1001) dX12_readStep_145 ?_
                refine gw_aload_n F 0 rfl rfl (by decide) dX12_readStep_148 ?_
                refine gk_HZ F (gc_V F (S := []) (As := []) (T := TX12) (N := 62) (CX12_readEnd hst hf) (so_64 hst) (by decide) rfl kw_1087 kw_103 kw_1085 kw_1086 kw_49 hcX12_readEnd ⟨by decide, by decide⟩ rfl rfl (Nat.le_of_ble_eq_true rfl) ⟨by decide, by decide⟩ dX12_readStep_149) (fun u21 s23 h22 hf => ?_)
                exact gr_HZ F h22 hf (by decide) (by decide) dX12_readStep_152
              · have hf := hf.2 c16
                refine gw_aload_n F 0 rfl rfl (by decide) dX12_readStep_94 ?_
                refine gw_aload_n F 0 rfl rfl (by decide) dX12_readStep_95 ?_
                refine gw_get0 F (so_64 hst) (by decide) rfl sg_lay_RX12 (j := 44) (by decide) rfl (host := "") (.inl kw_1000) dX12_readStep_96 (fun h24 => ?_)
                refine gw_iload_n F 1 rfl rfl dX12_readStep_99 ?_
                refine gw_aload_n F 0 rfl rfl (by decide) dX12_readStep_100 ?_
                refine gw_get0 F (so_64 hst) (by decide) rfl sg_lay_RX12 (j := 44) (by decide) rfl (host := "") (.inl kw_1000) dX12_readStep_101 (fun h25 => ?_)
                refine gw_isub F rfl dX12_readStep_104 ?_
                refine gw_iload F 4 rfl dX12_readStep_105 ?_
                refine gw_imul F rfl dX12_readStep_107 ?_
                refine gw_iload F 3 rfl dX12_readStep_108 ?_
                obtain ⟨g26, hf⟩ := hf
                obtain ⟨g27, hf⟩ := hf
                refine gw_idiv F g26 r4_84 g27 rfl dX12_readStep_110 ?_
                refine gw_iadd F rfl dX12_readStep_111 ?_
                refine gw_aload_n F 0 rfl rfl (by decide) dX12_readStep_112 ?_
                refine gw_get0 F (so_64 hst) (by decide) rfl sg_lay_RX12 (j := 45) (by decide) rfl (host := "") (.inl kw_1001) dX12_readStep_113 (fun h28 => ?_)
                refine gw_iload_n F 2 rfl rfl dX12_readStep_116 ?_
                refine gw_aload_n F 0 rfl rfl (by decide) dX12_readStep_117 ?_
                refine gw_get0 F (so_64 hst) (by decide) rfl sg_lay_RX12 (j := 45) (by decide) rfl (host := "") (.inl kw_1001) dX12_readStep_118 (fun h29 => ?_)
                refine gw_isub F rfl dX12_readStep_121 ?_
                refine gw_iload F 4 rfl dX12_readStep_122 ?_
                refine gw_imul F rfl dX12_readStep_124 ?_
                refine gw_iload F 3 rfl dX12_readStep_125 ?_
                obtain ⟨g30, hf⟩ := hf
                obtain ⟨g31, hf⟩ := hf
                refine gw_idiv F g30 r4_84 g31 rfl dX12_readStep_127 ?_
                refine gw_iadd F rfl dX12_readStep_128 ?_
                obtain ⟨g32, hf⟩ := hf
                obtain ⟨g33, hf⟩ := hf
                refine gk_HV F (gc_V F (S := []) (As := [sg_i ((s_87 64 44) + (Int.tdiv (((s8 64 13) - (s_87 64 44)) * x5_87) x4_84)), sg_i ((s_87 64 45) + (Int.tdiv (((s13 64 13) - (s_87 64 45)) * x5_87) x4_84))]) (T := TX12) (N := 62) (CX12_tickTo hst g32 g33 hf) (so_64 hst) (by decide) rfl kw_1192 kw_103 kw_1190 kw_1191 kw_67 hcX12_tickTo ⟨by decide, by decide⟩ rfl rfl (Nat.le_of_ble_eq_true rfl) ⟨by decide, by decide⟩ dX12_readStep_129) (fun s34 hf => ?_)
                refine gw_iinc F (z := (x5_87 + 1)) 4 rfl (by omega) (by decide) rfl dX12_readStep_132 ?_
                refine gw_goto F (tgt := 87) dX12_readStep_135 (by decide) ?_
                obtain ⟨g35, hf⟩ := hf
                refine gw_sub [1, 2, 3, 4, 0] rfl ?_
                exact ih s34 (x5_87 + 1) g35 hf
          obtain ⟨n36, hf⟩ := hf
          refine gw_sub [1, 2, 3, 4, 0] rfl ?_
          refine L87   n36 s_84 1 (by decide) hf
        refine gw_if_eq F (tgt := 84) dX12_readStep_66 (by decide) (sg_B_R h4) (fun c37 => ?_) (fun c37 => ?_)
        · have hf := hf.1 c37
          refine gw_sub [4, 2, 1, 0] rfl ?_
          exact J84 s13 0 (by decide) hf
        · have hf := hf.2 c37
          refine gw_aload_n F 4 rfl rfl (by decide) dX12_readStep_69 ?_
          refine gk_HZ F (gc_V F (S := []) (As := []) (T := TX12) (N := 62) (CX12_readTime hst hf) (so_64 hst) (by decide) rfl kw_1183 kw_103 kw_1181 kw_1182 kw_64 hcX12_readTime ⟨by decide, by decide⟩ rfl rfl (Nat.le_of_ble_eq_true rfl) ⟨by decide, by decide⟩ dX12_readStep_70) (fun u38 s40 h39 hf => ?_)
          refine gw_if_ne F (tgt := 78) dX12_readStep_73 (by decide) (sg_B_R h39) (fun c41 => ?_) (fun c41 => ?_)
          · have hf := hf.1 c41
            refine gw_aload_n F 4 rfl rfl (by decide) dX12_readStep_78 ?_
            refine gw_get0 F (so_64 hst) (by decide) rfl sg_lay_RX12 (j := 13) (by decide) rfl (host := "") (.inl kw_969) dX12_readStep_79 (fun h42 => ?_)
            refine gw_istore F (by decide) rfl dX12_readStep_82 ?_
            refine gw_sub [4, 2, 1, 0] rfl ?_
            exact J84 s40 (s40 64 13) h42 hf
          · have hf := hf.2 c41
            refine gw_iconst F dX12_readStep_76 ?_
            exact gr_HZ F (by decide) hf (by decide) (by decide) dX12_readStep_77
      · have hf := hf.2 c14
        refine gw_iconst F dX12_readStep_55 ?_
        exact gr_HZ F (by decide) hf (by decide) (by decide) dX12_readStep_56
    · have hf := hf.2 c9
      refine gw_iconst F dX12_readStep_38 ?_
      exact gr_HZ F (by decide) hf (by decide) (by decide) dX12_readStep_39
  refine gw_if_ne F (tgt := 17) dX12_readStep_5 (by decide) (sg_B_R h2) (fun c43 => ?_) (fun c43 => ?_)
  · have hf := hf.1 c43
    refine gw_sub [0] rfl ?_
    exact J17  hf
  · have hf := hf.2 c43
    refine gw_aload_n F 0 rfl rfl (by decide) dX12_readStep_8 ?_
    refine gw_bipush F rfl dX12_readStep_9 ?_
    refine gk_PZ F (gc_V F (S := []) (As := [sg_i 6]) (T := TX12) (N := 62) (CX12_isWord hst (by decide) hf) (so_64 hst) (by decide) rfl kw_1066 kw_103 kw_1064 kw_1065 kw_46 hcX12_isWord ⟨by decide, by decide⟩ rfl rfl (Nat.le_of_ble_eq_true rfl) ⟨by decide, by decide⟩ dX12_readStep_11) (fun u44 h45 hf => ?_)
    refine gw_if_eq F (tgt := 153) dX12_readStep_14 (by decide) (sg_B_R h45) (fun c46 => ?_) (fun c46 => ?_)
    · have hf := hf.1 c46
      refine gw_aload_n F 0 rfl rfl (by decide) dX12_readStep_153 ?_
      refine gw_bipush F rfl dX12_readStep_154 ?_
      refine gk_PZ F (gc_V F (S := []) (As := [sg_i 8]) (T := TX12) (N := 62) (CX12_isWord hst (by decide) hf) (so_64 hst) (by decide) rfl kw_1066 kw_103 kw_1064 kw_1065 kw_46 hcX12_isWord ⟨by decide, by decide⟩ rfl rfl (Nat.le_of_ble_eq_true rfl) ⟨by decide, by decide⟩ dX12_readStep_156) (fun u47 h48 hf => ?_)
      refine gw_if_eq F (tgt := 266) dX12_readStep_159 (by decide) (sg_B_R h48) (fun c49 => ?_) (fun c49 => ?_)
      · have hf := hf.1 c49
        refine gw_aload_n F 0 rfl rfl (by decide) dX12_readStep_266 ?_
        refine gw_bipush F rfl dX12_readStep_267 ?_
        refine gk_HZ F (gc_V F (S := []) (As := [sg_i 9]) (T := TX12) (N := 62) (CX12_readWord hst (by decide) hf) (so_64 hst) (by decide) rfl kw_1186 kw_103 kw_1184 kw_1185 kw_65 hcX12_readWord ⟨by decide, by decide⟩ rfl rfl (Nat.le_of_ble_eq_true rfl) ⟨by decide, by decide⟩ dX12_readStep_269) (fun u50 s52 h51 hf => ?_)
        refine gw_if_eq F (tgt := 282) dX12_readStep_272 (by decide) (sg_B_R h51) (fun c53 => ?_) (fun c53 => ?_)
        · have hf := hf.1 c53
          refine gw_iconst F dX12_readStep_282 ?_
          exact gr_HZ F (by decide) hf (by decide) (by decide) dX12_readStep_283
        · have hf := hf.2 c53
          refine gw_aload_n F 0 rfl rfl (by decide) dX12_readStep_275 ?_
          refine gk_HZ F (gc_V F (S := []) (As := []) (T := TX12) (N := 62) (CX12_readLast hst hf) (so_64 hst) (by decide) rfl kw_1189 kw_103 kw_1187 kw_1188 kw_66 hcX12_readLast ⟨by decide, by decide⟩ rfl rfl (Nat.le_of_ble_eq_true rfl) ⟨by decide, by decide⟩ dX12_readStep_276) (fun u54 s56 h55 hf => ?_)
          refine gw_if_ne F (tgt := 284) dX12_readStep_279 (by decide) (sg_B_R h55) (fun c57 => ?_) (fun c57 => ?_)
          · have hf := hf.1 c57
            refine gw_aload_n F 0 rfl rfl (by decide) dX12_readStep_284 ?_
            refine gw_get0 F (so_64 hst) (by decide) rfl sg_lay_RX12 (j := 13) (by decide) rfl (host := "") (.inl kw_969) dX12_readStep_285 (fun h58 => ?_)
            refine gw_istore_n F rfl (by decide) rfl dX12_readStep_288 ?_
            refine gw_iconst F dX12_readStep_289 ?_
            refine gw_istore_n F rfl (by decide) rfl dX12_readStep_290 ?_
            have L291 : ∀ n_291 : Nat, ∀ (s_291 : sg_M) (x2_291 : Int), sg_R x2_291 → fX12_readStep_L291 s56 Q n_291 s_291 x2_291 → sg_W p l e (sg_rm 6 0 0) s m args below meth c (MQ below (sg_Q (some .boolean) G La s.heap.size (sg_HZ La Q)) args s 0 0 (sg_A La s.heap.size)) 6 G (sg_A La s.heap.size) La s_291 0 0 291 [(0, sg_r 64), (1, sg_i (s56 64 13)), (2, sg_i x2_291)] [] := by
              intro n_291
              induction n_291 with
              | zero => intro s_291 x2_291 r2_291 hf; exact hf.elim
              | succ n_291 ih =>
                intro s_291 x2_291 r2_291 hf
                unfold fX12_readStep_L291 at hf
                refine gw_iload_n F 2 rfl rfl dX12_readStep_291 ?_
                refine gw_iload_n F 1 rfl rfl dX12_readStep_292 ?_
                refine gw_icmp_ge F (tgt := 314) dX12_readStep_293 (by decide) r2_291 h58 (fun c59 => ?_) (fun c59 => ?_)
                · have hf := hf.1 c59
                  refine gw_aload_n F 0 rfl rfl (by decide) dX12_readStep_314 ?_
                  refine gk_HZ F (gc_V F (S := []) (As := []) (T := TX12) (N := 62) (CX12_readEnd hst hf) (so_64 hst) (by decide) rfl kw_1087 kw_103 kw_1085 kw_1086 kw_49 hcX12_readEnd ⟨by decide, by decide⟩ rfl rfl (Nat.le_of_ble_eq_true rfl) ⟨by decide, by decide⟩ dX12_readStep_315) (fun u60 s62 h61 hf => ?_)
                  exact gr_HZ F h61 hf (by decide) (by decide) dX12_readStep_318
                · have hf := hf.2 c59
                  refine gw_aload_n F 0 rfl rfl (by decide) dX12_readStep_296 ?_
                  refine gw_aload_n F 0 rfl rfl (by decide) dX12_readStep_297 ?_
                  refine gw_get0 F (so_64 hst) (by decide) rfl sg_lay_RX12 (j := 44) (by decide) rfl (host := "") (.inl kw_1000) dX12_readStep_298 (fun h63 => ?_)
                  refine gw_aload_n F 0 rfl rfl (by decide) dX12_readStep_301 ?_
                  refine gw_get0 F (so_64 hst) (by decide) rfl sg_lay_RX12 (j := 45) (by decide) rfl (host := "") (.inl kw_1001) dX12_readStep_302 (fun h64 => ?_)
                  refine gk_HV F (gc_V F (S := []) (As := [sg_i (s_291 64 44), sg_i (s_291 64 45)]) (T := TX12) (N := 62) (CX12_tickTo hst h63 h64 hf) (so_64 hst) (by decide) rfl kw_1192 kw_103 kw_1190 kw_1191 kw_67 hcX12_tickTo ⟨by decide, by decide⟩ rfl rfl (Nat.le_of_ble_eq_true rfl) ⟨by decide, by decide⟩ dX12_readStep_305) (fun s65 hf => ?_)
                  refine gw_iinc F (z := (x2_291 + 1)) 2 rfl (by omega) (by decide) rfl dX12_readStep_308 ?_
                  refine gw_goto F (tgt := 291) dX12_readStep_311 (by decide) ?_
                  obtain ⟨g66, hf⟩ := hf
                  refine gw_sub [1, 2, 0] rfl ?_
                  exact ih s65 (x2_291 + 1) g66 hf
            obtain ⟨n67, hf⟩ := hf
            refine gw_sub [2, 1, 0] rfl ?_
            refine L291   n67 s56 0 (by decide) hf
          · have hf := hf.2 c57
            refine gw_iconst F dX12_readStep_282 ?_
            exact gr_HZ F (by decide) hf (by decide) (by decide) dX12_readStep_283
      · have hf := hf.2 c49
        refine gw_aload_n F 0 rfl rfl (by decide) dX12_readStep_162 ?_
        refine gk_HV F (gc_V F (S := []) (As := []) (T := TX12) (N := 62) (CX12_go hst hf) (so_64 hst) (by decide) rfl kw_1049 kw_103 kw_1047 kw_1048 kw_43 hcX12_go ⟨by decide, by decide⟩ rfl rfl (Nat.le_of_ble_eq_true rfl) ⟨by decide, by decide⟩ dX12_readStep_163) (fun s68 hf => ?_)
        refine gw_aload_n F 0 rfl rfl (by decide) dX12_readStep_166 ?_
        refine gw_iconst F dX12_readStep_167 ?_
        refine gw_sipush F rfl dX12_readStep_168 ?_
        refine gk_HZ F (gc_V F (S := []) (As := [sg_i 0, sg_i 999]) (T := TX12) (N := 62) (CX12_readNumber hst (by decide) (by decide) hf) (so_64 hst) (by decide) rfl kw_1081 kw_103 kw_1079 kw_1080 kw_48 hcX12_readNumber ⟨by decide, by decide⟩ rfl rfl (Nat.le_of_ble_eq_true rfl) ⟨by decide, by decide⟩ dX12_readStep_171) (fun u69 s71 h70 hf => ?_)
        refine gw_if_ne F (tgt := 179) dX12_readStep_174 (by decide) (sg_B_R h70) (fun c72 => ?_) (fun c72 => ?_)
        · have hf := hf.1 c72
          refine gw_aload_n F 0 rfl rfl (by decide) dX12_readStep_179 ?_
          refine gw_get0 F (so_64 hst) (by decide) rfl sg_lay_RX12 (j := 13) (by decide) rfl (host := "") (.inl kw_969) dX12_readStep_180 (fun h73 => ?_)
          refine gw_istore_n F rfl (by decide) rfl dX12_readStep_183 ?_
          refine gw_aload_n F 1 rfl rfl (by decide) dX12_readStep_184 ?_
          refine gk_HZ F (gc_V F (S := []) (As := []) (T := TX12) (N := 62) (CX12_readTime hst hf) (so_64 hst) (by decide) rfl kw_1183 kw_103 kw_1181 kw_1182 kw_64 hcX12_readTime ⟨by decide, by decide⟩ rfl rfl (Nat.le_of_ble_eq_true rfl) ⟨by decide, by decide⟩ dX12_readStep_185) (fun u74 s76 h75 hf => ?_)
          refine gw_if_ne F (tgt := 193) dX12_readStep_188 (by decide) (sg_B_R h75) (fun c77 => ?_) (fun c77 => ?_)
          · have hf := hf.1 c77
            refine gw_aload_n F 1 rfl rfl (by decide) dX12_readStep_193 ?_
            refine gw_get0 F (so_64 hst) (by decide) rfl sg_lay_RX12 (j := 13) (by decide) rfl (host := "") (.inl kw_969) dX12_readStep_194 (fun h78 => ?_)
            refine gw_istore_n F rfl (by decide) rfl dX12_readStep_197 ?_
            refine gw_iconst F dX12_readStep_198 ?_
            refine gw_istore_n F rfl (by decide) rfl dX12_readStep_199 ?_
            have L200 : ∀ n_200 : Nat, ∀ (s_200 : sg_M) (x3_200 : Int), sg_R x3_200 → fX12_readStep_L200 s71 s76 Q n_200 s_200 x3_200 → sg_W p l e (sg_rm 6 0 0) s m args below meth c (MQ below (sg_Q (some .boolean) G La s.heap.size (sg_HZ La Q)) args s 0 0 (sg_A La s.heap.size)) 6 G (sg_A La s.heap.size) La s_200 0 0 200 [(0, sg_r 64), (1, sg_i (s71 64 13)), (2, sg_i (s76 64 13)), (3, sg_i x3_200)] [] := by
              intro n_200
              induction n_200 with
              | zero => intro s_200 x3_200 r3_200 hf; exact hf.elim
              | succ n_200 ih =>
                intro s_200 x3_200 r3_200 hf
                unfold fX12_readStep_L200 at hf
                refine gw_iload_n F 3 rfl rfl dX12_readStep_200 ?_
                refine gw_iload_n F 2 rfl rfl dX12_readStep_201 ?_
                refine gw_icmp_gt F (tgt := 261) dX12_readStep_202 (by decide) r3_200 h78 (fun c79 => ?_) (fun c79 => ?_)
                · have hf := hf.1 c79
                  refine gw_aload_n F 0 rfl rfl (by decide) dX12_readStep_261 ?_
                  refine gk_HZ F (gc_V F (S := []) (As := []) (T := TX12) (N := 62) (CX12_readEnd hst hf) (so_64 hst) (by decide) rfl kw_1087 kw_103 kw_1085 kw_1086 kw_49 hcX12_readEnd ⟨by decide, by decide⟩ rfl rfl (Nat.le_of_ble_eq_true rfl) ⟨by decide, by decide⟩ dX12_readStep_262) (fun u80 s82 h81 hf => ?_)
                  exact gr_HZ F h81 hf (by decide) (by decide) dX12_readStep_265
                · have hf := hf.2 c79
                  refine gw_aload_n F 0 rfl rfl (by decide) dX12_readStep_205 ?_
                  refine gw_aload_n F 0 rfl rfl (by decide) dX12_readStep_206 ?_
                  refine gw_get0 F (so_64 hst) (by decide) rfl sg_lay_RX12 (j := 44) (by decide) rfl (host := "") (.inl kw_1000) dX12_readStep_207 (fun h83 => ?_)
                  refine gw_iload_n F 3 rfl rfl dX12_readStep_210 ?_
                  refine gw_iconst F dX12_readStep_211 ?_
                  refine gw_irem F r3_200 (by decide) (by decide) rfl dX12_readStep_212 ?_
                  refine gw_iconst F dX12_readStep_213 ?_
                  have J252 : ∀ (y0_252 : Int), sg_R y0_252 → (fX12_readStep_j252 s_200 x3_200 (fX12_readStep_L200 s71 s76 Q n_200)) y0_252 → sg_W p l e (sg_rm 6 0 0) s m args below meth c (MQ below (sg_Q (some .boolean) G La s.heap.size (sg_HZ La Q)) args s 0 0 (sg_A La s.heap.size)) 6 G (sg_A La s.heap.size) La s_200 0 0 252 [(0, sg_r 64), (1, sg_i (s71 64 13)), (2, sg_i (s76 64 13)), (3, sg_i x3_200)] [sg_i y0_252, sg_i (s_200 64 44), sg_r 64] := by
                    intro y0_252 ry0_252 hf
                    unfold fX12_readStep_j252 at hf
                    refine gk_HV F (gc_V F (S := []) (As := [sg_i (s_200 64 44), sg_i y0_252]) (T := TX12) (N := 62) (CX12_tickTo hst h83 ry0_252 hf) (so_64 hst) (by decide) rfl kw_1192 kw_103 kw_1190 kw_1191 kw_67 hcX12_tickTo ⟨by decide, by decide⟩ rfl rfl (Nat.le_of_ble_eq_true rfl) ⟨by decide, by decide⟩ dX12_readStep_252) (fun s84 hf => ?_)
                    refine gw_iinc F (z := (x3_200 + 1)) 3 rfl (by omega) (by decide) rfl dX12_readStep_255 ?_
                    refine gw_goto F (tgt := 200) dX12_readStep_258 (by decide) ?_
                    obtain ⟨g85, hf⟩ := hf
                    refine gw_sub [1, 2, 3, 0] rfl ?_
                    exact ih s84 (x3_200 + 1) g85 hf
                  obtain ⟨g86, hf⟩ := hf
                  refine gw_icmp_ne F (tgt := 229) dX12_readStep_214 (by decide) g86 (by decide) (fun c87 => ?_) (fun c87 => ?_)
                  · have hf := hf.1 c87
                    refine gw_iload_n F 3 rfl rfl dX12_readStep_229 ?_
                    refine gw_iconst F dX12_readStep_230 ?_
                    refine gw_irem F r3_200 (by decide) (by decide) rfl dX12_readStep_231 ?_
                    refine gw_iconst F dX12_readStep_232 ?_
                    obtain ⟨g88, hf⟩ := hf
                    refine gw_icmp_ne F (tgt := 248) dX12_readStep_233 (by decide) g88 (by decide) (fun c89 => ?_) (fun c89 => ?_)
                    · have hf := hf.1 c89
                      refine gw_aload_n F 0 rfl rfl (by decide) dX12_readStep_248 ?_
                      refine gw_get0 F (so_64 hst) (by decide) rfl sg_lay_RX12 (j := 45) (by decide) rfl (host := "") (.inl kw_1001) dX12_readStep_249 (fun h90 => ?_)
                      refine gw_sub [0, 1, 2, 3] rfl ?_
                      exact J252 (s_200 64 45) h90 hf
                    · have hf := hf.2 c89
                      refine gw_aload_n F 0 rfl rfl (by decide) dX12_readStep_236 ?_
                      refine gw_get0 F (so_64 hst) (by decide) rfl sg_lay_RX12 (j := 45) (by decide) rfl (host := "") (.inl kw_1001) dX12_readStep_237 (fun h91 => ?_)
                      refine gw_iload_n F 1 rfl rfl dX12_readStep_240 ?_
                      refine gw_isub F rfl dX12_readStep_241 ?_
                      obtain ⟨g92, hf⟩ := hf
                      refine gk_PI F (gc_S F (S := [sg_i (s_200 64 44), sg_r 64]) (As := [sg_i ((s_200 64 45) - (s71 64 13))]) (CX12_cut g92 hf) kw_1195 kw_103 kw_1193 kw_1194 hcX12_cut ⟨by decide, by decide⟩ rfl rfl (Nat.le_of_ble_eq_true rfl) ⟨by decide, by decide⟩ dX12_readStep_242) (fun u93 h94 hf => ?_)
                      refine gw_goto F (tgt := 252) dX12_readStep_245 (by decide) ?_
                      refine gw_sub [0, 1, 2, 3] rfl ?_
                      exact J252 u93 h94 hf
                  · have hf := hf.2 c87
                    refine gw_aload_n F 0 rfl rfl (by decide) dX12_readStep_217 ?_
                    refine gw_get0 F (so_64 hst) (by decide) rfl sg_lay_RX12 (j := 45) (by decide) rfl (host := "") (.inl kw_1001) dX12_readStep_218 (fun h95 => ?_)
                    refine gw_iload_n F 1 rfl rfl dX12_readStep_221 ?_
                    refine gw_iadd F rfl dX12_readStep_222 ?_
                    obtain ⟨g96, hf⟩ := hf
                    refine gk_PI F (gc_S F (S := [sg_i (s_200 64 44), sg_r 64]) (As := [sg_i ((s_200 64 45) + (s71 64 13))]) (CX12_cut g96 hf) kw_1195 kw_103 kw_1193 kw_1194 hcX12_cut ⟨by decide, by decide⟩ rfl rfl (Nat.le_of_ble_eq_true rfl) ⟨by decide, by decide⟩ dX12_readStep_223) (fun u97 h98 hf => ?_)
                    refine gw_goto F (tgt := 252) dX12_readStep_226 (by decide) ?_
                    refine gw_sub [0, 1, 2, 3] rfl ?_
                    exact J252 u97 h98 hf
            obtain ⟨n99, hf⟩ := hf
            refine gw_sub [3, 2, 1, 0] rfl ?_
            refine L200   n99 s76 1 (by decide) hf
          · have hf := hf.2 c77
            refine gw_iconst F dX12_readStep_191 ?_
            exact gr_HZ F (by decide) hf (by decide) (by decide) dX12_readStep_192
        · have hf := hf.2 c72
          refine gw_iconst F dX12_readStep_177 ?_
          exact gr_HZ F (by decide) hf (by decide) (by decide) dX12_readStep_178
    · have hf := hf.2 c46
      refine gw_sub [0] rfl ?_
      exact J17  hf

theorem dX12_place_0 : decode cX12_place 0 = .ok (.aload_n 0, 1) := by decide +kernel
theorem dX12_place_1 : decode cX12_place 1 = .ok (.iconst 0, 1) := by decide +kernel
theorem dX12_place_2 : decode cX12_place 2 = .ok (.putfield 84, 3) := by decide +kernel
theorem dX12_place_5 : decode cX12_place 5 = .ok (.aload_n 0, 1) := by decide +kernel
theorem dX12_place_6 : decode cX12_place 6 = .ok (.invokevirtual 175, 3) := by decide +kernel
theorem dX12_place_9 : decode cX12_place 9 = .ok (.iload_n 1, 1) := by decide +kernel
theorem dX12_place_10 : decode cX12_place 10 = .ok (.iload_n 2, 1) := by decide +kernel
theorem dX12_place_11 : decode cX12_place 11 = .ok (.invokestatic 232, 3) := by decide +kernel
theorem dX12_place_14 : decode cX12_place 14 = .ok (.ifCond .eq 8, 3) := by decide +kernel
theorem dX12_place_17 : decode cX12_place 17 = .ok (.iload_n 3, 1) := by decide +kernel
theorem dX12_place_18 : decode cX12_place 18 = .ok (.iconst (-1), 1) := by decide +kernel
theorem dX12_place_19 : decode cX12_place 19 = .ok (.if_icmp .ge 5, 3) := by decide +kernel
theorem dX12_place_22 : decode cX12_place 22 = .ok (.iconst (-1), 1) := by decide +kernel
theorem dX12_place_23 : decode cX12_place 23 = .ok (.ireturn, 1) := by decide +kernel
theorem dX12_place_24 : decode cX12_place 24 = .ok (.aload_n 0, 1) := by decide +kernel
theorem dX12_place_25 : decode cX12_place 25 = .ok (.iconst 0, 1) := by decide +kernel
theorem dX12_place_26 : decode cX12_place 26 = .ok (.iload_n 1, 1) := by decide +kernel
theorem dX12_place_27 : decode cX12_place 27 = .ok (.iload_n 2, 1) := by decide +kernel
theorem dX12_place_28 : decode cX12_place 28 = .ok (.iconst 0, 1) := by decide +kernel
theorem dX12_place_29 : decode cX12_place 29 = .ok (.iconst 0, 1) := by decide +kernel
theorem dX12_place_30 : decode cX12_place 30 = .ok (.invokevirtual 235, 3) := by decide +kernel
theorem dX12_place_33 : decode cX12_place 33 = .ok (.iload_n 3, 1) := by decide +kernel
theorem dX12_place_34 : decode cX12_place 34 = .ok (.iconst (-1), 1) := by decide +kernel
theorem dX12_place_35 : decode cX12_place 35 = .ok (.if_icmp .ne 10, 3) := by decide +kernel
theorem dX12_place_38 : decode cX12_place 38 = .ok (.aload_n 0, 1) := by decide +kernel
theorem dX12_place_39 : decode cX12_place 39 = .ok (.getfield 226, 3) := by decide +kernel
theorem dX12_place_42 : decode cX12_place 42 = .ok (.goto 21, 3) := by decide +kernel
theorem dX12_place_45 : decode cX12_place 45 = .ok (.iload_n 3, 1) := by decide +kernel
theorem dX12_place_46 : decode cX12_place 46 = .ok (.aload_n 0, 1) := by decide +kernel
theorem dX12_place_47 : decode cX12_place 47 = .ok (.getfield 226, 3) := by decide +kernel
theorem dX12_place_50 : decode cX12_place 50 = .ok (.if_icmp .ge 12, 3) := by decide +kernel
theorem dX12_place_53 : decode cX12_place 53 = .ok (.aload_n 0, 1) := by decide +kernel
theorem dX12_place_54 : decode cX12_place 54 = .ok (.getfield 41, 3) := by decide +kernel
theorem dX12_place_57 : decode cX12_place 57 = .ok (.iload_n 3, 1) := by decide +kernel
theorem dX12_place_58 : decode cX12_place 58 = .ok (.iaload, 1) := by decide +kernel
theorem dX12_place_59 : decode cX12_place 59 = .ok (.goto 4, 3) := by decide +kernel
theorem dX12_place_62 : decode cX12_place 62 = .ok (.iconst (-1), 1) := by decide +kernel
theorem dX12_place_63 : decode cX12_place 63 = .ok (.ireturn, 1) := by decide +kernel
theorem hcX12_place : yX12_place.cls ≠ "java/lang/invoke/MethodHandle" ∧ yX12_place.cls ≠ "java/lang/invoke/VarHandle" ∧ (parseMethodDescriptor yX12_place.desc).map (fun d => d.parameters.length) = some 3 := ⟨by decide +kernel, by decide +kernel, by decide +kernel⟩
def fX12_place (s0 : sg_M) (x1 : Int) (x2 : Int) (x3 : Int) (Q : Int → sg_M → Prop) : Prop := ∀ s1 : sg_M, s1 = sg_up s0 64 0 0 → fX12_lay s1 (fun s3 => fX12_isBend x1 x2 (fun u4 => ((u4 = 0 → Q (-1) s3) ∧ (¬ (u4 = 0) → (((-1) ≤ x3 → fX12_layBend s3 0 x1 x2 0 0 (fun s8 => ((x3 ≠ (-1) → (((s8 64 29) ≤ x3 → Q (-1) s8) ∧ (¬ ((s8 64 29) ≤ x3) → (0 ≤ x3 ∧ x3 < 60) ∧ Q (s8 75 x3) s8))) ∧ (x3 = (-1) → Q (s8 64 29) s8)))) ∧ (¬ ((-1) ≤ x3) → Q (-1) s3))))))
set_option maxHeartbeats 4000000 in
set_option maxRecDepth 100000 in
theorem CX12_place {l : Launch} {G : sg_G} {La : sg_L} {s0 : sg_M} (hst : sg_St La) {x1 : Int} (r1 : sg_R x1) {x2 : Int} (r2 : sg_R x2) {x3 : Int} (r3 : sg_R x3) {Q : Int → sg_M → Prop} (hf : fX12_place s0 x1 x2 x3 Q) : sg_C l G yX12_place cX12_place 4 (some .int) 3 0 0 La s0 [sg_r 64, sg_i x1, sg_i x2, sg_i x3] (sg_HI La Q) := by
  refine sg_body (by decide +kernel) (Nat.le_of_ble_eq_true rfl) ?_
  intro p e s m args below meth c F hnm
  unfold fX12_place at hf
  show sg_W p l e (sg_rm 3 0 0) s m args below meth c (MQ below (sg_Q (some .int) G La s.heap.size (sg_HI La Q)) args s 0 0 (sg_A La s.heap.size)) 4 G (sg_A La s.heap.size) La s0 0 0 0 [(0, sg_r 64), (1, sg_i x1), (2, sg_i x2), (3, sg_i x3)] []
  refine gw_aload_n F 0 rfl rfl (by decide) dX12_place_0 ?_
  refine gw_iconst F dX12_place_1 ?_
  obtain ⟨s1, e2⟩ : ∃ z : sg_M, z = sg_up s0 64 0 0 := ⟨_, rfl⟩
  have hf := hf s1 e2
  refine gw_put0 F (so_64 hst) (by decide) rfl sg_lay_RX12 (j := 0) (by decide) (by decide) e2 tyX12_ok nmX12 rfl (tyX12_ok 0 (by decide)) rfl (host := "") (.inl kw_956) dX12_place_2 ?_
  refine gw_aload_n F 0 rfl rfl (by decide) dX12_place_5 ?_
  refine gk_HV F (gc_V F (S := []) (As := []) (T := TX12) (N := 62) (CX12_lay hst hf) (so_64 hst) (by decide) rfl kw_1043 kw_103 kw_1041 kw_1042 kw_41 hcX12_lay ⟨by decide, by decide⟩ rfl rfl (Nat.le_of_ble_eq_true rfl) ⟨by decide, by decide⟩ dX12_place_6) (fun s3 hf => ?_)
  refine gw_iload_n F 1 rfl rfl dX12_place_9 ?_
  refine gw_iload_n F 2 rfl rfl dX12_place_10 ?_
  refine gk_PZ F (gc_S F (S := []) (As := [sg_i x1, sg_i x2]) (CX12_isBend r1 r2 hf) kw_1117 kw_103 kw_1115 kw_1116 hcX12_isBend ⟨by decide, by decide⟩ rfl rfl (Nat.le_of_ble_eq_true rfl) ⟨by decide, by decide⟩ dX12_place_11) (fun u4 h5 hf => ?_)
  refine gw_if_eq F (tgt := 22) dX12_place_14 (by decide) (sg_B_R h5) (fun c6 => ?_) (fun c6 => ?_)
  · have hf := hf.1 c6
    refine gw_iconst F dX12_place_22 ?_
    exact gr_HI F (by decide) hf (by decide) (by decide) dX12_place_23
  · have hf := hf.2 c6
    refine gw_iload_n F 3 rfl rfl dX12_place_17 ?_
    refine gw_iconst F dX12_place_18 ?_
    refine gw_icmp_ge F (tgt := 24) dX12_place_19 (by decide) r3 (by decide) (fun c7 => ?_) (fun c7 => ?_)
    · have hf := hf.1 c7
      refine gw_aload_n F 0 rfl rfl (by decide) dX12_place_24 ?_
      refine gw_iconst F dX12_place_25 ?_
      refine gw_iload_n F 1 rfl rfl dX12_place_26 ?_
      refine gw_iload_n F 2 rfl rfl dX12_place_27 ?_
      refine gw_iconst F dX12_place_28 ?_
      refine gw_iconst F dX12_place_29 ?_
      refine gk_HV F (gc_V F (S := []) (As := [sg_i 0, sg_i x1, sg_i x2, sg_i 0, sg_i 0]) (T := TX12) (N := 62) (CX12_layBend hst (by decide) r1 r2 (by decide) (by decide) hf) (so_64 hst) (by decide) rfl kw_1120 kw_103 kw_1118 kw_1119 kw_55 hcX12_layBend ⟨by decide, by decide⟩ rfl rfl (Nat.le_of_ble_eq_true rfl) ⟨by decide, by decide⟩ dX12_place_30) (fun s8 hf => ?_)
      refine gw_iload_n F 3 rfl rfl dX12_place_33 ?_
      refine gw_iconst F dX12_place_34 ?_
      refine gw_icmp_ne F (tgt := 45) dX12_place_35 (by decide) r3 (by decide) (fun c9 => ?_) (fun c9 => ?_)
      · have hf := hf.1 c9
        refine gw_iload_n F 3 rfl rfl dX12_place_45 ?_
        refine gw_aload_n F 0 rfl rfl (by decide) dX12_place_46 ?_
        refine gw_get0 F (so_64 hst) (by decide) rfl sg_lay_RX12 (j := 29) (by decide) rfl (host := "") (.inl kw_985) dX12_place_47 (fun h10 => ?_)
        refine gw_icmp_ge F (tgt := 62) dX12_place_50 (by decide) r3 h10 (fun c11 => ?_) (fun c11 => ?_)
        · have hf := hf.1 c11
          refine gw_iconst F dX12_place_62 ?_
          exact gr_HI F (by decide) hf (by decide) (by decide) dX12_place_63
        · have hf := hf.2 c11
          refine gw_aload_n F 0 rfl rfl (by decide) dX12_place_53 ?_
          refine gw_get7 F (so_64 hst) (by decide) rfl sg_lay_RX12 (j := 25) (by decide) (o1 := 75) (by first | rfl | omega) rfl (host := "") (.inl kw_981) dX12_place_54 (fun h12 => ?_)
          refine gw_iload_n F 3 rfl rfl dX12_place_57 ?_
          obtain ⟨⟨b130, b131⟩, hf⟩ := hf
          refine gw_iald F (sa_75 hst) b130 b131 dX12_place_58 (fun h14 => ?_)
          refine gw_goto F (tgt := 63) dX12_place_59 (by decide) ?_
          exact gr_HI F h14 hf (by decide) (by decide) dX12_place_63
      · have hf := hf.2 c9
        refine gw_aload_n F 0 rfl rfl (by decide) dX12_place_38 ?_
        refine gw_get0 F (so_64 hst) (by decide) rfl sg_lay_RX12 (j := 29) (by decide) rfl (host := "") (.inl kw_985) dX12_place_39 (fun h15 => ?_)
        refine gw_goto F (tgt := 63) dX12_place_42 (by decide) ?_
        exact gr_HI F h15 hf (by decide) (by decide) dX12_place_63
    · have hf := hf.2 c7
      refine gw_iconst F dX12_place_22 ?_
      exact gr_HI F (by decide) hf (by decide) (by decide) dX12_place_23

theorem dX12_readLine_0 : decode cX12_readLine 0 = .ok (.aload_n 0, 1) := by decide +kernel
theorem dX12_readLine_1 : decode cX12_readLine 1 = .ok (.iconst 3, 1) := by decide +kernel
theorem dX12_readLine_2 : decode cX12_readLine 2 = .ok (.invokevirtual 172, 3) := by decide +kernel
theorem dX12_readLine_5 : decode cX12_readLine 5 = .ok (.ifCond .ne 11, 3) := by decide +kernel
theorem dX12_readLine_8 : decode cX12_readLine 8 = .ok (.aload_n 0, 1) := by decide +kernel
theorem dX12_readLine_9 : decode cX12_readLine 9 = .ok (.iconst 4, 1) := by decide +kernel
theorem dX12_readLine_10 : decode cX12_readLine 10 = .ok (.invokevirtual 172, 3) := by decide +kernel
theorem dX12_readLine_13 : decode cX12_readLine 13 = .ok (.ifCond .eq 79, 3) := by decide +kernel
theorem dX12_readLine_16 : decode cX12_readLine 16 = .ok (.aload_n 0, 1) := by decide +kernel
theorem dX12_readLine_17 : decode cX12_readLine 17 = .ok (.iconst 3, 1) := by decide +kernel
theorem dX12_readLine_18 : decode cX12_readLine 18 = .ok (.invokevirtual 172, 3) := by decide +kernel
theorem dX12_readLine_21 : decode cX12_readLine 21 = .ok (.ifCond .eq 7, 3) := by decide +kernel
theorem dX12_readLine_24 : decode cX12_readLine 24 = .ok (.iconst 1, 1) := by decide +kernel
theorem dX12_readLine_25 : decode cX12_readLine 25 = .ok (.goto 4, 3) := by decide +kernel
theorem dX12_readLine_28 : decode cX12_readLine 28 = .ok (.iconst 2, 1) := by decide +kernel
theorem dX12_readLine_29 : decode cX12_readLine 29 = .ok (.istore_n 1, 1) := by decide +kernel
theorem dX12_readLine_30 : decode cX12_readLine 30 = .ok (.aload_n 0, 1) := by decide +kernel
theorem dX12_readLine_31 : decode cX12_readLine 31 = .ok (.getfield 186, 3) := by decide +kernel
theorem dX12_readLine_34 : decode cX12_readLine 34 = .ok (.iload_n 1, 1) := by decide +kernel
theorem dX12_readLine_35 : decode cX12_readLine 35 = .ok (.ishr, 1) := by decide +kernel
theorem dX12_readLine_36 : decode cX12_readLine 36 = .ok (.iconst 1, 1) := by decide +kernel
theorem dX12_readLine_37 : decode cX12_readLine 37 = .ok (.iand, 1) := by decide +kernel
theorem dX12_readLine_38 : decode cX12_readLine 38 = .ok (.iconst 1, 1) := by decide +kernel
theorem dX12_readLine_39 : decode cX12_readLine 39 = .ok (.if_icmp .ne 9, 3) := by decide +kernel
theorem dX12_readLine_42 : decode cX12_readLine 42 = .ok (.aload_n 0, 1) := by decide +kernel
theorem dX12_readLine_43 : decode cX12_readLine 43 = .ok (.iconst 3, 1) := by decide +kernel
theorem dX12_readLine_44 : decode cX12_readLine 44 = .ok (.invokevirtual 152, 3) := by decide +kernel
theorem dX12_readLine_47 : decode cX12_readLine 47 = .ok (.ireturn, 1) := by decide +kernel
theorem dX12_readLine_48 : decode cX12_readLine 48 = .ok (.aload_n 0, 1) := by decide +kernel
theorem dX12_readLine_49 : decode cX12_readLine 49 = .ok (.dup, 1) := by decide +kernel
theorem dX12_readLine_50 : decode cX12_readLine 50 = .ok (.getfield 186, 3) := by decide +kernel
theorem dX12_readLine_53 : decode cX12_readLine 53 = .ok (.iconst 1, 1) := by decide +kernel
theorem dX12_readLine_54 : decode cX12_readLine 54 = .ok (.iload_n 1, 1) := by decide +kernel
theorem dX12_readLine_55 : decode cX12_readLine 55 = .ok (.ishl, 1) := by decide +kernel
theorem dX12_readLine_56 : decode cX12_readLine 56 = .ok (.ior, 1) := by decide +kernel
theorem dX12_readLine_57 : decode cX12_readLine 57 = .ok (.putfield 186, 3) := by decide +kernel
theorem dX12_readLine_60 : decode cX12_readLine 60 = .ok (.aload_n 0, 1) := by decide +kernel
theorem dX12_readLine_61 : decode cX12_readLine 61 = .ok (.invokevirtual 162, 3) := by decide +kernel
theorem dX12_readLine_64 : decode cX12_readLine 64 = .ok (.aload_n 0, 1) := by decide +kernel
theorem dX12_readLine_65 : decode cX12_readLine 65 = .ok (.iconst 1, 1) := by decide +kernel
theorem dX12_readLine_66 : decode cX12_readLine 66 = .ok (.sipush 9999, 3) := by decide +kernel
theorem dX12_readLine_69 : decode cX12_readLine 69 = .ok (.invokevirtual 168, 3) := by decide +kernel
theorem dX12_readLine_72 : decode cX12_readLine 72 = .ok (.ifCond .ne 5, 3) := by decide +kernel
theorem dX12_readLine_75 : decode cX12_readLine 75 = .ok (.iconst 0, 1) := by decide +kernel
theorem dX12_readLine_76 : decode cX12_readLine 76 = .ok (.ireturn, 1) := by decide +kernel
theorem dX12_readLine_77 : decode cX12_readLine 77 = .ok (.aload_n 0, 1) := by decide +kernel
theorem dX12_readLine_78 : decode cX12_readLine 78 = .ok (.getfield 16, 3) := by decide +kernel
theorem dX12_readLine_81 : decode cX12_readLine 81 = .ok (.iload_n 1, 1) := by decide +kernel
theorem dX12_readLine_82 : decode cX12_readLine 82 = .ok (.aload_n 0, 1) := by decide +kernel
theorem dX12_readLine_83 : decode cX12_readLine 83 = .ok (.getfield 159, 3) := by decide +kernel
theorem dX12_readLine_86 : decode cX12_readLine 86 = .ok (.iastore, 1) := by decide +kernel
theorem dX12_readLine_87 : decode cX12_readLine 87 = .ok (.aload_n 0, 1) := by decide +kernel
theorem dX12_readLine_88 : decode cX12_readLine 88 = .ok (.invokevirtual 189, 3) := by decide +kernel
theorem dX12_readLine_91 : decode cX12_readLine 91 = .ok (.ireturn, 1) := by decide +kernel
theorem dX12_readLine_92 : decode cX12_readLine 92 = .ok (.aload_n 0, 1) := by decide +kernel
theorem dX12_readLine_93 : decode cX12_readLine 93 = .ok (.iconst 0, 1) := by decide +kernel
theorem dX12_readLine_94 : decode cX12_readLine 94 = .ok (.invokevirtual 172, 3) := by decide +kernel
theorem dX12_readLine_97 : decode cX12_readLine 97 = .ok (.ifCond .ne 9, 3) := by decide +kernel
theorem dX12_readLine_100 : decode cX12_readLine 100 = .ok (.aload_n 0, 1) := by decide +kernel
theorem dX12_readLine_101 : decode cX12_readLine 101 = .ok (.iconst 1, 1) := by decide +kernel
theorem dX12_readLine_102 : decode cX12_readLine 102 = .ok (.invokevirtual 152, 3) := by decide +kernel
theorem dX12_readLine_105 : decode cX12_readLine 105 = .ok (.ireturn, 1) := by decide +kernel
theorem dX12_readLine_106 : decode cX12_readLine 106 = .ok (.aload_n 0, 1) := by decide +kernel
theorem dX12_readLine_107 : decode cX12_readLine 107 = .ok (.invokevirtual 162, 3) := by decide +kernel
theorem dX12_readLine_110 : decode cX12_readLine 110 = .ok (.aload_n 0, 1) := by decide +kernel
theorem dX12_readLine_111 : decode cX12_readLine 111 = .ok (.getfield 106, 3) := by decide +kernel
theorem dX12_readLine_114 : decode cX12_readLine 114 = .ok (.iconst 3, 1) := by decide +kernel
theorem dX12_readLine_115 : decode cX12_readLine 115 = .ok (.if_icmp .eq 9, 3) := by decide +kernel
theorem dX12_readLine_118 : decode cX12_readLine 118 = .ok (.aload_n 0, 1) := by decide +kernel
theorem dX12_readLine_119 : decode cX12_readLine 119 = .ok (.iconst 1, 1) := by decide +kernel
theorem dX12_readLine_120 : decode cX12_readLine 120 = .ok (.invokevirtual 152, 3) := by decide +kernel
theorem dX12_readLine_123 : decode cX12_readLine 123 = .ok (.ireturn, 1) := by decide +kernel
theorem dX12_readLine_124 : decode cX12_readLine 124 = .ok (.aload_n 0, 1) := by decide +kernel
theorem dX12_readLine_125 : decode cX12_readLine 125 = .ok (.getfield 123, 3) := by decide +kernel
theorem dX12_readLine_128 : decode cX12_readLine 128 = .ok (.iconst 1, 1) := by decide +kernel
theorem dX12_readLine_129 : decode cX12_readLine 129 = .ok (.bipush 60, 2) := by decide +kernel
theorem dX12_readLine_131 : decode cX12_readLine 131 = .ok (.invokestatic 155, 3) := by decide +kernel
theorem dX12_readLine_134 : decode cX12_readLine 134 = .ok (.ifCond .ne 9, 3) := by decide +kernel
theorem dX12_readLine_137 : decode cX12_readLine 137 = .ok (.aload_n 0, 1) := by decide +kernel
theorem dX12_readLine_138 : decode cX12_readLine 138 = .ok (.iconst 2, 1) := by decide +kernel
theorem dX12_readLine_139 : decode cX12_readLine 139 = .ok (.invokevirtual 152, 3) := by decide +kernel
theorem dX12_readLine_142 : decode cX12_readLine 142 = .ok (.ireturn, 1) := by decide +kernel
theorem dX12_readLine_143 : decode cX12_readLine 143 = .ok (.aload_n 0, 1) := by decide +kernel
theorem dX12_readLine_144 : decode cX12_readLine 144 = .ok (.getfield 16, 3) := by decide +kernel
theorem dX12_readLine_147 : decode cX12_readLine 147 = .ok (.iconst 0, 1) := by decide +kernel
theorem dX12_readLine_148 : decode cX12_readLine 148 = .ok (.iaload, 1) := by decide +kernel
theorem dX12_readLine_149 : decode cX12_readLine 149 = .ok (.aload_n 0, 1) := by decide +kernel
theorem dX12_readLine_150 : decode cX12_readLine 150 = .ok (.getfield 123, 3) := by decide +kernel
theorem dX12_readLine_153 : decode cX12_readLine 153 = .ok (.iadd, 1) := by decide +kernel
theorem dX12_readLine_154 : decode cX12_readLine 154 = .ok (.bipush 60, 2) := by decide +kernel
theorem dX12_readLine_156 : decode cX12_readLine 156 = .ok (.if_icmp .le 9, 3) := by decide +kernel
theorem dX12_readLine_159 : decode cX12_readLine 159 = .ok (.aload_n 0, 1) := by decide +kernel
theorem dX12_readLine_160 : decode cX12_readLine 160 = .ok (.iconst 4, 1) := by decide +kernel
theorem dX12_readLine_161 : decode cX12_readLine 161 = .ok (.invokevirtual 152, 3) := by decide +kernel
theorem dX12_readLine_164 : decode cX12_readLine 164 = .ok (.ireturn, 1) := by decide +kernel
theorem dX12_readLine_165 : decode cX12_readLine 165 = .ok (.aload_n 0, 1) := by decide +kernel
theorem dX12_readLine_166 : decode cX12_readLine 166 = .ok (.getfield 123, 3) := by decide +kernel
theorem dX12_readLine_169 : decode cX12_readLine 169 = .ok (.istore_n 1, 1) := by decide +kernel
theorem dX12_readLine_170 : decode cX12_readLine 170 = .ok (.aload_n 0, 1) := by decide +kernel
theorem dX12_readLine_171 : decode cX12_readLine 171 = .ok (.invokevirtual 162, 3) := by decide +kernel
theorem dX12_readLine_174 : decode cX12_readLine 174 = .ok (.aload_n 0, 1) := by decide +kernel
theorem dX12_readLine_175 : decode cX12_readLine 175 = .ok (.iconst 1, 1) := by decide +kernel
theorem dX12_readLine_176 : decode cX12_readLine 176 = .ok (.bipush 99, 2) := by decide +kernel
theorem dX12_readLine_178 : decode cX12_readLine 178 = .ok (.invokevirtual 168, 3) := by decide +kernel
theorem dX12_readLine_181 : decode cX12_readLine 181 = .ok (.ifCond .ne 5, 3) := by decide +kernel
theorem dX12_readLine_184 : decode cX12_readLine 184 = .ok (.iconst 0, 1) := by decide +kernel
theorem dX12_readLine_185 : decode cX12_readLine 185 = .ok (.ireturn, 1) := by decide +kernel
theorem dX12_readLine_186 : decode cX12_readLine 186 = .ok (.aload_n 0, 1) := by decide +kernel
theorem dX12_readLine_187 : decode cX12_readLine 187 = .ok (.getfield 159, 3) := by decide +kernel
theorem dX12_readLine_190 : decode cX12_readLine 190 = .ok (.istore_n 2, 1) := by decide +kernel
theorem dX12_readLine_191 : decode cX12_readLine 191 = .ok (.aload_n 0, 1) := by decide +kernel
theorem dX12_readLine_192 : decode cX12_readLine 192 = .ok (.iconst 1, 1) := by decide +kernel
theorem dX12_readLine_193 : decode cX12_readLine 193 = .ok (.bipush 20, 2) := by decide +kernel
theorem dX12_readLine_195 : decode cX12_readLine 195 = .ok (.invokevirtual 168, 3) := by decide +kernel
theorem dX12_readLine_198 : decode cX12_readLine 198 = .ok (.ifCond .ne 5, 3) := by decide +kernel
theorem dX12_readLine_201 : decode cX12_readLine 201 = .ok (.iconst 0, 1) := by decide +kernel
theorem dX12_readLine_202 : decode cX12_readLine 202 = .ok (.ireturn, 1) := by decide +kernel
theorem dX12_readLine_203 : decode cX12_readLine 203 = .ok (.aload_n 0, 1) := by decide +kernel
theorem dX12_readLine_204 : decode cX12_readLine 204 = .ok (.getfield 159, 3) := by decide +kernel
theorem dX12_readLine_207 : decode cX12_readLine 207 = .ok (.istore_n 3, 1) := by decide +kernel
theorem dX12_readLine_208 : decode cX12_readLine 208 = .ok (.iconst 0, 1) := by decide +kernel
theorem dX12_readLine_209 : decode cX12_readLine 209 = .ok (.istore 4, 2) := by decide +kernel
theorem dX12_readLine_211 : decode cX12_readLine 211 = .ok (.iconst 0, 1) := by decide +kernel
theorem dX12_readLine_212 : decode cX12_readLine 212 = .ok (.istore 5, 2) := by decide +kernel
theorem dX12_readLine_214 : decode cX12_readLine 214 = .ok (.aload_n 0, 1) := by decide +kernel
theorem dX12_readLine_215 : decode cX12_readLine 215 = .ok (.iconst 1, 1) := by decide +kernel
theorem dX12_readLine_216 : decode cX12_readLine 216 = .ok (.invokevirtual 172, 3) := by decide +kernel
theorem dX12_readLine_219 : decode cX12_readLine 219 = .ok (.ifCond .eq 37, 3) := by decide +kernel
theorem dX12_readLine_222 : decode cX12_readLine 222 = .ok (.aload_n 0, 1) := by decide +kernel
theorem dX12_readLine_223 : decode cX12_readLine 223 = .ok (.invokevirtual 162, 3) := by decide +kernel
theorem dX12_readLine_226 : decode cX12_readLine 226 = .ok (.aload_n 0, 1) := by decide +kernel
theorem dX12_readLine_227 : decode cX12_readLine 227 = .ok (.iconst 0, 1) := by decide +kernel
theorem dX12_readLine_228 : decode cX12_readLine 228 = .ok (.iload_n 2, 1) := by decide +kernel
theorem dX12_readLine_229 : decode cX12_readLine 229 = .ok (.bipush 9, 2) := by decide +kernel
theorem dX12_readLine_231 : decode cX12_readLine 231 = .ok (.if_icmp .le 8, 3) := by decide +kernel
theorem dX12_readLine_234 : decode cX12_readLine 234 = .ok (.bipush 9, 2) := by decide +kernel
theorem dX12_readLine_236 : decode cX12_readLine 236 = .ok (.goto 6, 3) := by decide +kernel
theorem dX12_readLine_239 : decode cX12_readLine 239 = .ok (.iload_n 2, 1) := by decide +kernel
theorem dX12_readLine_240 : decode cX12_readLine 240 = .ok (.iconst 1, 1) := by decide +kernel
theorem dX12_readLine_241 : decode cX12_readLine 241 = .ok (.isub, 1) := by decide +kernel
theorem dX12_readLine_242 : decode cX12_readLine 242 = .ok (.invokevirtual 168, 3) := by decide +kernel
theorem dX12_readLine_245 : decode cX12_readLine 245 = .ok (.ifCond .ne 5, 3) := by decide +kernel
theorem dX12_readLine_248 : decode cX12_readLine 248 = .ok (.iconst 0, 1) := by decide +kernel
theorem dX12_readLine_249 : decode cX12_readLine 249 = .ok (.ireturn, 1) := by decide +kernel
theorem dX12_readLine_250 : decode cX12_readLine 250 = .ok (.aload_n 0, 1) := by decide +kernel
theorem dX12_readLine_251 : decode cX12_readLine 251 = .ok (.getfield 159, 3) := by decide +kernel
theorem dX12_readLine_254 : decode cX12_readLine 254 = .ok (.istore 4, 2) := by decide +kernel
theorem dX12_readLine_256 : decode cX12_readLine 256 = .ok (.aload_n 0, 1) := by decide +kernel
theorem dX12_readLine_257 : decode cX12_readLine 257 = .ok (.iconst 2, 1) := by decide +kernel
theorem dX12_readLine_258 : decode cX12_readLine 258 = .ok (.invokevirtual 172, 3) := by decide +kernel
theorem dX12_readLine_261 : decode cX12_readLine 261 = .ok (.ifCond .eq 24, 3) := by decide +kernel
theorem dX12_readLine_264 : decode cX12_readLine 264 = .ok (.aload_n 0, 1) := by decide +kernel
theorem dX12_readLine_265 : decode cX12_readLine 265 = .ok (.invokevirtual 162, 3) := by decide +kernel
theorem dX12_readLine_268 : decode cX12_readLine 268 = .ok (.aload_n 0, 1) := by decide +kernel
theorem dX12_readLine_269 : decode cX12_readLine 269 = .ok (.bipush 99, 2) := by decide +kernel
theorem dX12_readLine_271 : decode cX12_readLine 271 = .ok (.invokevirtual 193, 3) := by decide +kernel
theorem dX12_readLine_274 : decode cX12_readLine 274 = .ok (.ifCond .ne 5, 3) := by decide +kernel
theorem dX12_readLine_277 : decode cX12_readLine 277 = .ok (.iconst 0, 1) := by decide +kernel
theorem dX12_readLine_278 : decode cX12_readLine 278 = .ok (.ireturn, 1) := by decide +kernel
theorem dX12_readLine_279 : decode cX12_readLine 279 = .ok (.aload_n 0, 1) := by decide +kernel
theorem dX12_readLine_280 : decode cX12_readLine 280 = .ok (.getfield 159, 3) := by decide +kernel
theorem dX12_readLine_283 : decode cX12_readLine 283 = .ok (.istore 5, 2) := by decide +kernel
theorem dX12_readLine_285 : decode cX12_readLine 285 = .ok (.iconst 0, 1) := by decide +kernel
theorem dX12_readLine_286 : decode cX12_readLine 286 = .ok (.istore 6, 2) := by decide +kernel
theorem dX12_readLine_288 : decode cX12_readLine 288 = .ok (.iload 6, 2) := by decide +kernel
theorem dX12_readLine_290 : decode cX12_readLine 290 = .ok (.iload_n 1, 1) := by decide +kernel
theorem dX12_readLine_291 : decode cX12_readLine 291 = .ok (.if_icmp .ge 74, 3) := by decide +kernel
theorem dX12_readLine_294 : decode cX12_readLine 294 = .ok (.bipush 10, 2) := by decide +kernel
theorem dX12_readLine_296 : decode cX12_readLine 296 = .ok (.iconst 4, 1) := by decide +kernel
theorem dX12_readLine_297 : decode cX12_readLine 297 = .ok (.aload_n 0, 1) := by decide +kernel
theorem dX12_readLine_298 : decode cX12_readLine 298 = .ok (.getfield 16, 3) := by decide +kernel
theorem dX12_readLine_301 : decode cX12_readLine 301 = .ok (.iconst 0, 1) := by decide +kernel
theorem dX12_readLine_302 : decode cX12_readLine 302 = .ok (.iaload, 1) := by decide +kernel
theorem dX12_readLine_303 : decode cX12_readLine 303 = .ok (.imul, 1) := by decide +kernel
theorem dX12_readLine_304 : decode cX12_readLine 304 = .ok (.iadd, 1) := by decide +kernel
theorem dX12_readLine_305 : decode cX12_readLine 305 = .ok (.istore 7, 2) := by decide +kernel
theorem dX12_readLine_307 : decode cX12_readLine 307 = .ok (.aload_n 0, 1) := by decide +kernel
theorem dX12_readLine_308 : decode cX12_readLine 308 = .ok (.getfield 16, 3) := by decide +kernel
theorem dX12_readLine_311 : decode cX12_readLine 311 = .ok (.iload 7, 2) := by decide +kernel
theorem dX12_readLine_313 : decode cX12_readLine 313 = .ok (.iconst 0, 1) := by decide +kernel
theorem dX12_readLine_314 : decode cX12_readLine 314 = .ok (.iadd, 1) := by decide +kernel
theorem dX12_readLine_315 : decode cX12_readLine 315 = .ok (.iload_n 2, 1) := by decide +kernel
theorem dX12_readLine_316 : decode cX12_readLine 316 = .ok (.iastore, 1) := by decide +kernel
theorem dX12_readLine_317 : decode cX12_readLine 317 = .ok (.aload_n 0, 1) := by decide +kernel
theorem dX12_readLine_318 : decode cX12_readLine 318 = .ok (.getfield 16, 3) := by decide +kernel
theorem dX12_readLine_321 : decode cX12_readLine 321 = .ok (.iload 7, 2) := by decide +kernel
theorem dX12_readLine_323 : decode cX12_readLine 323 = .ok (.iconst 1, 1) := by decide +kernel
theorem dX12_readLine_324 : decode cX12_readLine 324 = .ok (.iadd, 1) := by decide +kernel
theorem dX12_readLine_325 : decode cX12_readLine 325 = .ok (.iload_n 3, 1) := by decide +kernel
theorem dX12_readLine_326 : decode cX12_readLine 326 = .ok (.iastore, 1) := by decide +kernel
theorem dX12_readLine_327 : decode cX12_readLine 327 = .ok (.aload_n 0, 1) := by decide +kernel
theorem dX12_readLine_328 : decode cX12_readLine 328 = .ok (.getfield 16, 3) := by decide +kernel
theorem dX12_readLine_331 : decode cX12_readLine 331 = .ok (.iload 7, 2) := by decide +kernel
theorem dX12_readLine_333 : decode cX12_readLine 333 = .ok (.iconst 2, 1) := by decide +kernel
theorem dX12_readLine_334 : decode cX12_readLine 334 = .ok (.iadd, 1) := by decide +kernel
theorem dX12_readLine_335 : decode cX12_readLine 335 = .ok (.iload 4, 2) := by decide +kernel
theorem dX12_readLine_337 : decode cX12_readLine 337 = .ok (.iastore, 1) := by decide +kernel
theorem dX12_readLine_338 : decode cX12_readLine 338 = .ok (.aload_n 0, 1) := by decide +kernel
theorem dX12_readLine_339 : decode cX12_readLine 339 = .ok (.getfield 16, 3) := by decide +kernel
theorem dX12_readLine_342 : decode cX12_readLine 342 = .ok (.iload 7, 2) := by decide +kernel
theorem dX12_readLine_344 : decode cX12_readLine 344 = .ok (.iconst 3, 1) := by decide +kernel
theorem dX12_readLine_345 : decode cX12_readLine 345 = .ok (.iadd, 1) := by decide +kernel
theorem dX12_readLine_346 : decode cX12_readLine 346 = .ok (.iload 5, 2) := by decide +kernel
theorem dX12_readLine_348 : decode cX12_readLine 348 = .ok (.iastore, 1) := by decide +kernel
theorem dX12_readLine_349 : decode cX12_readLine 349 = .ok (.aload_n 0, 1) := by decide +kernel
theorem dX12_readLine_350 : decode cX12_readLine 350 = .ok (.getfield 16, 3) := by decide +kernel
theorem dX12_readLine_353 : decode cX12_readLine 353 = .ok (.iconst 0, 1) := by decide +kernel
theorem dX12_readLine_354 : decode cX12_readLine 354 = .ok (.dup2, 1) := by decide +kernel
theorem dX12_readLine_355 : decode cX12_readLine 355 = .ok (.iaload, 1) := by decide +kernel
theorem dX12_readLine_356 : decode cX12_readLine 356 = .ok (.iconst 1, 1) := by decide +kernel
theorem dX12_readLine_357 : decode cX12_readLine 357 = .ok (.iadd, 1) := by decide +kernel
theorem dX12_readLine_358 : decode cX12_readLine 358 = .ok (.iastore, 1) := by decide +kernel
theorem dX12_readLine_359 : decode cX12_readLine 359 = .ok (.iinc 6 1, 3) := by decide +kernel
theorem dX12_readLine_362 : decode cX12_readLine 362 = .ok (.goto (-74), 3) := by decide +kernel
theorem dX12_readLine_365 : decode cX12_readLine 365 = .ok (.aload_n 0, 1) := by decide +kernel
theorem dX12_readLine_366 : decode cX12_readLine 366 = .ok (.invokevirtual 189, 3) := by decide +kernel
theorem dX12_readLine_369 : decode cX12_readLine 369 = .ok (.ireturn, 1) := by decide +kernel
theorem hcX12_readLine : yX12_readLine.cls ≠ "java/lang/invoke/MethodHandle" ∧ yX12_readLine.cls ≠ "java/lang/invoke/VarHandle" ∧ (parseMethodDescriptor yX12_readLine.desc).map (fun d => d.parameters.length) = some 0 := ⟨by decide +kernel, by decide +kernel, by decide +kernel⟩
def fX12_readLine_j29 (s0 : sg_M) (Q : Int → sg_M → Prop) (y0_29 : Int) : Prop := (((sg_and (sg_shr (s0 64 21) y0_29) 1) ≠ 1 → ∀ v8 : Int, v8 = (sg_or (s0 64 21) (sg_shl 1 y0_29)) → ∀ s10 : sg_M, s10 = sg_up s0 64 21 v8 → fX12_go s10 (fun s12 => fX12_readNumber s12 1 9999 (fun u13 s15 => ((u13 ≠ 0 → (0 ≤ y0_29 ∧ y0_29 < 260) ∧ ∀ s20 : sg_M, s20 = sg_up s15 67 y0_29 (s15 64 13) → fX12_readEnd s20 (fun u22 s24 => Q u22 s24)) ∧ (u13 = 0 → Q 0 s15))))) ∧ ((sg_and (sg_shr (s0 64 21) y0_29) 1) = 1 → fX12_bad s0 3 (fun u25 s27 => Q u25 s27)))
def fX12_readLine_j16 (s0 : sg_M) (Q : Int → sg_M → Prop)  : Prop := fX12_isWord s0 3 (fun u3 => ((u3 = 0 → (fX12_readLine_j29 s0 Q) 2) ∧ (¬ (u3 = 0) → (fX12_readLine_j29 s0 Q) 1)))
def fX12_readLine_L288 (s36 : sg_M) (s52 : sg_M) (s57 : sg_M) (x4_256 : Int) (x5_285 : Int) (Q : Int → sg_M → Prop) : Nat → sg_M → Int → Prop
  | 0, _, _ => False
  | n_288 + 1, s_288, x6_288 => (((s36 64 8) ≤ x6_288 → fX12_readEnd s_288 (fun u65 s67 => Q u65 s67)) ∧ (¬ ((s36 64 8) ≤ x6_288) → (0 ≤ ((10 + (4 * (s_288 67 0))) + 0) ∧ ((10 + (4 * (s_288 67 0))) + 0) < 260) ∧ ∀ s72 : sg_M, s72 = sg_up s_288 67 ((10 + (4 * (s_288 67 0))) + 0) (s52 64 13) → (0 ≤ ((10 + (4 * (s_288 67 0))) + 1) ∧ ((10 + (4 * (s_288 67 0))) + 1) < 260) ∧ ∀ s76 : sg_M, s76 = sg_up s72 67 ((10 + (4 * (s_288 67 0))) + 1) (s57 64 13) → (0 ≤ ((10 + (4 * (s_288 67 0))) + 2) ∧ ((10 + (4 * (s_288 67 0))) + 2) < 260) ∧ ∀ s80 : sg_M, s80 = sg_up s76 67 ((10 + (4 * (s_288 67 0))) + 2) x4_256 → (0 ≤ ((10 + (4 * (s_288 67 0))) + 3) ∧ ((10 + (4 * (s_288 67 0))) + 3) < 260) ∧ ∀ s84 : sg_M, s84 = sg_up s80 67 ((10 + (4 * (s_288 67 0))) + 3) x5_285 → sg_R ((s84 67 0) + 1) ∧ ∀ s89 : sg_M, s89 = sg_up s84 67 0 ((s84 67 0) + 1) → sg_R (x6_288 + 1) ∧ (fX12_readLine_L288 s36 s52 s57 x4_256 x5_285 Q n_288) s89 (x6_288 + 1)))
def fX12_readLine_j285 (s36 : sg_M) (s52 : sg_M) (s57 : sg_M) (x4_256 : Int) (Q : Int → sg_M → Prop) (s_285 : sg_M) (x5_285 : Int) : Prop := (∃ n92 : Nat, fX12_readLine_L288 s36 s52 s57 x4_256 x5_285 Q n92 s_285 0)
def fX12_readLine_j256 (s36 : sg_M) (s52 : sg_M) (s57 : sg_M) (Q : Int → sg_M → Prop) (s_256 : sg_M) (x4_256 : Int) : Prop := fX12_isWord s_256 2 (fun u62 => ((u62 = 0 → (fX12_readLine_j285 s36 s52 s57 x4_256 Q) s_256 0) ∧ (¬ (u62 = 0) → fX12_go s_256 (fun s94 => fX12_readSigned s94 99 (fun u95 s97 => ((u95 ≠ 0 → (fX12_readLine_j285 s36 s52 s57 x4_256 Q) s97 (s97 64 13)) ∧ (u95 = 0 → Q 0 s97)))))))
def fX12_readLine_j242 (s101 : sg_M) (Q : Int → sg_M → Prop) (k256 : sg_M → Int → Prop) (y0_242 : Int) : Prop := fX12_readNumber s101 0 y0_242 (fun u102 s104 => ((u102 ≠ 0 → k256 s104 (s104 64 13)) ∧ (u102 = 0 → Q 0 s104)))
def fX12_readLine (s0 : sg_M) (Q : Int → sg_M → Prop) : Prop := fX12_isWord s0 3 (fun u1 => ((u1 ≠ 0 → (fX12_readLine_j16 s0 Q)) ∧ (u1 = 0 → fX12_isWord s0 4 (fun u30 => ((u30 = 0 → fX12_isWord s0 0 (fun u33 => ((u33 ≠ 0 → fX12_go s0 (fun s36 => (((s36 64 7) = 3 → fX12_isIn (s36 64 8) 1 60 (fun u40 => ((u40 ≠ 0 → sg_R ((s36 67 0) + (s36 64 8)) ∧ ((((s36 67 0) + (s36 64 8)) ≤ 60 → fX12_go s36 (fun s49 => fX12_readNumber s49 1 99 (fun u50 s52 => ((u50 ≠ 0 → fX12_readNumber s52 1 20 (fun u55 s57 => ((u55 ≠ 0 → fX12_isWord s57 1 (fun u60 => ((u60 = 0 → (fX12_readLine_j256 s36 s52 s57 Q) s57 0) ∧ (¬ (u60 = 0) → fX12_go s57 (fun s101 => (((s52 64 13) ≤ 9 → sg_R ((s52 64 13) - 1) ∧ (fX12_readLine_j242 s101 Q (fX12_readLine_j256 s36 s52 s57 Q)) ((s52 64 13) - 1)) ∧ (¬ ((s52 64 13) ≤ 9) → (fX12_readLine_j242 s101 Q (fX12_readLine_j256 s36 s52 s57 Q)) 9))))))) ∧ (u55 = 0 → Q 0 s57)))) ∧ (u50 = 0 → Q 0 s52))))) ∧ (¬ (((s36 67 0) + (s36 64 8)) ≤ 60) → fX12_bad s36 4 (fun u109 s111 => Q u109 s111)))) ∧ (u40 = 0 → fX12_bad s36 2 (fun u112 s114 => Q u112 s114))))) ∧ (¬ ((s36 64 7) = 3) → fX12_bad s36 1 (fun u115 s117 => Q u115 s117))))) ∧ (u33 = 0 → fX12_bad s0 1 (fun u118 s120 => Q u118 s120))))) ∧ (¬ (u30 = 0) → (fX12_readLine_j16 s0 Q)))))))
set_option maxHeartbeats 4000000 in
set_option maxRecDepth 100000 in
theorem CX12_readLine {l : Launch} {G : sg_G} {La : sg_L} {s0 : sg_M} (hst : sg_St La) {Q : Int → sg_M → Prop} (hf : fX12_readLine s0 Q) : sg_C l G yX12_readLine cX12_readLine 8 (some .boolean) 5 0 0 La s0 [sg_r 64] (sg_HZ La Q) := by
  refine sg_body (by decide +kernel) (Nat.le_of_ble_eq_true rfl) ?_
  intro p e s m args below meth c F hnm
  unfold fX12_readLine at hf
  show sg_W p l e (sg_rm 5 0 0) s m args below meth c (MQ below (sg_Q (some .boolean) G La s.heap.size (sg_HZ La Q)) args s 0 0 (sg_A La s.heap.size)) 8 G (sg_A La s.heap.size) La s0 0 0 0 [(0, sg_r 64)] []
  refine gw_aload_n F 0 rfl rfl (by decide) dX12_readLine_0 ?_
  refine gw_iconst F dX12_readLine_1 ?_
  refine gk_PZ F (gc_V F (S := []) (As := [sg_i 3]) (T := TX12) (N := 62) (CX12_isWord hst (by decide) hf) (so_64 hst) (by decide) rfl kw_1066 kw_103 kw_1064 kw_1065 kw_46 hcX12_isWord ⟨by decide, by decide⟩ rfl rfl (Nat.le_of_ble_eq_true rfl) ⟨by decide, by decide⟩ dX12_readLine_2) (fun u1 h2 hf => ?_)
  have J16 : (fX12_readLine_j16 s0 Q) → sg_W p l e (sg_rm 5 0 0) s m args below meth c (MQ below (sg_Q (some .boolean) G La s.heap.size (sg_HZ La Q)) args s 0 0 (sg_A La s.heap.size)) 8 G (sg_A La s.heap.size) La s0 0 0 16 [(0, sg_r 64)] [] := by
    intro hf
    unfold fX12_readLine_j16 at hf
    refine gw_aload_n F 0 rfl rfl (by decide) dX12_readLine_16 ?_
    refine gw_iconst F dX12_readLine_17 ?_
    refine gk_PZ F (gc_V F (S := []) (As := [sg_i 3]) (T := TX12) (N := 62) (CX12_isWord hst (by decide) hf) (so_64 hst) (by decide) rfl kw_1066 kw_103 kw_1064 kw_1065 kw_46 hcX12_isWord ⟨by decide, by decide⟩ rfl rfl (Nat.le_of_ble_eq_true rfl) ⟨by decide, by decide⟩ dX12_readLine_18) (fun u3 h4 hf => ?_)
    have J29 : ∀ (y0_29 : Int), sg_R y0_29 → (fX12_readLine_j29 s0 Q) y0_29 → sg_W p l e (sg_rm 5 0 0) s m args below meth c (MQ below (sg_Q (some .boolean) G La s.heap.size (sg_HZ La Q)) args s 0 0 (sg_A La s.heap.size)) 8 G (sg_A La s.heap.size) La s0 0 0 29 [(0, sg_r 64)] [sg_i y0_29] := by
      intro y0_29 ry0_29 hf
      unfold fX12_readLine_j29 at hf
      refine gw_istore_n F rfl (by decide) rfl dX12_readLine_29 ?_
      refine gw_aload_n F 1 rfl rfl (by decide) dX12_readLine_30 ?_
      refine gw_get0 F (so_64 hst) (by decide) rfl sg_lay_RX12 (j := 21) (by decide) rfl (host := "") (.inl kw_977) dX12_readLine_31 (fun h5 => ?_)
      refine gw_iload_n F 0 rfl rfl dX12_readLine_34 ?_
      refine gw_ishr F rfl dX12_readLine_35 ?_
      refine gw_iconst F dX12_readLine_36 ?_
      refine gw_iand F rfl dX12_readLine_37 ?_
      refine gw_iconst F dX12_readLine_38 ?_
      refine gw_icmp_ne F (tgt := 48) dX12_readLine_39 (by decide) (sg_and_R _ _) (by decide) (fun c6 => ?_) (fun c6 => ?_)
      · have hf := hf.1 c6
        refine gw_aload_n F 1 rfl rfl (by decide) dX12_readLine_48 ?_
        refine gw_dup F rfl dX12_readLine_49 ?_
        refine gw_get0 F (so_64 hst) (by decide) rfl sg_lay_RX12 (j := 21) (by decide) rfl (host := "") (.inl kw_977) dX12_readLine_50 (fun h7 => ?_)
        refine gw_iconst F dX12_readLine_53 ?_
        refine gw_iload_n F 0 rfl rfl dX12_readLine_54 ?_
        refine gw_ishl F rfl dX12_readLine_55 ?_
        refine gw_ior F rfl dX12_readLine_56 ?_
        obtain ⟨v8, e9⟩ : ∃ z : Int, z = (sg_or (s0 64 21) (sg_shl 1 y0_29)) := ⟨_, rfl⟩
        have hf := hf v8 e9
        refine gw_nmI e9 ?_
        obtain ⟨s10, e11⟩ : ∃ z : sg_M, z = sg_up s0 64 21 v8 := ⟨_, rfl⟩
        have hf := hf s10 e11
        refine gw_put0 F (so_64 hst) (by decide) rfl sg_lay_RX12 (j := 21) (by decide) (e9 ▸ (sg_or_R _ _)) e11 tyX12_ok nmX12 rfl (tyX12_ok 21 (by decide)) rfl (host := "") (.inl kw_977) dX12_readLine_57 ?_
        refine gw_aload_n F 1 rfl rfl (by decide) dX12_readLine_60 ?_
        refine gk_HV F (gc_V F (S := []) (As := []) (T := TX12) (N := 62) (CX12_go hst hf) (so_64 hst) (by decide) rfl kw_1049 kw_103 kw_1047 kw_1048 kw_43 hcX12_go ⟨by decide, by decide⟩ rfl rfl (Nat.le_of_ble_eq_true rfl) ⟨by decide, by decide⟩ dX12_readLine_61) (fun s12 hf => ?_)
        refine gw_aload_n F 1 rfl rfl (by decide) dX12_readLine_64 ?_
        refine gw_iconst F dX12_readLine_65 ?_
        refine gw_sipush F rfl dX12_readLine_66 ?_
        refine gk_HZ F (gc_V F (S := []) (As := [sg_i 1, sg_i 9999]) (T := TX12) (N := 62) (CX12_readNumber hst (by decide) (by decide) hf) (so_64 hst) (by decide) rfl kw_1081 kw_103 kw_1079 kw_1080 kw_48 hcX12_readNumber ⟨by decide, by decide⟩ rfl rfl (Nat.le_of_ble_eq_true rfl) ⟨by decide, by decide⟩ dX12_readLine_69) (fun u13 s15 h14 hf => ?_)
        refine gw_if_ne F (tgt := 77) dX12_readLine_72 (by decide) (sg_B_R h14) (fun c16 => ?_) (fun c16 => ?_)
        · have hf := hf.1 c16
          refine gw_aload_n F 1 rfl rfl (by decide) dX12_readLine_77 ?_
          refine gw_get7 F (so_64 hst) (by decide) rfl sg_lay_RX12 (j := 15) (by decide) (o1 := 67) (by first | rfl | omega) rfl (host := "") (.inl kw_971) dX12_readLine_78 (fun h17 => ?_)
          refine gw_iload_n F 0 rfl rfl dX12_readLine_81 ?_
          refine gw_aload_n F 1 rfl rfl (by decide) dX12_readLine_82 ?_
          refine gw_get0 F (so_64 hst) (by decide) rfl sg_lay_RX12 (j := 13) (by decide) rfl (host := "") (.inl kw_969) dX12_readLine_83 (fun h18 => ?_)
          obtain ⟨⟨b190, b191⟩, hf⟩ := hf
          obtain ⟨s20, e21⟩ : ∃ z : sg_M, z = sg_up s15 67 y0_29 (s15 64 13) := ⟨_, rfl⟩
          have hf := hf s20 e21
          refine gw_iast F (sa_67 hst) b190 b191 h18 e21 dX12_readLine_86 ?_
          refine gw_aload_n F 1 rfl rfl (by decide) dX12_readLine_87 ?_
          refine gk_HZ F (gc_V F (S := []) (As := []) (T := TX12) (N := 62) (CX12_readEnd hst hf) (so_64 hst) (by decide) rfl kw_1087 kw_103 kw_1085 kw_1086 kw_49 hcX12_readEnd ⟨by decide, by decide⟩ rfl rfl (Nat.le_of_ble_eq_true rfl) ⟨by decide, by decide⟩ dX12_readLine_88) (fun u22 s24 h23 hf => ?_)
          exact gr_HZ F h23 hf (by decide) (by decide) dX12_readLine_91
        · have hf := hf.2 c16
          refine gw_iconst F dX12_readLine_75 ?_
          exact gr_HZ F (by decide) hf (by decide) (by decide) dX12_readLine_76
      · have hf := hf.2 c6
        refine gw_aload_n F 1 rfl rfl (by decide) dX12_readLine_42 ?_
        refine gw_iconst F dX12_readLine_43 ?_
        refine gk_HZ F (gc_V F (S := []) (As := [sg_i 3]) (T := TX12) (N := 62) (CX12_bad hst (by decide) hf) (so_64 hst) (by decide) rfl kw_1078 kw_103 kw_1076 kw_1077 kw_47 hcX12_bad ⟨by decide, by decide⟩ rfl rfl (Nat.le_of_ble_eq_true rfl) ⟨by decide, by decide⟩ dX12_readLine_44) (fun u25 s27 h26 hf => ?_)
        exact gr_HZ F h26 hf (by decide) (by decide) dX12_readLine_47
    refine gw_if_eq F (tgt := 28) dX12_readLine_21 (by decide) (sg_B_R h4) (fun c28 => ?_) (fun c28 => ?_)
    · have hf := hf.1 c28
      refine gw_iconst F dX12_readLine_28 ?_
      refine gw_sub [0] rfl ?_
      exact J29 2 (by decide) hf
    · have hf := hf.2 c28
      refine gw_iconst F dX12_readLine_24 ?_
      refine gw_goto F (tgt := 29) dX12_readLine_25 (by decide) ?_
      refine gw_sub [0] rfl ?_
      exact J29 1 (by decide) hf
  refine gw_if_ne F (tgt := 16) dX12_readLine_5 (by decide) (sg_B_R h2) (fun c29 => ?_) (fun c29 => ?_)
  · have hf := hf.1 c29
    refine gw_sub [0] rfl ?_
    exact J16  hf
  · have hf := hf.2 c29
    refine gw_aload_n F 0 rfl rfl (by decide) dX12_readLine_8 ?_
    refine gw_iconst F dX12_readLine_9 ?_
    refine gk_PZ F (gc_V F (S := []) (As := [sg_i 4]) (T := TX12) (N := 62) (CX12_isWord hst (by decide) hf) (so_64 hst) (by decide) rfl kw_1066 kw_103 kw_1064 kw_1065 kw_46 hcX12_isWord ⟨by decide, by decide⟩ rfl rfl (Nat.le_of_ble_eq_true rfl) ⟨by decide, by decide⟩ dX12_readLine_10) (fun u30 h31 hf => ?_)
    refine gw_if_eq F (tgt := 92) dX12_readLine_13 (by decide) (sg_B_R h31) (fun c32 => ?_) (fun c32 => ?_)
    · have hf := hf.1 c32
      refine gw_aload_n F 0 rfl rfl (by decide) dX12_readLine_92 ?_
      refine gw_iconst F dX12_readLine_93 ?_
      refine gk_PZ F (gc_V F (S := []) (As := [sg_i 0]) (T := TX12) (N := 62) (CX12_isWord hst (by decide) hf) (so_64 hst) (by decide) rfl kw_1066 kw_103 kw_1064 kw_1065 kw_46 hcX12_isWord ⟨by decide, by decide⟩ rfl rfl (Nat.le_of_ble_eq_true rfl) ⟨by decide, by decide⟩ dX12_readLine_94) (fun u33 h34 hf => ?_)
      refine gw_if_ne F (tgt := 106) dX12_readLine_97 (by decide) (sg_B_R h34) (fun c35 => ?_) (fun c35 => ?_)
      · have hf := hf.1 c35
        refine gw_aload_n F 0 rfl rfl (by decide) dX12_readLine_106 ?_
        refine gk_HV F (gc_V F (S := []) (As := []) (T := TX12) (N := 62) (CX12_go hst hf) (so_64 hst) (by decide) rfl kw_1049 kw_103 kw_1047 kw_1048 kw_43 hcX12_go ⟨by decide, by decide⟩ rfl rfl (Nat.le_of_ble_eq_true rfl) ⟨by decide, by decide⟩ dX12_readLine_107) (fun s36 hf => ?_)
        refine gw_aload_n F 0 rfl rfl (by decide) dX12_readLine_110 ?_
        refine gw_get0 F (so_64 hst) (by decide) rfl sg_lay_RX12 (j := 7) (by decide) rfl (host := "") (.inl kw_963) dX12_readLine_111 (fun h37 => ?_)
        refine gw_iconst F dX12_readLine_114 ?_
        refine gw_icmp_eq F (tgt := 124) dX12_readLine_115 (by decide) h37 (by decide) (fun c38 => ?_) (fun c38 => ?_)
        · have hf := hf.1 c38
          refine gw_aload_n F 0 rfl rfl (by decide) dX12_readLine_124 ?_
          refine gw_get0 F (so_64 hst) (by decide) rfl sg_lay_RX12 (j := 8) (by decide) rfl (host := "") (.inl kw_964) dX12_readLine_125 (fun h39 => ?_)
          refine gw_iconst F dX12_readLine_128 ?_
          refine gw_bipush F rfl dX12_readLine_129 ?_
          refine gk_PZ F (gc_S F (S := []) (As := [sg_i (s36 64 8), sg_i 1, sg_i 60]) (CX12_isIn h39 (by decide) (by decide) hf) kw_1084 kw_103 kw_1082 kw_1083 hcX12_isIn ⟨by decide, by decide⟩ rfl rfl (Nat.le_of_ble_eq_true rfl) ⟨by decide, by decide⟩ dX12_readLine_131) (fun u40 h41 hf => ?_)
          refine gw_if_ne F (tgt := 143) dX12_readLine_134 (by decide) (sg_B_R h41) (fun c42 => ?_) (fun c42 => ?_)
          · have hf := hf.1 c42
            refine gw_aload_n F 0 rfl rfl (by decide) dX12_readLine_143 ?_
            refine gw_get7 F (so_64 hst) (by decide) rfl sg_lay_RX12 (j := 15) (by decide) (o1 := 67) (by first | rfl | omega) rfl (host := "") (.inl kw_971) dX12_readLine_144 (fun h43 => ?_)
            refine gw_iconst F dX12_readLine_147 ?_
            refine gw_iald F (sa_67 hst) (by decide) (by decide) dX12_readLine_148 (fun h44 => ?_)
            refine gw_aload_n F 0 rfl rfl (by decide) dX12_readLine_149 ?_
            refine gw_get0 F (so_64 hst) (by decide) rfl sg_lay_RX12 (j := 8) (by decide) rfl (host := "") (.inl kw_964) dX12_readLine_150 (fun h45 => ?_)
            refine gw_iadd F rfl dX12_readLine_153 ?_
            refine gw_bipush F rfl dX12_readLine_154 ?_
            obtain ⟨g46, hf⟩ := hf
            refine gw_icmp_le F (tgt := 165) dX12_readLine_156 (by decide) g46 (by decide) (fun c47 => ?_) (fun c47 => ?_)
            · have hf := hf.1 c47
              refine gw_aload_n F 0 rfl rfl (by decide) dX12_readLine_165 ?_
              refine gw_get0 F (so_64 hst) (by decide) rfl sg_lay_RX12 (j := 8) (by decide) rfl (host := "") (.inl kw_964) dX12_readLine_166 (fun h48 => ?_)
              refine gw_istore_n F rfl (by decide) rfl dX12_readLine_169 ?_
              refine gw_aload_n F 1 rfl rfl (by decide) dX12_readLine_170 ?_
              refine gk_HV F (gc_V F (S := []) (As := []) (T := TX12) (N := 62) (CX12_go hst hf) (so_64 hst) (by decide) rfl kw_1049 kw_103 kw_1047 kw_1048 kw_43 hcX12_go ⟨by decide, by decide⟩ rfl rfl (Nat.le_of_ble_eq_true rfl) ⟨by decide, by decide⟩ dX12_readLine_171) (fun s49 hf => ?_)
              refine gw_aload_n F 1 rfl rfl (by decide) dX12_readLine_174 ?_
              refine gw_iconst F dX12_readLine_175 ?_
              refine gw_bipush F rfl dX12_readLine_176 ?_
              refine gk_HZ F (gc_V F (S := []) (As := [sg_i 1, sg_i 99]) (T := TX12) (N := 62) (CX12_readNumber hst (by decide) (by decide) hf) (so_64 hst) (by decide) rfl kw_1081 kw_103 kw_1079 kw_1080 kw_48 hcX12_readNumber ⟨by decide, by decide⟩ rfl rfl (Nat.le_of_ble_eq_true rfl) ⟨by decide, by decide⟩ dX12_readLine_178) (fun u50 s52 h51 hf => ?_)
              refine gw_if_ne F (tgt := 186) dX12_readLine_181 (by decide) (sg_B_R h51) (fun c53 => ?_) (fun c53 => ?_)
              · have hf := hf.1 c53
                refine gw_aload_n F 1 rfl rfl (by decide) dX12_readLine_186 ?_
                refine gw_get0 F (so_64 hst) (by decide) rfl sg_lay_RX12 (j := 13) (by decide) rfl (host := "") (.inl kw_969) dX12_readLine_187 (fun h54 => ?_)
                refine gw_istore_n F rfl (by decide) rfl dX12_readLine_190 ?_
                refine gw_aload_n F 2 rfl rfl (by decide) dX12_readLine_191 ?_
                refine gw_iconst F dX12_readLine_192 ?_
                refine gw_bipush F rfl dX12_readLine_193 ?_
                refine gk_HZ F (gc_V F (S := []) (As := [sg_i 1, sg_i 20]) (T := TX12) (N := 62) (CX12_readNumber hst (by decide) (by decide) hf) (so_64 hst) (by decide) rfl kw_1081 kw_103 kw_1079 kw_1080 kw_48 hcX12_readNumber ⟨by decide, by decide⟩ rfl rfl (Nat.le_of_ble_eq_true rfl) ⟨by decide, by decide⟩ dX12_readLine_195) (fun u55 s57 h56 hf => ?_)
                refine gw_if_ne F (tgt := 203) dX12_readLine_198 (by decide) (sg_B_R h56) (fun c58 => ?_) (fun c58 => ?_)
                · have hf := hf.1 c58
                  refine gw_aload_n F 2 rfl rfl (by decide) dX12_readLine_203 ?_
                  refine gw_get0 F (so_64 hst) (by decide) rfl sg_lay_RX12 (j := 13) (by decide) rfl (host := "") (.inl kw_969) dX12_readLine_204 (fun h59 => ?_)
                  refine gw_istore_n F rfl (by decide) rfl dX12_readLine_207 ?_
                  refine gw_iconst F dX12_readLine_208 ?_
                  refine gw_istore F (by decide) rfl dX12_readLine_209 ?_
                  refine gw_iconst F dX12_readLine_211 ?_
                  refine gw_istore F (by decide) rfl dX12_readLine_212 ?_
                  refine gw_aload_n F 5 rfl rfl (by decide) dX12_readLine_214 ?_
                  refine gw_iconst F dX12_readLine_215 ?_
                  refine gk_PZ F (gc_V F (S := []) (As := [sg_i 1]) (T := TX12) (N := 62) (CX12_isWord hst (by decide) hf) (so_64 hst) (by decide) rfl kw_1066 kw_103 kw_1064 kw_1065 kw_46 hcX12_isWord ⟨by decide, by decide⟩ rfl rfl (Nat.le_of_ble_eq_true rfl) ⟨by decide, by decide⟩ dX12_readLine_216) (fun u60 h61 hf => ?_)
                  have J256 : ∀ (s_256 : sg_M) (x4_256 : Int), sg_R x4_256 → (fX12_readLine_j256 s36 s52 s57 Q) s_256 x4_256 → sg_W p l e (sg_rm 5 0 0) s m args below meth c (MQ below (sg_Q (some .boolean) G La s.heap.size (sg_HZ La Q)) args s 0 0 (sg_A La s.heap.size)) 8 G (sg_A La s.heap.size) La s_256 0 0 256 [(0, sg_r 64), (1, sg_i (s36 64 8)), (2, sg_i (s52 64 13)), (3, sg_i (s57 64 13)), (4, sg_i x4_256), (5, sg_i 0)] [] := by
                    intro s_256 x4_256 r4_256 hf
                    unfold fX12_readLine_j256 at hf
                    refine gw_aload_n F 0 rfl rfl (by decide) dX12_readLine_256 ?_
                    refine gw_iconst F dX12_readLine_257 ?_
                    refine gk_PZ F (gc_V F (S := []) (As := [sg_i 2]) (T := TX12) (N := 62) (CX12_isWord hst (by decide) hf) (so_64 hst) (by decide) rfl kw_1066 kw_103 kw_1064 kw_1065 kw_46 hcX12_isWord ⟨by decide, by decide⟩ rfl rfl (Nat.le_of_ble_eq_true rfl) ⟨by decide, by decide⟩ dX12_readLine_258) (fun u62 h63 hf => ?_)
                    have J285 : ∀ (s_285 : sg_M) (x5_285 : Int), sg_R x5_285 → (fX12_readLine_j285 s36 s52 s57 x4_256 Q) s_285 x5_285 → sg_W p l e (sg_rm 5 0 0) s m args below meth c (MQ below (sg_Q (some .boolean) G La s.heap.size (sg_HZ La Q)) args s 0 0 (sg_A La s.heap.size)) 8 G (sg_A La s.heap.size) La s_285 0 0 285 [(0, sg_r 64), (1, sg_i (s36 64 8)), (2, sg_i (s52 64 13)), (3, sg_i (s57 64 13)), (4, sg_i x4_256), (5, sg_i x5_285)] [] := by
                      intro s_285 x5_285 r5_285 hf
                      unfold fX12_readLine_j285 at hf
                      refine gw_iconst F dX12_readLine_285 ?_
                      refine gw_istore F (by decide) rfl dX12_readLine_286 ?_
                      have L288 : ∀ n_288 : Nat, ∀ (s_288 : sg_M) (x6_288 : Int), sg_R x6_288 → fX12_readLine_L288 s36 s52 s57 x4_256 x5_285 Q n_288 s_288 x6_288 → sg_W p l e (sg_rm 5 0 0) s m args below meth c (MQ below (sg_Q (some .boolean) G La s.heap.size (sg_HZ La Q)) args s 0 0 (sg_A La s.heap.size)) 8 G (sg_A La s.heap.size) La s_288 0 0 288 [(0, sg_r 64), (1, sg_i (s36 64 8)), (2, sg_i (s52 64 13)), (3, sg_i (s57 64 13)), (4, sg_i x4_256), (5, sg_i x5_285), (6, sg_i x6_288)] [] := by
                        intro n_288
                        induction n_288 with
                        | zero => intro s_288 x6_288 r6_288 hf; exact hf.elim
                        | succ n_288 ih =>
                          intro s_288 x6_288 r6_288 hf
                          unfold fX12_readLine_L288 at hf
                          refine gw_iload F 6 rfl dX12_readLine_288 ?_
                          refine gw_iload_n F 1 rfl rfl dX12_readLine_290 ?_
                          refine gw_icmp_ge F (tgt := 365) dX12_readLine_291 (by decide) r6_288 h48 (fun c64 => ?_) (fun c64 => ?_)
                          · have hf := hf.1 c64
                            refine gw_aload_n F 0 rfl rfl (by decide) dX12_readLine_365 ?_
                            refine gk_HZ F (gc_V F (S := []) (As := []) (T := TX12) (N := 62) (CX12_readEnd hst hf) (so_64 hst) (by decide) rfl kw_1087 kw_103 kw_1085 kw_1086 kw_49 hcX12_readEnd ⟨by decide, by decide⟩ rfl rfl (Nat.le_of_ble_eq_true rfl) ⟨by decide, by decide⟩ dX12_readLine_366) (fun u65 s67 h66 hf => ?_)
                            exact gr_HZ F h66 hf (by decide) (by decide) dX12_readLine_369
                          · have hf := hf.2 c64
                            refine gw_bipush F rfl dX12_readLine_294 ?_
                            refine gw_iconst F dX12_readLine_296 ?_
                            refine gw_aload_n F 0 rfl rfl (by decide) dX12_readLine_297 ?_
                            refine gw_get7 F (so_64 hst) (by decide) rfl sg_lay_RX12 (j := 15) (by decide) (o1 := 67) (by first | rfl | omega) rfl (host := "") (.inl kw_971) dX12_readLine_298 (fun h68 => ?_)
                            refine gw_iconst F dX12_readLine_301 ?_
                            refine gw_iald F (sa_67 hst) (by decide) (by decide) dX12_readLine_302 (fun h69 => ?_)
                            refine gw_imul F rfl dX12_readLine_303 ?_
                            refine gw_iadd F rfl dX12_readLine_304 ?_
                            refine gw_istore F (by decide) rfl dX12_readLine_305 ?_
                            refine gw_aload_n F 1 rfl rfl (by decide) dX12_readLine_307 ?_
                            refine gw_get7 F (so_64 hst) (by decide) rfl sg_lay_RX12 (j := 15) (by decide) (o1 := 67) (by first | rfl | omega) rfl (host := "") (.inl kw_971) dX12_readLine_308 (fun h70 => ?_)
                            refine gw_iload F 0 rfl dX12_readLine_311 ?_
                            refine gw_iconst F dX12_readLine_313 ?_
                            refine gw_iadd F rfl dX12_readLine_314 ?_
                            refine gw_iload_n F 3 rfl rfl dX12_readLine_315 ?_
                            obtain ⟨⟨b710, b711⟩, hf⟩ := hf
                            obtain ⟨s72, e73⟩ : ∃ z : sg_M, z = sg_up s_288 67 ((10 + (4 * (s_288 67 0))) + 0) (s52 64 13) := ⟨_, rfl⟩
                            have hf := hf s72 e73
                            refine gw_iast F (sa_67 hst) b710 b711 h54 e73 dX12_readLine_316 ?_
                            refine gw_aload_n F 1 rfl rfl (by decide) dX12_readLine_317 ?_
                            refine gw_get7 F (so_64 hst) (by decide) rfl sg_lay_RX12 (j := 15) (by decide) (o1 := 67) (by first | rfl | omega) rfl (host := "") (.inl kw_971) dX12_readLine_318 (fun h74 => ?_)
                            refine gw_iload F 0 rfl dX12_readLine_321 ?_
                            refine gw_iconst F dX12_readLine_323 ?_
                            refine gw_iadd F rfl dX12_readLine_324 ?_
                            refine gw_iload_n F 4 rfl rfl dX12_readLine_325 ?_
                            obtain ⟨⟨b750, b751⟩, hf⟩ := hf
                            obtain ⟨s76, e77⟩ : ∃ z : sg_M, z = sg_up s72 67 ((10 + (4 * (s_288 67 0))) + 1) (s57 64 13) := ⟨_, rfl⟩
                            have hf := hf s76 e77
                            refine gw_iast F (sa_67 hst) b750 b751 h59 e77 dX12_readLine_326 ?_
                            refine gw_aload_n F 1 rfl rfl (by decide) dX12_readLine_327 ?_
                            refine gw_get7 F (so_64 hst) (by decide) rfl sg_lay_RX12 (j := 15) (by decide) (o1 := 67) (by first | rfl | omega) rfl (host := "") (.inl kw_971) dX12_readLine_328 (fun h78 => ?_)
                            refine gw_iload F 0 rfl dX12_readLine_331 ?_
                            refine gw_iconst F dX12_readLine_333 ?_
                            refine gw_iadd F rfl dX12_readLine_334 ?_
                            refine gw_iload F 5 rfl dX12_readLine_335 ?_
                            obtain ⟨⟨b790, b791⟩, hf⟩ := hf
                            obtain ⟨s80, e81⟩ : ∃ z : sg_M, z = sg_up s76 67 ((10 + (4 * (s_288 67 0))) + 2) x4_256 := ⟨_, rfl⟩
                            have hf := hf s80 e81
                            refine gw_iast F (sa_67 hst) b790 b791 r4_256 e81 dX12_readLine_337 ?_
                            refine gw_aload_n F 1 rfl rfl (by decide) dX12_readLine_338 ?_
                            refine gw_get7 F (so_64 hst) (by decide) rfl sg_lay_RX12 (j := 15) (by decide) (o1 := 67) (by first | rfl | omega) rfl (host := "") (.inl kw_971) dX12_readLine_339 (fun h82 => ?_)
                            refine gw_iload F 0 rfl dX12_readLine_342 ?_
                            refine gw_iconst F dX12_readLine_344 ?_
                            refine gw_iadd F rfl dX12_readLine_345 ?_
                            refine gw_iload F 6 rfl dX12_readLine_346 ?_
                            obtain ⟨⟨b830, b831⟩, hf⟩ := hf
                            obtain ⟨s84, e85⟩ : ∃ z : sg_M, z = sg_up s80 67 ((10 + (4 * (s_288 67 0))) + 3) x5_285 := ⟨_, rfl⟩
                            have hf := hf s84 e85
                            refine gw_iast F (sa_67 hst) b830 b831 r5_285 e85 dX12_readLine_348 ?_
                            refine gw_aload_n F 1 rfl rfl (by decide) dX12_readLine_349 ?_
                            refine gw_get7 F (so_64 hst) (by decide) rfl sg_lay_RX12 (j := 15) (by decide) (o1 := 67) (by first | rfl | omega) rfl (host := "") (.inl kw_971) dX12_readLine_350 (fun h86 => ?_)
                            refine gw_iconst F dX12_readLine_353 ?_
                            refine gw_dup2 F rfl rfl dX12_readLine_354 ?_
                            refine gw_iald F (sa_67 hst) (by decide) (by decide) dX12_readLine_355 (fun h87 => ?_)
                            refine gw_iconst F dX12_readLine_356 ?_
                            refine gw_iadd F rfl dX12_readLine_357 ?_
                            obtain ⟨g88, hf⟩ := hf
                            obtain ⟨s89, e90⟩ : ∃ z : sg_M, z = sg_up s84 67 0 ((s84 67 0) + 1) := ⟨_, rfl⟩
                            have hf := hf s89 e90
                            refine gw_iast F (sa_67 hst) (by decide) (by decide) g88 e90 dX12_readLine_358 ?_
                            refine gw_iinc F (z := (x6_288 + 1)) 7 rfl (by omega) (by decide) rfl dX12_readLine_359 ?_
                            refine gw_goto F (tgt := 288) dX12_readLine_362 (by decide) ?_
                            obtain ⟨g91, hf⟩ := hf
                            refine gw_sub [2, 3, 4, 5, 6, 7, 0] rfl ?_
                            exact ih s89 (x6_288 + 1) g91 hf
                      obtain ⟨n92, hf⟩ := hf
                      refine gw_sub [1, 2, 3, 4, 5, 6, 0] rfl ?_
                      refine L288   n92 s_285 0 (by decide) hf
                    refine gw_if_eq F (tgt := 285) dX12_readLine_261 (by decide) (sg_B_R h63) (fun c93 => ?_) (fun c93 => ?_)
                    · have hf := hf.1 c93
                      refine gw_sub [0, 1, 2, 3, 4, 5] rfl ?_
                      exact J285 s_256 0 (by decide) hf
                    · have hf := hf.2 c93
                      refine gw_aload_n F 0 rfl rfl (by decide) dX12_readLine_264 ?_
                      refine gk_HV F (gc_V F (S := []) (As := []) (T := TX12) (N := 62) (CX12_go hst hf) (so_64 hst) (by decide) rfl kw_1049 kw_103 kw_1047 kw_1048 kw_43 hcX12_go ⟨by decide, by decide⟩ rfl rfl (Nat.le_of_ble_eq_true rfl) ⟨by decide, by decide⟩ dX12_readLine_265) (fun s94 hf => ?_)
                      refine gw_aload_n F 0 rfl rfl (by decide) dX12_readLine_268 ?_
                      refine gw_bipush F rfl dX12_readLine_269 ?_
                      refine gk_HZ F (gc_V F (S := []) (As := [sg_i 99]) (T := TX12) (N := 62) (CX12_readSigned hst (by decide) hf) (so_64 hst) (by decide) rfl kw_1093 kw_103 kw_1091 kw_1092 kw_51 hcX12_readSigned ⟨by decide, by decide⟩ rfl rfl (Nat.le_of_ble_eq_true rfl) ⟨by decide, by decide⟩ dX12_readLine_271) (fun u95 s97 h96 hf => ?_)
                      refine gw_if_ne F (tgt := 279) dX12_readLine_274 (by decide) (sg_B_R h96) (fun c98 => ?_) (fun c98 => ?_)
                      · have hf := hf.1 c98
                        refine gw_aload_n F 0 rfl rfl (by decide) dX12_readLine_279 ?_
                        refine gw_get0 F (so_64 hst) (by decide) rfl sg_lay_RX12 (j := 13) (by decide) rfl (host := "") (.inl kw_969) dX12_readLine_280 (fun h99 => ?_)
                        refine gw_istore F (by decide) rfl dX12_readLine_283 ?_
                        refine gw_sub [1, 2, 3, 4, 5, 0] rfl ?_
                        exact J285 s97 (s97 64 13) h99 hf
                      · have hf := hf.2 c98
                        refine gw_iconst F dX12_readLine_277 ?_
                        exact gr_HZ F (by decide) hf (by decide) (by decide) dX12_readLine_278
                  refine gw_if_eq F (tgt := 256) dX12_readLine_219 (by decide) (sg_B_R h61) (fun c100 => ?_) (fun c100 => ?_)
                  · have hf := hf.1 c100
                    refine gw_sub [5, 4, 3, 2, 1, 0] rfl ?_
                    exact J256 s57 0 (by decide) hf
                  · have hf := hf.2 c100
                    refine gw_aload_n F 5 rfl rfl (by decide) dX12_readLine_222 ?_
                    refine gk_HV F (gc_V F (S := []) (As := []) (T := TX12) (N := 62) (CX12_go hst hf) (so_64 hst) (by decide) rfl kw_1049 kw_103 kw_1047 kw_1048 kw_43 hcX12_go ⟨by decide, by decide⟩ rfl rfl (Nat.le_of_ble_eq_true rfl) ⟨by decide, by decide⟩ dX12_readLine_223) (fun s101 hf => ?_)
                    refine gw_aload_n F 5 rfl rfl (by decide) dX12_readLine_226 ?_
                    refine gw_iconst F dX12_readLine_227 ?_
                    refine gw_iload_n F 3 rfl rfl dX12_readLine_228 ?_
                    refine gw_bipush F rfl dX12_readLine_229 ?_
                    have J242 : ∀ (y0_242 : Int), sg_R y0_242 → (fX12_readLine_j242 s101 Q (fX12_readLine_j256 s36 s52 s57 Q)) y0_242 → sg_W p l e (sg_rm 5 0 0) s m args below meth c (MQ below (sg_Q (some .boolean) G La s.heap.size (sg_HZ La Q)) args s 0 0 (sg_A La s.heap.size)) 8 G (sg_A La s.heap.size) La s101 0 0 242 [(0, sg_r 64), (1, sg_i (s36 64 8)), (2, sg_i (s52 64 13)), (3, sg_i (s57 64 13)), (5, sg_i 0)] [sg_i y0_242, sg_i 0, sg_r 64] := by
                      intro y0_242 ry0_242 hf
                      unfold fX12_readLine_j242 at hf
                      refine gk_HZ F (gc_V F (S := []) (As := [sg_i 0, sg_i y0_242]) (T := TX12) (N := 62) (CX12_readNumber hst (by decide) ry0_242 hf) (so_64 hst) (by decide) rfl kw_1081 kw_103 kw_1079 kw_1080 kw_48 hcX12_readNumber ⟨by decide, by decide⟩ rfl rfl (Nat.le_of_ble_eq_true rfl) ⟨by decide, by decide⟩ dX12_readLine_242) (fun u102 s104 h103 hf => ?_)
                      refine gw_if_ne F (tgt := 250) dX12_readLine_245 (by decide) (sg_B_R h103) (fun c105 => ?_) (fun c105 => ?_)
                      · have hf := hf.1 c105
                        refine gw_aload_n F 0 rfl rfl (by decide) dX12_readLine_250 ?_
                        refine gw_get0 F (so_64 hst) (by decide) rfl sg_lay_RX12 (j := 13) (by decide) rfl (host := "") (.inl kw_969) dX12_readLine_251 (fun h106 => ?_)
                        refine gw_istore F (by decide) rfl dX12_readLine_254 ?_
                        refine gw_sub [1, 2, 3, 4, 0, 5] rfl ?_
                        exact J256 s104 (s104 64 13) h106 hf
                      · have hf := hf.2 c105
                        refine gw_iconst F dX12_readLine_248 ?_
                        exact gr_HZ F (by decide) hf (by decide) (by decide) dX12_readLine_249
                    refine gw_icmp_le F (tgt := 239) dX12_readLine_231 (by decide) h54 (by decide) (fun c107 => ?_) (fun c107 => ?_)
                    · have hf := hf.1 c107
                      refine gw_iload_n F 3 rfl rfl dX12_readLine_239 ?_
                      refine gw_iconst F dX12_readLine_240 ?_
                      refine gw_isub F rfl dX12_readLine_241 ?_
                      obtain ⟨g108, hf⟩ := hf
                      refine gw_sub [5, 4, 3, 2, 0] rfl ?_
                      exact J242 ((s52 64 13) - 1) g108 hf
                    · have hf := hf.2 c107
                      refine gw_bipush F rfl dX12_readLine_234 ?_
                      refine gw_goto F (tgt := 242) dX12_readLine_236 (by decide) ?_
                      refine gw_sub [5, 4, 3, 2, 0] rfl ?_
                      exact J242 9 (by decide) hf
                · have hf := hf.2 c58
                  refine gw_iconst F dX12_readLine_201 ?_
                  exact gr_HZ F (by decide) hf (by decide) (by decide) dX12_readLine_202
              · have hf := hf.2 c53
                refine gw_iconst F dX12_readLine_184 ?_
                exact gr_HZ F (by decide) hf (by decide) (by decide) dX12_readLine_185
            · have hf := hf.2 c47
              refine gw_aload_n F 0 rfl rfl (by decide) dX12_readLine_159 ?_
              refine gw_iconst F dX12_readLine_160 ?_
              refine gk_HZ F (gc_V F (S := []) (As := [sg_i 4]) (T := TX12) (N := 62) (CX12_bad hst (by decide) hf) (so_64 hst) (by decide) rfl kw_1078 kw_103 kw_1076 kw_1077 kw_47 hcX12_bad ⟨by decide, by decide⟩ rfl rfl (Nat.le_of_ble_eq_true rfl) ⟨by decide, by decide⟩ dX12_readLine_161) (fun u109 s111 h110 hf => ?_)
              exact gr_HZ F h110 hf (by decide) (by decide) dX12_readLine_164
          · have hf := hf.2 c42
            refine gw_aload_n F 0 rfl rfl (by decide) dX12_readLine_137 ?_
            refine gw_iconst F dX12_readLine_138 ?_
            refine gk_HZ F (gc_V F (S := []) (As := [sg_i 2]) (T := TX12) (N := 62) (CX12_bad hst (by decide) hf) (so_64 hst) (by decide) rfl kw_1078 kw_103 kw_1076 kw_1077 kw_47 hcX12_bad ⟨by decide, by decide⟩ rfl rfl (Nat.le_of_ble_eq_true rfl) ⟨by decide, by decide⟩ dX12_readLine_139) (fun u112 s114 h113 hf => ?_)
            exact gr_HZ F h113 hf (by decide) (by decide) dX12_readLine_142
        · have hf := hf.2 c38
          refine gw_aload_n F 0 rfl rfl (by decide) dX12_readLine_118 ?_
          refine gw_iconst F dX12_readLine_119 ?_
          refine gk_HZ F (gc_V F (S := []) (As := [sg_i 1]) (T := TX12) (N := 62) (CX12_bad hst (by decide) hf) (so_64 hst) (by decide) rfl kw_1078 kw_103 kw_1076 kw_1077 kw_47 hcX12_bad ⟨by decide, by decide⟩ rfl rfl (Nat.le_of_ble_eq_true rfl) ⟨by decide, by decide⟩ dX12_readLine_120) (fun u115 s117 h116 hf => ?_)
          exact gr_HZ F h116 hf (by decide) (by decide) dX12_readLine_123
      · have hf := hf.2 c35
        refine gw_aload_n F 0 rfl rfl (by decide) dX12_readLine_100 ?_
        refine gw_iconst F dX12_readLine_101 ?_
        refine gk_HZ F (gc_V F (S := []) (As := [sg_i 1]) (T := TX12) (N := 62) (CX12_bad hst (by decide) hf) (so_64 hst) (by decide) rfl kw_1078 kw_103 kw_1076 kw_1077 kw_47 hcX12_bad ⟨by decide, by decide⟩ rfl rfl (Nat.le_of_ble_eq_true rfl) ⟨by decide, by decide⟩ dX12_readLine_102) (fun u118 s120 h119 hf => ?_)
        exact gr_HZ F h119 hf (by decide) (by decide) dX12_readLine_105
    · have hf := hf.2 c32
      refine gw_sub [0] rfl ?_
      exact J16  hf

theorem dX12_blade_0 : decode cX12_blade 0 = .ok (.aload_n 0, 1) := by decide +kernel
theorem dX12_blade_1 : decode cX12_blade 1 = .ok (.sipush 500, 3) := by decide +kernel
theorem dX12_blade_4 : decode cX12_blade 4 = .ok (.invokevirtual 196, 3) := by decide +kernel
theorem dX12_blade_7 : decode cX12_blade 7 = .ok (.aload_n 0, 1) := by decide +kernel
theorem dX12_blade_8 : decode cX12_blade 8 = .ok (.getfield 16, 3) := by decide +kernel
theorem dX12_blade_11 : decode cX12_blade 11 = .ok (.iconst 0, 1) := by decide +kernel
theorem dX12_blade_12 : decode cX12_blade 12 = .ok (.iconst 0, 1) := by decide +kernel
theorem dX12_blade_13 : decode cX12_blade 13 = .ok (.iastore, 1) := by decide +kernel
theorem dX12_blade_14 : decode cX12_blade 14 = .ok (.aload_n 0, 1) := by decide +kernel
theorem dX12_blade_15 : decode cX12_blade 15 = .ok (.getfield 16, 3) := by decide +kernel
theorem dX12_blade_18 : decode cX12_blade 18 = .ok (.iconst 1, 1) := by decide +kernel
theorem dX12_blade_19 : decode cX12_blade 19 = .ok (.sipush 300, 3) := by decide +kernel
theorem dX12_blade_22 : decode cX12_blade 22 = .ok (.iastore, 1) := by decide +kernel
theorem dX12_blade_23 : decode cX12_blade 23 = .ok (.aload_n 0, 1) := by decide +kernel
theorem dX12_blade_24 : decode cX12_blade 24 = .ok (.getfield 16, 3) := by decide +kernel
theorem dX12_blade_27 : decode cX12_blade 27 = .ok (.iconst 2, 1) := by decide +kernel
theorem dX12_blade_28 : decode cX12_blade 28 = .ok (.sipush 2000, 3) := by decide +kernel
theorem dX12_blade_31 : decode cX12_blade 31 = .ok (.iastore, 1) := by decide +kernel
theorem dX12_blade_32 : decode cX12_blade 32 = .ok (.aload_n 0, 1) := by decide +kernel
theorem dX12_blade_33 : decode cX12_blade 33 = .ok (.iconst 0, 1) := by decide +kernel
theorem dX12_blade_34 : decode cX12_blade 34 = .ok (.putfield 186, 3) := by decide +kernel
theorem dX12_blade_37 : decode cX12_blade 37 = .ok (.aload_n 0, 1) := by decide +kernel
theorem dX12_blade_38 : decode cX12_blade 38 = .ok (.getfield 106, 3) := by decide +kernel
theorem dX12_blade_41 : decode cX12_blade 41 = .ok (.ifCond .eq 17, 3) := by decide +kernel
theorem dX12_blade_44 : decode cX12_blade 44 = .ok (.aload_n 0, 1) := by decide +kernel
theorem dX12_blade_45 : decode cX12_blade 45 = .ok (.invokevirtual 199, 3) := by decide +kernel
theorem dX12_blade_48 : decode cX12_blade 48 = .ok (.ifCond .ne (-11), 3) := by decide +kernel
theorem dX12_blade_51 : decode cX12_blade 51 = .ok (.iconst (-1), 1) := by decide +kernel
theorem dX12_blade_52 : decode cX12_blade 52 = .ok (.aload_n 0, 1) := by decide +kernel
theorem dX12_blade_53 : decode cX12_blade 53 = .ok (.getfield 149, 3) := by decide +kernel
theorem dX12_blade_56 : decode cX12_blade 56 = .ok (.isub, 1) := by decide +kernel
theorem dX12_blade_57 : decode cX12_blade 57 = .ok (.ireturn, 1) := by decide +kernel
theorem dX12_blade_58 : decode cX12_blade 58 = .ok (.aload_n 0, 1) := by decide +kernel
theorem dX12_blade_59 : decode cX12_blade 59 = .ok (.getfield 16, 3) := by decide +kernel
theorem dX12_blade_62 : decode cX12_blade 62 = .ok (.iconst 0, 1) := by decide +kernel
theorem dX12_blade_63 : decode cX12_blade 63 = .ok (.iaload, 1) := by decide +kernel
theorem dX12_blade_64 : decode cX12_blade 64 = .ok (.iconst 3, 1) := by decide +kernel
theorem dX12_blade_65 : decode cX12_blade 65 = .ok (.if_icmp .ge 16, 3) := by decide +kernel
theorem dX12_blade_68 : decode cX12_blade 68 = .ok (.aload_n 0, 1) := by decide +kernel
theorem dX12_blade_69 : decode cX12_blade 69 = .ok (.iconst 1, 1) := by decide +kernel
theorem dX12_blade_70 : decode cX12_blade 70 = .ok (.invokevirtual 152, 3) := by decide +kernel
theorem dX12_blade_73 : decode cX12_blade 73 = .ok (.pop, 1) := by decide +kernel
theorem dX12_blade_74 : decode cX12_blade 74 = .ok (.iconst (-1), 1) := by decide +kernel
theorem dX12_blade_75 : decode cX12_blade 75 = .ok (.aload_n 0, 1) := by decide +kernel
theorem dX12_blade_76 : decode cX12_blade 76 = .ok (.getfield 149, 3) := by decide +kernel
theorem dX12_blade_79 : decode cX12_blade 79 = .ok (.isub, 1) := by decide +kernel
theorem dX12_blade_80 : decode cX12_blade 80 = .ok (.ireturn, 1) := by decide +kernel
theorem dX12_blade_81 : decode cX12_blade 81 = .ok (.iconst 0, 1) := by decide +kernel
theorem dX12_blade_82 : decode cX12_blade 82 = .ok (.istore_n 1, 1) := by decide +kernel
theorem dX12_blade_83 : decode cX12_blade 83 = .ok (.iload_n 1, 1) := by decide +kernel
theorem dX12_blade_84 : decode cX12_blade 84 = .ok (.sipush 260, 3) := by decide +kernel
theorem dX12_blade_87 : decode cX12_blade 87 = .ok (.if_icmp .ge 21, 3) := by decide +kernel
theorem dX12_blade_90 : decode cX12_blade 90 = .ok (.aload_n 0, 1) := by decide +kernel
theorem dX12_blade_91 : decode cX12_blade 91 = .ok (.getfield 13, 3) := by decide +kernel
theorem dX12_blade_94 : decode cX12_blade 94 = .ok (.iload_n 1, 1) := by decide +kernel
theorem dX12_blade_95 : decode cX12_blade 95 = .ok (.aload_n 0, 1) := by decide +kernel
theorem dX12_blade_96 : decode cX12_blade 96 = .ok (.getfield 16, 3) := by decide +kernel
theorem dX12_blade_99 : decode cX12_blade 99 = .ok (.iload_n 1, 1) := by decide +kernel
theorem dX12_blade_100 : decode cX12_blade 100 = .ok (.iaload, 1) := by decide +kernel
theorem dX12_blade_101 : decode cX12_blade 101 = .ok (.iastore, 1) := by decide +kernel
theorem dX12_blade_102 : decode cX12_blade 102 = .ok (.iinc 1 1, 3) := by decide +kernel
theorem dX12_blade_105 : decode cX12_blade 105 = .ok (.goto (-22), 3) := by decide +kernel
theorem dX12_blade_108 : decode cX12_blade 108 = .ok (.aload_n 0, 1) := by decide +kernel
theorem dX12_blade_109 : decode cX12_blade 109 = .ok (.getfield 13, 3) := by decide +kernel
theorem dX12_blade_112 : decode cX12_blade 112 = .ok (.iconst 0, 1) := by decide +kernel
theorem dX12_blade_113 : decode cX12_blade 113 = .ok (.iaload, 1) := by decide +kernel
theorem dX12_blade_114 : decode cX12_blade 114 = .ok (.ireturn, 1) := by decide +kernel
theorem hcX12_blade : yX12_blade.cls ≠ "java/lang/invoke/MethodHandle" ∧ yX12_blade.cls ≠ "java/lang/invoke/VarHandle" ∧ (parseMethodDescriptor yX12_blade.desc).map (fun d => d.parameters.length) = some 0 := ⟨by decide +kernel, by decide +kernel, by decide +kernel⟩
def fX12_blade_L37  (Q : Int → sg_M → Prop) (k58 : sg_M → Prop) : Nat → sg_M → Prop
  | 0, _ => False
  | n_37 + 1, s_37 => (((s_37 64 7) = 0 → k58 s_37) ∧ (¬ ((s_37 64 7) = 0) → fX12_readLine s_37 (fun u15 s17 => ((u15 ≠ 0 → (fX12_blade_L37  Q k58 n_37) s17) ∧ (u15 = 0 → sg_R ((-1) - (s17 64 11)) ∧ Q ((-1) - (s17 64 11)) s17)))))
def fX12_blade_L83  (Q : Int → sg_M → Prop) : Nat → sg_M → Int → Prop
  | 0, _, _ => False
  | n_83 + 1, s_83, x1_83 => ((260 ≤ x1_83 → Q (s_83 66 0) s_83) ∧ (¬ (260 ≤ x1_83) → (0 ≤ x1_83 ∧ x1_83 < 260) ∧ (0 ≤ x1_83 ∧ x1_83 < 2040) ∧ ∀ s33 : sg_M, s33 = sg_up s_83 66 x1_83 (s_83 67 x1_83) → sg_R (x1_83 + 1) ∧ (fX12_blade_L83  Q n_83) s33 (x1_83 + 1)))
def fX12_blade (s0 : sg_M) (Q : Int → sg_M → Prop) : Prop := fX12_begin s0 500 (fun s1 => ∀ s3 : sg_M, s3 = sg_up s1 67 0 0 → ∀ s6 : sg_M, s6 = sg_up s3 67 1 300 → ∀ s9 : sg_M, s9 = sg_up s6 67 2 2000 → ∀ s11 : sg_M, s11 = sg_up s9 64 21 0 → (∃ n21 : Nat, fX12_blade_L37  Q (fun s_58e37 => ((3 ≤ (s_58e37 67 0) → (∃ n36 : Nat, fX12_blade_L83  Q n36 s_58e37 0)) ∧ (¬ (3 ≤ (s_58e37 67 0)) → fX12_bad s_58e37 1 (fun u37 s39 => sg_R ((-1) - (s39 64 11)) ∧ Q ((-1) - (s39 64 11)) s39)))) n21 s11))
set_option maxHeartbeats 4000000 in
set_option maxRecDepth 100000 in
theorem CX12_blade {l : Launch} {G : sg_G} {La : sg_L} {s0 : sg_M} (hst : sg_St La) {Q : Int → sg_M → Prop} (hf : fX12_blade s0 Q) : sg_C l G yX12_blade cX12_blade 2 (some .int) 6 0 0 La s0 [sg_r 64] (sg_HI La Q) := by
  refine sg_body (by decide +kernel) (Nat.le_of_ble_eq_true rfl) ?_
  intro p e s m args below meth c F hnm
  unfold fX12_blade at hf
  show sg_W p l e (sg_rm 6 0 0) s m args below meth c (MQ below (sg_Q (some .int) G La s.heap.size (sg_HI La Q)) args s 0 0 (sg_A La s.heap.size)) 2 G (sg_A La s.heap.size) La s0 0 0 0 [(0, sg_r 64)] []
  refine gw_aload_n F 0 rfl rfl (by decide) dX12_blade_0 ?_
  refine gw_sipush F rfl dX12_blade_1 ?_
  refine gk_HV F (gc_V F (S := []) (As := [sg_i 500]) (T := TX12) (N := 62) (CX12_begin hst (by decide) hf) (so_64 hst) (by decide) rfl kw_1040 kw_103 kw_1038 kw_1039 kw_40 hcX12_begin ⟨by decide, by decide⟩ rfl rfl (Nat.le_of_ble_eq_true rfl) ⟨by decide, by decide⟩ dX12_blade_4) (fun s1 hf => ?_)
  refine gw_aload_n F 0 rfl rfl (by decide) dX12_blade_7 ?_
  refine gw_get7 F (so_64 hst) (by decide) rfl sg_lay_RX12 (j := 15) (by decide) (o1 := 67) (by first | rfl | omega) rfl (host := "") (.inl kw_971) dX12_blade_8 (fun h2 => ?_)
  refine gw_iconst F dX12_blade_11 ?_
  refine gw_iconst F dX12_blade_12 ?_
  obtain ⟨s3, e4⟩ : ∃ z : sg_M, z = sg_up s1 67 0 0 := ⟨_, rfl⟩
  have hf := hf s3 e4
  refine gw_iast F (sa_67 hst) (by decide) (by decide) (by decide) e4 dX12_blade_13 ?_
  refine gw_aload_n F 0 rfl rfl (by decide) dX12_blade_14 ?_
  refine gw_get7 F (so_64 hst) (by decide) rfl sg_lay_RX12 (j := 15) (by decide) (o1 := 67) (by first | rfl | omega) rfl (host := "") (.inl kw_971) dX12_blade_15 (fun h5 => ?_)
  refine gw_iconst F dX12_blade_18 ?_
  refine gw_sipush F rfl dX12_blade_19 ?_
  obtain ⟨s6, e7⟩ : ∃ z : sg_M, z = sg_up s3 67 1 300 := ⟨_, rfl⟩
  have hf := hf s6 e7
  refine gw_iast F (sa_67 hst) (by decide) (by decide) (by decide) e7 dX12_blade_22 ?_
  refine gw_aload_n F 0 rfl rfl (by decide) dX12_blade_23 ?_
  refine gw_get7 F (so_64 hst) (by decide) rfl sg_lay_RX12 (j := 15) (by decide) (o1 := 67) (by first | rfl | omega) rfl (host := "") (.inl kw_971) dX12_blade_24 (fun h8 => ?_)
  refine gw_iconst F dX12_blade_27 ?_
  refine gw_sipush F rfl dX12_blade_28 ?_
  obtain ⟨s9, e10⟩ : ∃ z : sg_M, z = sg_up s6 67 2 2000 := ⟨_, rfl⟩
  have hf := hf s9 e10
  refine gw_iast F (sa_67 hst) (by decide) (by decide) (by decide) e10 dX12_blade_31 ?_
  refine gw_aload_n F 0 rfl rfl (by decide) dX12_blade_32 ?_
  refine gw_iconst F dX12_blade_33 ?_
  obtain ⟨s11, e12⟩ : ∃ z : sg_M, z = sg_up s9 64 21 0 := ⟨_, rfl⟩
  have hf := hf s11 e12
  refine gw_put0 F (so_64 hst) (by decide) rfl sg_lay_RX12 (j := 21) (by decide) (by decide) e12 tyX12_ok nmX12 rfl (tyX12_ok 21 (by decide)) rfl (host := "") (.inl kw_977) dX12_blade_34 ?_
  have L37 : ∀ (k58 : sg_M → Prop) (hk58 : ∀ (s_58e37 : sg_M), k58 s_58e37 → sg_W p l e (sg_rm 6 0 0) s m args below meth c (MQ below (sg_Q (some .int) G La s.heap.size (sg_HI La Q)) args s 0 0 (sg_A La s.heap.size)) 2 G (sg_A La s.heap.size) La s_58e37 0 0 58 [(0, sg_r 64)] []), ∀ n_37 : Nat, ∀ (s_37 : sg_M), fX12_blade_L37  Q k58 n_37 s_37 → sg_W p l e (sg_rm 6 0 0) s m args below meth c (MQ below (sg_Q (some .int) G La s.heap.size (sg_HI La Q)) args s 0 0 (sg_A La s.heap.size)) 2 G (sg_A La s.heap.size) La s_37 0 0 37 [(0, sg_r 64)] [] := by
    intro k58 hk58 n_37
    induction n_37 with
    | zero => intro s_37 hf; exact hf.elim
    | succ n_37 ih =>
      intro s_37 hf
      unfold fX12_blade_L37 at hf
      refine gw_aload_n F 0 rfl rfl (by decide) dX12_blade_37 ?_
      refine gw_get0 F (so_64 hst) (by decide) rfl sg_lay_RX12 (j := 7) (by decide) rfl (host := "") (.inl kw_963) dX12_blade_38 (fun h13 => ?_)
      refine gw_if_eq F (tgt := 58) dX12_blade_41 (by decide) h13 (fun c14 => ?_) (fun c14 => ?_)
      · have hf := hf.1 c14
        refine gw_sub [0] rfl ?_
        exact hk58 s_37 hf
      · have hf := hf.2 c14
        refine gw_aload_n F 0 rfl rfl (by decide) dX12_blade_44 ?_
        refine gk_HZ F (gc_V F (S := []) (As := []) (T := TX12) (N := 62) (CX12_readLine hst hf) (so_64 hst) (by decide) rfl kw_1063 kw_103 kw_1061 kw_1062 kw_45 hcX12_readLine ⟨by decide, by decide⟩ rfl rfl (Nat.le_of_ble_eq_true rfl) ⟨by decide, by decide⟩ dX12_blade_45) (fun u15 s17 h16 hf => ?_)
        refine gw_if_ne F (tgt := 37) dX12_blade_48 (by decide) (sg_B_R h16) (fun c18 => ?_) (fun c18 => ?_)
        · have hf := hf.1 c18
          refine gw_sub [0] rfl ?_
          exact ih s17 hf
        · have hf := hf.2 c18
          refine gw_iconst F dX12_blade_51 ?_
          refine gw_aload_n F 0 rfl rfl (by decide) dX12_blade_52 ?_
          refine gw_get0 F (so_64 hst) (by decide) rfl sg_lay_RX12 (j := 11) (by decide) rfl (host := "") (.inl kw_967) dX12_blade_53 (fun h19 => ?_)
          refine gw_isub F rfl dX12_blade_56 ?_
          obtain ⟨g20, hf⟩ := hf
          exact gr_HI F g20 hf (by decide) (by decide) dX12_blade_57
  obtain ⟨n21, hf⟩ := hf
  refine gw_sub [0] rfl ?_
  refine L37 _ (fun s_58e37 hf => ?_) n21 s11 hf
  refine gw_aload_n F 0 rfl rfl (by decide) dX12_blade_58 ?_
  refine gw_get7 F (so_64 hst) (by decide) rfl sg_lay_RX12 (j := 15) (by decide) (o1 := 67) (by first | rfl | omega) rfl (host := "") (.inl kw_971) dX12_blade_59 (fun h22 => ?_)
  refine gw_iconst F dX12_blade_62 ?_
  refine gw_iald F (sa_67 hst) (by decide) (by decide) dX12_blade_63 (fun h23 => ?_)
  refine gw_iconst F dX12_blade_64 ?_
  refine gw_icmp_ge F (tgt := 81) dX12_blade_65 (by decide) h23 (by decide) (fun c24 => ?_) (fun c24 => ?_)
  · have hf := hf.1 c24
    refine gw_iconst F dX12_blade_81 ?_
    refine gw_istore_n F rfl (by decide) rfl dX12_blade_82 ?_
    have L83 : ∀ n_83 : Nat, ∀ (s_83 : sg_M) (x1_83 : Int), sg_R x1_83 → fX12_blade_L83  Q n_83 s_83 x1_83 → sg_W p l e (sg_rm 6 0 0) s m args below meth c (MQ below (sg_Q (some .int) G La s.heap.size (sg_HI La Q)) args s 0 0 (sg_A La s.heap.size)) 2 G (sg_A La s.heap.size) La s_83 0 0 83 [(0, sg_r 64), (1, sg_i x1_83)] [] := by
      intro n_83
      induction n_83 with
      | zero => intro s_83 x1_83 r1_83 hf; exact hf.elim
      | succ n_83 ih =>
        intro s_83 x1_83 r1_83 hf
        unfold fX12_blade_L83 at hf
        refine gw_iload_n F 1 rfl rfl dX12_blade_83 ?_
        refine gw_sipush F rfl dX12_blade_84 ?_
        refine gw_icmp_ge F (tgt := 108) dX12_blade_87 (by decide) r1_83 (by decide) (fun c25 => ?_) (fun c25 => ?_)
        · have hf := hf.1 c25
          refine gw_aload_n F 0 rfl rfl (by decide) dX12_blade_108 ?_
          refine gw_get7 F (so_64 hst) (by decide) rfl sg_lay_RX12 (j := 14) (by decide) (o1 := 66) (by first | rfl | omega) rfl (host := "") (.inl kw_970) dX12_blade_109 (fun h26 => ?_)
          refine gw_iconst F dX12_blade_112 ?_
          refine gw_iald F (sa_66 hst) (by decide) (by decide) dX12_blade_113 (fun h27 => ?_)
          exact gr_HI F h27 hf (by decide) (by decide) dX12_blade_114
        · have hf := hf.2 c25
          refine gw_aload_n F 0 rfl rfl (by decide) dX12_blade_90 ?_
          refine gw_get7 F (so_64 hst) (by decide) rfl sg_lay_RX12 (j := 14) (by decide) (o1 := 66) (by first | rfl | omega) rfl (host := "") (.inl kw_970) dX12_blade_91 (fun h28 => ?_)
          refine gw_iload_n F 1 rfl rfl dX12_blade_94 ?_
          refine gw_aload_n F 0 rfl rfl (by decide) dX12_blade_95 ?_
          refine gw_get7 F (so_64 hst) (by decide) rfl sg_lay_RX12 (j := 15) (by decide) (o1 := 67) (by first | rfl | omega) rfl (host := "") (.inl kw_971) dX12_blade_96 (fun h29 => ?_)
          refine gw_iload_n F 1 rfl rfl dX12_blade_99 ?_
          obtain ⟨⟨b300, b301⟩, hf⟩ := hf
          refine gw_iald F (sa_67 hst) b300 b301 dX12_blade_100 (fun h31 => ?_)
          obtain ⟨⟨b320, b321⟩, hf⟩ := hf
          obtain ⟨s33, e34⟩ : ∃ z : sg_M, z = sg_up s_83 66 x1_83 (s_83 67 x1_83) := ⟨_, rfl⟩
          have hf := hf s33 e34
          refine gw_iast F (sa_66 hst) b320 b321 h31 e34 dX12_blade_101 ?_
          refine gw_iinc F (z := (x1_83 + 1)) 1 rfl (by omega) (by decide) rfl dX12_blade_102 ?_
          refine gw_goto F (tgt := 83) dX12_blade_105 (by decide) ?_
          obtain ⟨g35, hf⟩ := hf
          refine gw_sub [1, 0] rfl ?_
          exact ih s33 (x1_83 + 1) g35 hf
    obtain ⟨n36, hf⟩ := hf
    refine gw_sub [1, 0] rfl ?_
    refine L83   n36 s_58e37 0 (by decide) hf
  · have hf := hf.2 c24
    refine gw_aload_n F 0 rfl rfl (by decide) dX12_blade_68 ?_
    refine gw_iconst F dX12_blade_69 ?_
    refine gk_HZ F (gc_V F (S := []) (As := [sg_i 1]) (T := TX12) (N := 62) (CX12_bad hst (by decide) hf) (so_64 hst) (by decide) rfl kw_1078 kw_103 kw_1076 kw_1077 kw_47 hcX12_bad ⟨by decide, by decide⟩ rfl rfl (Nat.le_of_ble_eq_true rfl) ⟨by decide, by decide⟩ dX12_blade_70) (fun u37 s39 h38 hf => ?_)
    refine gw_pop F rfl dX12_blade_73 ?_
    refine gw_iconst F dX12_blade_74 ?_
    refine gw_aload_n F 0 rfl rfl (by decide) dX12_blade_75 ?_
    refine gw_get0 F (so_64 hst) (by decide) rfl sg_lay_RX12 (j := 11) (by decide) rfl (host := "") (.inl kw_967) dX12_blade_76 (fun h40 => ?_)
    refine gw_isub F rfl dX12_blade_79 ?_
    obtain ⟨g41, hf⟩ := hf
    exact gr_HI F g41 hf (by decide) (by decide) dX12_blade_80

theorem dX12_hand_0 : decode cX12_hand 0 = .ok (.aload_n 0, 1) := by decide +kernel
theorem dX12_hand_1 : decode cX12_hand 1 = .ok (.sipush 300, 3) := by decide +kernel
theorem dX12_hand_4 : decode cX12_hand 4 = .ok (.invokevirtual 196, 3) := by decide +kernel
theorem dX12_hand_7 : decode cX12_hand 7 = .ok (.aload_n 0, 1) := by decide +kernel
theorem dX12_hand_8 : decode cX12_hand 8 = .ok (.iconst 0, 1) := by decide +kernel
theorem dX12_hand_9 : decode cX12_hand 9 = .ok (.putfield 295, 3) := by decide +kernel
theorem dX12_hand_12 : decode cX12_hand 12 = .ok (.aload_n 0, 1) := by decide +kernel
theorem dX12_hand_13 : decode cX12_hand 13 = .ok (.iconst 0, 1) := by decide +kernel
theorem dX12_hand_14 : decode cX12_hand 14 = .ok (.putfield 301, 3) := by decide +kernel
theorem dX12_hand_17 : decode cX12_hand 17 = .ok (.aload_n 0, 1) := by decide +kernel
theorem dX12_hand_18 : decode cX12_hand 18 = .ok (.iconst 0, 1) := by decide +kernel
theorem dX12_hand_19 : decode cX12_hand 19 = .ok (.putfield 304, 3) := by decide +kernel
theorem dX12_hand_22 : decode cX12_hand 22 = .ok (.aload_n 0, 1) := by decide +kernel
theorem dX12_hand_23 : decode cX12_hand 23 = .ok (.getfield 106, 3) := by decide +kernel
theorem dX12_hand_26 : decode cX12_hand 26 = .ok (.ifCond .eq 17, 3) := by decide +kernel
theorem dX12_hand_29 : decode cX12_hand 29 = .ok (.aload_n 0, 1) := by decide +kernel
theorem dX12_hand_30 : decode cX12_hand 30 = .ok (.invokevirtual 314, 3) := by decide +kernel
theorem dX12_hand_33 : decode cX12_hand 33 = .ok (.ifCond .ne (-11), 3) := by decide +kernel
theorem dX12_hand_36 : decode cX12_hand 36 = .ok (.iconst (-1), 1) := by decide +kernel
theorem dX12_hand_37 : decode cX12_hand 37 = .ok (.aload_n 0, 1) := by decide +kernel
theorem dX12_hand_38 : decode cX12_hand 38 = .ok (.getfield 149, 3) := by decide +kernel
theorem dX12_hand_41 : decode cX12_hand 41 = .ok (.isub, 1) := by decide +kernel
theorem dX12_hand_42 : decode cX12_hand 42 = .ok (.ireturn, 1) := by decide +kernel
theorem dX12_hand_43 : decode cX12_hand 43 = .ok (.aload_n 0, 1) := by decide +kernel
theorem dX12_hand_44 : decode cX12_hand 44 = .ok (.getfield 13, 3) := by decide +kernel
theorem dX12_hand_47 : decode cX12_hand 47 = .ok (.sipush 1300, 3) := by decide +kernel
theorem dX12_hand_50 : decode cX12_hand 50 = .ok (.aload_n 0, 1) := by decide +kernel
theorem dX12_hand_51 : decode cX12_hand 51 = .ok (.getfield 295, 3) := by decide +kernel
theorem dX12_hand_54 : decode cX12_hand 54 = .ok (.iastore, 1) := by decide +kernel
theorem dX12_hand_55 : decode cX12_hand 55 = .ok (.iconst 0, 1) := by decide +kernel
theorem dX12_hand_56 : decode cX12_hand 56 = .ok (.istore_n 1, 1) := by decide +kernel
theorem dX12_hand_57 : decode cX12_hand 57 = .ok (.iload_n 1, 1) := by decide +kernel
theorem dX12_hand_58 : decode cX12_hand 58 = .ok (.aload_n 0, 1) := by decide +kernel
theorem dX12_hand_59 : decode cX12_hand 59 = .ok (.getfield 295, 3) := by decide +kernel
theorem dX12_hand_62 : decode cX12_hand 62 = .ok (.if_icmp .ge 41, 3) := by decide +kernel
theorem dX12_hand_65 : decode cX12_hand 65 = .ok (.aload_n 0, 1) := by decide +kernel
theorem dX12_hand_66 : decode cX12_hand 66 = .ok (.getfield 13, 3) := by decide +kernel
theorem dX12_hand_69 : decode cX12_hand 69 = .ok (.sipush 1301, 3) := by decide +kernel
theorem dX12_hand_72 : decode cX12_hand 72 = .ok (.iload_n 1, 1) := by decide +kernel
theorem dX12_hand_73 : decode cX12_hand 73 = .ok (.iadd, 1) := by decide +kernel
theorem dX12_hand_74 : decode cX12_hand 74 = .ok (.aload_n 0, 1) := by decide +kernel
theorem dX12_hand_75 : decode cX12_hand 75 = .ok (.getfield 22, 3) := by decide +kernel
theorem dX12_hand_78 : decode cX12_hand 78 = .ok (.iload_n 1, 1) := by decide +kernel
theorem dX12_hand_79 : decode cX12_hand 79 = .ok (.iaload, 1) := by decide +kernel
theorem dX12_hand_80 : decode cX12_hand 80 = .ok (.iastore, 1) := by decide +kernel
theorem dX12_hand_81 : decode cX12_hand 81 = .ok (.aload_n 0, 1) := by decide +kernel
theorem dX12_hand_82 : decode cX12_hand 82 = .ok (.getfield 13, 3) := by decide +kernel
theorem dX12_hand_85 : decode cX12_hand 85 = .ok (.sipush 1501, 3) := by decide +kernel
theorem dX12_hand_88 : decode cX12_hand 88 = .ok (.iload_n 1, 1) := by decide +kernel
theorem dX12_hand_89 : decode cX12_hand 89 = .ok (.iadd, 1) := by decide +kernel
theorem dX12_hand_90 : decode cX12_hand 90 = .ok (.aload_n 0, 1) := by decide +kernel
theorem dX12_hand_91 : decode cX12_hand 91 = .ok (.getfield 25, 3) := by decide +kernel
theorem dX12_hand_94 : decode cX12_hand 94 = .ok (.iload_n 1, 1) := by decide +kernel
theorem dX12_hand_95 : decode cX12_hand 95 = .ok (.iaload, 1) := by decide +kernel
theorem dX12_hand_96 : decode cX12_hand 96 = .ok (.iastore, 1) := by decide +kernel
theorem dX12_hand_97 : decode cX12_hand 97 = .ok (.iinc 1 1, 3) := by decide +kernel
theorem dX12_hand_100 : decode cX12_hand 100 = .ok (.goto (-43), 3) := by decide +kernel
theorem dX12_hand_103 : decode cX12_hand 103 = .ok (.aload_n 0, 1) := by decide +kernel
theorem dX12_hand_104 : decode cX12_hand 104 = .ok (.getfield 295, 3) := by decide +kernel
theorem dX12_hand_107 : decode cX12_hand 107 = .ok (.ireturn, 1) := by decide +kernel
theorem hcX12_hand : yX12_hand.cls ≠ "java/lang/invoke/MethodHandle" ∧ yX12_hand.cls ≠ "java/lang/invoke/VarHandle" ∧ (parseMethodDescriptor yX12_hand.desc).map (fun d => d.parameters.length) = some 0 := ⟨by decide +kernel, by decide +kernel, by decide +kernel⟩
def fX12_hand_L22  (Q : Int → sg_M → Prop) (k43 : sg_M → Prop) : Nat → sg_M → Prop
  | 0, _ => False
  | n_22 + 1, s_22 => (((s_22 64 7) = 0 → k43 s_22) ∧ (¬ ((s_22 64 7) = 0) → fX12_readStep s_22 (fun u10 s12 => ((u10 ≠ 0 → (fX12_hand_L22  Q k43 n_22) s12) ∧ (u10 = 0 → sg_R ((-1) - (s12 64 11)) ∧ Q ((-1) - (s12 64 11)) s12)))))
def fX12_hand_L57  (Q : Int → sg_M → Prop) : Nat → sg_M → Int → Prop
  | 0, _, _ => False
  | n_57 + 1, s_57, x1_57 => (((s_57 64 43) ≤ x1_57 → Q (s_57 64 43) s_57) ∧ (¬ ((s_57 64 43) ≤ x1_57) → (0 ≤ x1_57 ∧ x1_57 < 200) ∧ (0 ≤ (1301 + x1_57) ∧ (1301 + x1_57) < 2040) ∧ ∀ s29 : sg_M, s29 = sg_up s_57 66 (1301 + x1_57) (s_57 69 x1_57) → (0 ≤ x1_57 ∧ x1_57 < 200) ∧ (0 ≤ (1501 + x1_57) ∧ (1501 + x1_57) < 2040) ∧ ∀ s36 : sg_M, s36 = sg_up s29 66 (1501 + x1_57) (s29 70 x1_57) → sg_R (x1_57 + 1) ∧ (fX12_hand_L57  Q n_57) s36 (x1_57 + 1)))
def fX12_hand (s0 : sg_M) (Q : Int → sg_M → Prop) : Prop := fX12_begin s0 300 (fun s1 => ∀ s2 : sg_M, s2 = sg_up s1 64 43 0 → ∀ s4 : sg_M, s4 = sg_up s2 64 44 0 → ∀ s6 : sg_M, s6 = sg_up s4 64 45 0 → (∃ n16 : Nat, fX12_hand_L22  Q (fun s_43e22 => ∀ s19 : sg_M, s19 = sg_up s_43e22 66 1300 (s_43e22 64 43) → (∃ n39 : Nat, fX12_hand_L57  Q n39 s19 0)) n16 s6))
set_option maxHeartbeats 4000000 in
set_option maxRecDepth 100000 in
theorem CX12_hand {l : Launch} {G : sg_G} {La : sg_L} {s0 : sg_M} (hst : sg_St La) {Q : Int → sg_M → Prop} (hf : fX12_hand s0 Q) : sg_C l G yX12_hand cX12_hand 2 (some .int) 7 0 0 La s0 [sg_r 64] (sg_HI La Q) := by
  refine sg_body (by decide +kernel) (Nat.le_of_ble_eq_true rfl) ?_
  intro p e s m args below meth c F hnm
  unfold fX12_hand at hf
  show sg_W p l e (sg_rm 7 0 0) s m args below meth c (MQ below (sg_Q (some .int) G La s.heap.size (sg_HI La Q)) args s 0 0 (sg_A La s.heap.size)) 2 G (sg_A La s.heap.size) La s0 0 0 0 [(0, sg_r 64)] []
  refine gw_aload_n F 0 rfl rfl (by decide) dX12_hand_0 ?_
  refine gw_sipush F rfl dX12_hand_1 ?_
  refine gk_HV F (gc_V F (S := []) (As := [sg_i 300]) (T := TX12) (N := 62) (CX12_begin hst (by decide) hf) (so_64 hst) (by decide) rfl kw_1040 kw_103 kw_1038 kw_1039 kw_40 hcX12_begin ⟨by decide, by decide⟩ rfl rfl (Nat.le_of_ble_eq_true rfl) ⟨by decide, by decide⟩ dX12_hand_4) (fun s1 hf => ?_)
  refine gw_aload_n F 0 rfl rfl (by decide) dX12_hand_7 ?_
  refine gw_iconst F dX12_hand_8 ?_
  obtain ⟨s2, e3⟩ : ∃ z : sg_M, z = sg_up s1 64 43 0 := ⟨_, rfl⟩
  have hf := hf s2 e3
  refine gw_put0 F (so_64 hst) (by decide) rfl sg_lay_RX12 (j := 43) (by decide) (by decide) e3 tyX12_ok nmX12 rfl (tyX12_ok 43 (by decide)) rfl (host := "") (.inl kw_999) dX12_hand_9 ?_
  refine gw_aload_n F 0 rfl rfl (by decide) dX12_hand_12 ?_
  refine gw_iconst F dX12_hand_13 ?_
  obtain ⟨s4, e5⟩ : ∃ z : sg_M, z = sg_up s2 64 44 0 := ⟨_, rfl⟩
  have hf := hf s4 e5
  refine gw_put0 F (so_64 hst) (by decide) rfl sg_lay_RX12 (j := 44) (by decide) (by decide) e5 tyX12_ok nmX12 rfl (tyX12_ok 44 (by decide)) rfl (host := "") (.inl kw_1000) dX12_hand_14 ?_
  refine gw_aload_n F 0 rfl rfl (by decide) dX12_hand_17 ?_
  refine gw_iconst F dX12_hand_18 ?_
  obtain ⟨s6, e7⟩ : ∃ z : sg_M, z = sg_up s4 64 45 0 := ⟨_, rfl⟩
  have hf := hf s6 e7
  refine gw_put0 F (so_64 hst) (by decide) rfl sg_lay_RX12 (j := 45) (by decide) (by decide) e7 tyX12_ok nmX12 rfl (tyX12_ok 45 (by decide)) rfl (host := "") (.inl kw_1001) dX12_hand_19 ?_
  have L22 : ∀ (k43 : sg_M → Prop) (hk43 : ∀ (s_43e22 : sg_M), k43 s_43e22 → sg_W p l e (sg_rm 7 0 0) s m args below meth c (MQ below (sg_Q (some .int) G La s.heap.size (sg_HI La Q)) args s 0 0 (sg_A La s.heap.size)) 2 G (sg_A La s.heap.size) La s_43e22 0 0 43 [(0, sg_r 64)] []), ∀ n_22 : Nat, ∀ (s_22 : sg_M), fX12_hand_L22  Q k43 n_22 s_22 → sg_W p l e (sg_rm 7 0 0) s m args below meth c (MQ below (sg_Q (some .int) G La s.heap.size (sg_HI La Q)) args s 0 0 (sg_A La s.heap.size)) 2 G (sg_A La s.heap.size) La s_22 0 0 22 [(0, sg_r 64)] [] := by
    intro k43 hk43 n_22
    induction n_22 with
    | zero => intro s_22 hf; exact hf.elim
    | succ n_22 ih =>
      intro s_22 hf
      unfold fX12_hand_L22 at hf
      refine gw_aload_n F 0 rfl rfl (by decide) dX12_hand_22 ?_
      refine gw_get0 F (so_64 hst) (by decide) rfl sg_lay_RX12 (j := 7) (by decide) rfl (host := "") (.inl kw_963) dX12_hand_23 (fun h8 => ?_)
      refine gw_if_eq F (tgt := 43) dX12_hand_26 (by decide) h8 (fun c9 => ?_) (fun c9 => ?_)
      · have hf := hf.1 c9
        refine gw_sub [0] rfl ?_
        exact hk43 s_22 hf
      · have hf := hf.2 c9
        refine gw_aload_n F 0 rfl rfl (by decide) dX12_hand_29 ?_
        refine gk_HZ F (gc_V F (S := []) (As := []) (T := TX12) (N := 62) (CX12_readStep hst hf) (so_64 hst) (by decide) rfl kw_1180 kw_103 kw_1178 kw_1179 kw_63 hcX12_readStep ⟨by decide, by decide⟩ rfl rfl (Nat.le_of_ble_eq_true rfl) ⟨by decide, by decide⟩ dX12_hand_30) (fun u10 s12 h11 hf => ?_)
        refine gw_if_ne F (tgt := 22) dX12_hand_33 (by decide) (sg_B_R h11) (fun c13 => ?_) (fun c13 => ?_)
        · have hf := hf.1 c13
          refine gw_sub [0] rfl ?_
          exact ih s12 hf
        · have hf := hf.2 c13
          refine gw_iconst F dX12_hand_36 ?_
          refine gw_aload_n F 0 rfl rfl (by decide) dX12_hand_37 ?_
          refine gw_get0 F (so_64 hst) (by decide) rfl sg_lay_RX12 (j := 11) (by decide) rfl (host := "") (.inl kw_967) dX12_hand_38 (fun h14 => ?_)
          refine gw_isub F rfl dX12_hand_41 ?_
          obtain ⟨g15, hf⟩ := hf
          exact gr_HI F g15 hf (by decide) (by decide) dX12_hand_42
  obtain ⟨n16, hf⟩ := hf
  refine gw_sub [0] rfl ?_
  refine L22 _ (fun s_43e22 hf => ?_) n16 s6 hf
  refine gw_aload_n F 0 rfl rfl (by decide) dX12_hand_43 ?_
  refine gw_get7 F (so_64 hst) (by decide) rfl sg_lay_RX12 (j := 14) (by decide) (o1 := 66) (by first | rfl | omega) rfl (host := "") (.inl kw_970) dX12_hand_44 (fun h17 => ?_)
  refine gw_sipush F rfl dX12_hand_47 ?_
  refine gw_aload_n F 0 rfl rfl (by decide) dX12_hand_50 ?_
  refine gw_get0 F (so_64 hst) (by decide) rfl sg_lay_RX12 (j := 43) (by decide) rfl (host := "") (.inl kw_999) dX12_hand_51 (fun h18 => ?_)
  obtain ⟨s19, e20⟩ : ∃ z : sg_M, z = sg_up s_43e22 66 1300 (s_43e22 64 43) := ⟨_, rfl⟩
  have hf := hf s19 e20
  refine gw_iast F (sa_66 hst) (by decide) (by decide) h18 e20 dX12_hand_54 ?_
  refine gw_iconst F dX12_hand_55 ?_
  refine gw_istore_n F rfl (by decide) rfl dX12_hand_56 ?_
  have L57 : ∀ n_57 : Nat, ∀ (s_57 : sg_M) (x1_57 : Int), sg_R x1_57 → fX12_hand_L57  Q n_57 s_57 x1_57 → sg_W p l e (sg_rm 7 0 0) s m args below meth c (MQ below (sg_Q (some .int) G La s.heap.size (sg_HI La Q)) args s 0 0 (sg_A La s.heap.size)) 2 G (sg_A La s.heap.size) La s_57 0 0 57 [(0, sg_r 64), (1, sg_i x1_57)] [] := by
    intro n_57
    induction n_57 with
    | zero => intro s_57 x1_57 r1_57 hf; exact hf.elim
    | succ n_57 ih =>
      intro s_57 x1_57 r1_57 hf
      unfold fX12_hand_L57 at hf
      refine gw_iload_n F 1 rfl rfl dX12_hand_57 ?_
      refine gw_aload_n F 0 rfl rfl (by decide) dX12_hand_58 ?_
      refine gw_get0 F (so_64 hst) (by decide) rfl sg_lay_RX12 (j := 43) (by decide) rfl (host := "") (.inl kw_999) dX12_hand_59 (fun h21 => ?_)
      refine gw_icmp_ge F (tgt := 103) dX12_hand_62 (by decide) r1_57 h21 (fun c22 => ?_) (fun c22 => ?_)
      · have hf := hf.1 c22
        refine gw_aload_n F 0 rfl rfl (by decide) dX12_hand_103 ?_
        refine gw_get0 F (so_64 hst) (by decide) rfl sg_lay_RX12 (j := 43) (by decide) rfl (host := "") (.inl kw_999) dX12_hand_104 (fun h23 => ?_)
        exact gr_HI F h23 hf (by decide) (by decide) dX12_hand_107
      · have hf := hf.2 c22
        refine gw_aload_n F 0 rfl rfl (by decide) dX12_hand_65 ?_
        refine gw_get7 F (so_64 hst) (by decide) rfl sg_lay_RX12 (j := 14) (by decide) (o1 := 66) (by first | rfl | omega) rfl (host := "") (.inl kw_970) dX12_hand_66 (fun h24 => ?_)
        refine gw_sipush F rfl dX12_hand_69 ?_
        refine gw_iload_n F 1 rfl rfl dX12_hand_72 ?_
        refine gw_iadd F rfl dX12_hand_73 ?_
        refine gw_aload_n F 0 rfl rfl (by decide) dX12_hand_74 ?_
        refine gw_get7 F (so_64 hst) (by decide) rfl sg_lay_RX12 (j := 17) (by decide) (o1 := 69) (by first | rfl | omega) rfl (host := "") (.inl kw_973) dX12_hand_75 (fun h25 => ?_)
        refine gw_iload_n F 1 rfl rfl dX12_hand_78 ?_
        obtain ⟨⟨b260, b261⟩, hf⟩ := hf
        refine gw_iald F (sa_69 hst) b260 b261 dX12_hand_79 (fun h27 => ?_)
        obtain ⟨⟨b280, b281⟩, hf⟩ := hf
        obtain ⟨s29, e30⟩ : ∃ z : sg_M, z = sg_up s_57 66 (1301 + x1_57) (s_57 69 x1_57) := ⟨_, rfl⟩
        have hf := hf s29 e30
        refine gw_iast F (sa_66 hst) b280 b281 h27 e30 dX12_hand_80 ?_
        refine gw_aload_n F 0 rfl rfl (by decide) dX12_hand_81 ?_
        refine gw_get7 F (so_64 hst) (by decide) rfl sg_lay_RX12 (j := 14) (by decide) (o1 := 66) (by first | rfl | omega) rfl (host := "") (.inl kw_970) dX12_hand_82 (fun h31 => ?_)
        refine gw_sipush F rfl dX12_hand_85 ?_
        refine gw_iload_n F 1 rfl rfl dX12_hand_88 ?_
        refine gw_iadd F rfl dX12_hand_89 ?_
        refine gw_aload_n F 0 rfl rfl (by decide) dX12_hand_90 ?_
        refine gw_get7 F (so_64 hst) (by decide) rfl sg_lay_RX12 (j := 18) (by decide) (o1 := 70) (by first | rfl | omega) rfl (host := "") (.inl kw_974) dX12_hand_91 (fun h32 => ?_)
        refine gw_iload_n F 1 rfl rfl dX12_hand_94 ?_
        obtain ⟨⟨b330, b331⟩, hf⟩ := hf
        refine gw_iald F (sa_70 hst) b330 b331 dX12_hand_95 (fun h34 => ?_)
        obtain ⟨⟨b350, b351⟩, hf⟩ := hf
        obtain ⟨s36, e37⟩ : ∃ z : sg_M, z = sg_up s29 66 (1501 + x1_57) (s29 70 x1_57) := ⟨_, rfl⟩
        have hf := hf s36 e37
        refine gw_iast F (sa_66 hst) b350 b351 h34 e37 dX12_hand_96 ?_
        refine gw_iinc F (z := (x1_57 + 1)) 1 rfl (by omega) (by decide) rfl dX12_hand_97 ?_
        refine gw_goto F (tgt := 57) dX12_hand_100 (by decide) ?_
        obtain ⟨g38, hf⟩ := hf
        refine gw_sub [1, 0] rfl ?_
        exact ih s36 (x1_57 + 1) g38 hf
  obtain ⟨n39, hf⟩ := hf
  refine gw_sub [1, 0] rfl ?_
  refine L57   n39 s19 0 (by decide) hf

theorem dX12_count_0 : decode cX12_count 0 = .ok (.aload_n 0, 1) := by decide +kernel
theorem dX12_count_1 : decode cX12_count 1 = .ok (.iconst 0, 1) := by decide +kernel
theorem dX12_count_2 : decode cX12_count 2 = .ok (.putfield 84, 3) := by decide +kernel
theorem dX12_count_5 : decode cX12_count 5 = .ok (.aload_n 0, 1) := by decide +kernel
theorem dX12_count_6 : decode cX12_count 6 = .ok (.invokevirtual 175, 3) := by decide +kernel
theorem dX12_count_9 : decode cX12_count 9 = .ok (.iload_n 1, 1) := by decide +kernel
theorem dX12_count_10 : decode cX12_count 10 = .ok (.tableswitch 76 0 5 #[38, 43, 50, 57, 66, 71], 38) := by decide +kernel
theorem dX12_count_48 : decode cX12_count 48 = .ok (.aload_n 0, 1) := by decide +kernel
theorem dX12_count_49 : decode cX12_count 49 = .ok (.invokevirtual 202, 3) := by decide +kernel
theorem dX12_count_52 : decode cX12_count 52 = .ok (.ireturn, 1) := by decide +kernel
theorem dX12_count_53 : decode cX12_count 53 = .ok (.aload_n 0, 1) := by decide +kernel
theorem dX12_count_54 : decode cX12_count 54 = .ok (.getfield 13, 3) := by decide +kernel
theorem dX12_count_57 : decode cX12_count 57 = .ok (.iconst 1, 1) := by decide +kernel
theorem dX12_count_58 : decode cX12_count 58 = .ok (.iaload, 1) := by decide +kernel
theorem dX12_count_59 : decode cX12_count 59 = .ok (.ireturn, 1) := by decide +kernel
theorem dX12_count_60 : decode cX12_count 60 = .ok (.aload_n 0, 1) := by decide +kernel
theorem dX12_count_61 : decode cX12_count 61 = .ok (.getfield 13, 3) := by decide +kernel
theorem dX12_count_64 : decode cX12_count 64 = .ok (.iconst 2, 1) := by decide +kernel
theorem dX12_count_65 : decode cX12_count 65 = .ok (.iaload, 1) := by decide +kernel
theorem dX12_count_66 : decode cX12_count 66 = .ok (.ireturn, 1) := by decide +kernel
theorem dX12_count_67 : decode cX12_count 67 = .ok (.aload_n 0, 1) := by decide +kernel
theorem dX12_count_68 : decode cX12_count 68 = .ok (.getfield 13, 3) := by decide +kernel
theorem dX12_count_71 : decode cX12_count 71 = .ok (.sipush 1300, 3) := by decide +kernel
theorem dX12_count_74 : decode cX12_count 74 = .ok (.iaload, 1) := by decide +kernel
theorem dX12_count_75 : decode cX12_count 75 = .ok (.ireturn, 1) := by decide +kernel
theorem dX12_count_76 : decode cX12_count 76 = .ok (.aload_n 0, 1) := by decide +kernel
theorem dX12_count_77 : decode cX12_count 77 = .ok (.invokevirtual 320, 3) := by decide +kernel
theorem dX12_count_80 : decode cX12_count 80 = .ok (.ireturn, 1) := by decide +kernel
theorem dX12_count_81 : decode cX12_count 81 = .ok (.aload_n 0, 1) := by decide +kernel
theorem dX12_count_82 : decode cX12_count 82 = .ok (.getfield 87, 3) := by decide +kernel
theorem dX12_count_85 : decode cX12_count 85 = .ok (.ireturn, 1) := by decide +kernel
theorem dX12_count_86 : decode cX12_count 86 = .ok (.iconst (-1), 1) := by decide +kernel
theorem dX12_count_87 : decode cX12_count 87 = .ok (.ireturn, 1) := by decide +kernel
theorem hcX12_count : yX12_count.cls ≠ "java/lang/invoke/MethodHandle" ∧ yX12_count.cls ≠ "java/lang/invoke/VarHandle" ∧ (parseMethodDescriptor yX12_count.desc).map (fun d => d.parameters.length) = some 1 := ⟨by decide +kernel, by decide +kernel, by decide +kernel⟩
def fX12_count (s0 : sg_M) (x1 : Int) (Q : Int → sg_M → Prop) : Prop := ∀ s1 : sg_M, s1 = sg_up s0 64 0 0 → fX12_lay s1 (fun s3 => ((x1 < 0 ∨ 5 < x1 → Q (-1) s3) ∧ (x1 = 0 → fX12_pieces s3 (fun u5 => Q u5 s3)) ∧ (x1 = 1 → Q (s3 66 1) s3) ∧ (x1 = 2 → Q (s3 66 2) s3) ∧ (x1 = 3 → Q (s3 66 1300) s3) ∧ (x1 = 4 → fX12_bends s3 (fun u13 => Q u13 s3)) ∧ (x1 = 5 → Q (s3 64 2) s3)))
set_option maxHeartbeats 4000000 in
set_option maxRecDepth 100000 in
theorem CX12_count {l : Launch} {G : sg_G} {La : sg_L} {s0 : sg_M} (hst : sg_St La) {x1 : Int} (r1 : sg_R x1) {Q : Int → sg_M → Prop} (hf : fX12_count s0 x1 Q) : sg_C l G yX12_count cX12_count 2 (some .int) 2 0 0 La s0 [sg_r 64, sg_i x1] (sg_HI La Q) := by
  refine sg_body (by decide +kernel) (Nat.le_of_ble_eq_true rfl) ?_
  intro p e s m args below meth c F hnm
  unfold fX12_count at hf
  show sg_W p l e (sg_rm 2 0 0) s m args below meth c (MQ below (sg_Q (some .int) G La s.heap.size (sg_HI La Q)) args s 0 0 (sg_A La s.heap.size)) 2 G (sg_A La s.heap.size) La s0 0 0 0 [(0, sg_r 64), (1, sg_i x1)] []
  refine gw_aload_n F 0 rfl rfl (by decide) dX12_count_0 ?_
  refine gw_iconst F dX12_count_1 ?_
  obtain ⟨s1, e2⟩ : ∃ z : sg_M, z = sg_up s0 64 0 0 := ⟨_, rfl⟩
  have hf := hf s1 e2
  refine gw_put0 F (so_64 hst) (by decide) rfl sg_lay_RX12 (j := 0) (by decide) (by decide) e2 tyX12_ok nmX12 rfl (tyX12_ok 0 (by decide)) rfl (host := "") (.inl kw_956) dX12_count_2 ?_
  refine gw_aload_n F 0 rfl rfl (by decide) dX12_count_5 ?_
  refine gk_HV F (gc_V F (S := []) (As := []) (T := TX12) (N := 62) (CX12_lay hst hf) (so_64 hst) (by decide) rfl kw_1043 kw_103 kw_1041 kw_1042 kw_41 hcX12_lay ⟨by decide, by decide⟩ rfl rfl (Nat.le_of_ble_eq_true rfl) ⟨by decide, by decide⟩ dX12_count_6) (fun s3 hf => ?_)
  refine gw_iload_n F 1 rfl rfl dX12_count_9 ?_
  refine gw_switch F dX12_count_10 r1 (td := 86) (by decide) (fun c4 => ?_) (fun i hi1 hi2 => ?_)
  · have hf := hf.1 c4
    refine gw_iconst F dX12_count_86 ?_
    exact gr_HI F (by decide) hf (by decide) (by decide) dX12_count_87
  · rcases (show i = 0 ∨ i = 1 ∨ i = 2 ∨ i = 3 ∨ i = 4 ∨ i = 5 by omega) with rfl | rfl | rfl | rfl | rfl | rfl
    · have hf := hf.2.1 (by omega)
      refine ⟨38, 48, rfl, by decide, ?_⟩
      refine gw_aload_n F 0 rfl rfl (by decide) dX12_count_48 ?_
      refine gk_PI F (gc_V F (S := []) (As := []) (T := TX12) (N := 62) (CX12_pieces hst hf) (so_64 hst) (by decide) rfl kw_1104 kw_103 kw_1102 kw_1103 kw_52 hcX12_pieces ⟨by decide, by decide⟩ rfl rfl (Nat.le_of_ble_eq_true rfl) ⟨by decide, by decide⟩ dX12_count_49) (fun u5 h6 hf => ?_)
      exact gr_HI F h6 hf (by decide) (by decide) dX12_count_52
    · have hf := hf.2.2.1 (by omega)
      refine ⟨43, 53, rfl, by decide, ?_⟩
      refine gw_aload_n F 0 rfl rfl (by decide) dX12_count_53 ?_
      refine gw_get7 F (so_64 hst) (by decide) rfl sg_lay_RX12 (j := 14) (by decide) (o1 := 66) (by first | rfl | omega) rfl (host := "") (.inl kw_970) dX12_count_54 (fun h7 => ?_)
      refine gw_iconst F dX12_count_57 ?_
      refine gw_iald F (sa_66 hst) (by decide) (by decide) dX12_count_58 (fun h8 => ?_)
      exact gr_HI F h8 hf (by decide) (by decide) dX12_count_59
    · have hf := hf.2.2.2.1 (by omega)
      refine ⟨50, 60, rfl, by decide, ?_⟩
      refine gw_aload_n F 0 rfl rfl (by decide) dX12_count_60 ?_
      refine gw_get7 F (so_64 hst) (by decide) rfl sg_lay_RX12 (j := 14) (by decide) (o1 := 66) (by first | rfl | omega) rfl (host := "") (.inl kw_970) dX12_count_61 (fun h9 => ?_)
      refine gw_iconst F dX12_count_64 ?_
      refine gw_iald F (sa_66 hst) (by decide) (by decide) dX12_count_65 (fun h10 => ?_)
      exact gr_HI F h10 hf (by decide) (by decide) dX12_count_66
    · have hf := hf.2.2.2.2.1 (by omega)
      refine ⟨57, 67, rfl, by decide, ?_⟩
      refine gw_aload_n F 0 rfl rfl (by decide) dX12_count_67 ?_
      refine gw_get7 F (so_64 hst) (by decide) rfl sg_lay_RX12 (j := 14) (by decide) (o1 := 66) (by first | rfl | omega) rfl (host := "") (.inl kw_970) dX12_count_68 (fun h11 => ?_)
      refine gw_sipush F rfl dX12_count_71 ?_
      refine gw_iald F (sa_66 hst) (by decide) (by decide) dX12_count_74 (fun h12 => ?_)
      exact gr_HI F h12 hf (by decide) (by decide) dX12_count_75
    · have hf := hf.2.2.2.2.2.1 (by omega)
      refine ⟨66, 76, rfl, by decide, ?_⟩
      refine gw_aload_n F 0 rfl rfl (by decide) dX12_count_76 ?_
      refine gk_PI F (gc_V F (S := []) (As := []) (T := TX12) (N := 62) (CX12_bends hst hf) (so_64 hst) (by decide) rfl kw_1212 kw_103 kw_1210 kw_1211 kw_70 hcX12_bends ⟨by decide, by decide⟩ rfl rfl (Nat.le_of_ble_eq_true rfl) ⟨by decide, by decide⟩ dX12_count_77) (fun u13 h14 hf => ?_)
      exact gr_HI F h14 hf (by decide) (by decide) dX12_count_80
    · have hf := hf.2.2.2.2.2.2 (by omega)
      refine ⟨71, 81, rfl, by decide, ?_⟩
      refine gw_aload_n F 0 rfl rfl (by decide) dX12_count_81 ?_
      refine gw_get0 F (so_64 hst) (by decide) rfl sg_lay_RX12 (j := 2) (by decide) rfl (host := "") (.inl kw_958) dX12_count_82 (fun h15 => ?_)
      exact gr_HI F h15 hf (by decide) (by decide) dX12_count_85

theorem dX12_song_0 : decode cX12_song 0 = .ok (.aload_n 0, 1) := by decide +kernel
theorem dX12_song_1 : decode cX12_song 1 = .ok (.iconst 0, 1) := by decide +kernel
theorem dX12_song_2 : decode cX12_song 2 = .ok (.putfield 84, 3) := by decide +kernel
theorem dX12_song_5 : decode cX12_song 5 = .ok (.aload_n 0, 1) := by decide +kernel
theorem dX12_song_6 : decode cX12_song 6 = .ok (.invokevirtual 175, 3) := by decide +kernel
theorem dX12_song_9 : decode cX12_song 9 = .ok (.aload_n 0, 1) := by decide +kernel
theorem dX12_song_10 : decode cX12_song 10 = .ok (.invokevirtual 178, 3) := by decide +kernel
theorem dX12_song_13 : decode cX12_song 13 = .ok (.istore_n 2, 1) := by decide +kernel
theorem dX12_song_14 : decode cX12_song 14 = .ok (.iload_n 2, 1) := by decide +kernel
theorem dX12_song_15 : decode cX12_song 15 = .ok (.iconst 2, 1) := by decide +kernel
theorem dX12_song_16 : decode cX12_song 16 = .ok (.irem, 1) := by decide +kernel
theorem dX12_song_17 : decode cX12_song 17 = .ok (.ifCond .ne 26, 3) := by decide +kernel
theorem dX12_song_20 : decode cX12_song 20 = .ok (.iload_n 2, 1) := by decide +kernel
theorem dX12_song_21 : decode cX12_song 21 = .ok (.iconst 2, 1) := by decide +kernel
theorem dX12_song_22 : decode cX12_song 22 = .ok (.idiv, 1) := by decide +kernel
theorem dX12_song_23 : decode cX12_song 23 = .ok (.iconst 1, 1) := by decide +kernel
theorem dX12_song_24 : decode cX12_song 24 = .ok (.bipush 60, 2) := by decide +kernel
theorem dX12_song_26 : decode cX12_song 26 = .ok (.invokestatic 155, 3) := by decide +kernel
theorem dX12_song_29 : decode cX12_song 29 = .ok (.ifCond .eq 14, 3) := by decide +kernel
theorem dX12_song_32 : decode cX12_song 32 = .ok (.iload_n 1, 1) := by decide +kernel
theorem dX12_song_33 : decode cX12_song 33 = .ok (.iconst 0, 1) := by decide +kernel
theorem dX12_song_34 : decode cX12_song 34 = .ok (.sipush 200, 3) := by decide +kernel
theorem dX12_song_37 : decode cX12_song 37 = .ok (.invokestatic 155, 3) := by decide +kernel
theorem dX12_song_40 : decode cX12_song 40 = .ok (.ifCond .ne 6, 3) := by decide +kernel
theorem dX12_song_43 : decode cX12_song 43 = .ok (.bipush (-2), 2) := by decide +kernel
theorem dX12_song_45 : decode cX12_song 45 = .ok (.ireturn, 1) := by decide +kernel
theorem dX12_song_46 : decode cX12_song 46 = .ok (.iload_n 2, 1) := by decide +kernel
theorem dX12_song_47 : decode cX12_song 47 = .ok (.iconst 2, 1) := by decide +kernel
theorem dX12_song_48 : decode cX12_song 48 = .ok (.idiv, 1) := by decide +kernel
theorem dX12_song_49 : decode cX12_song 49 = .ok (.istore_n 2, 1) := by decide +kernel
theorem dX12_song_50 : decode cX12_song 50 = .ok (.iconst 0, 1) := by decide +kernel
theorem dX12_song_51 : decode cX12_song 51 = .ok (.istore_n 3, 1) := by decide +kernel
theorem dX12_song_52 : decode cX12_song 52 = .ok (.iload_n 3, 1) := by decide +kernel
theorem dX12_song_53 : decode cX12_song 53 = .ok (.iload_n 2, 1) := by decide +kernel
theorem dX12_song_54 : decode cX12_song 54 = .ok (.if_icmp .ge 57, 3) := by decide +kernel
theorem dX12_song_57 : decode cX12_song 57 = .ok (.aload_n 0, 1) := by decide +kernel
theorem dX12_song_58 : decode cX12_song 58 = .ok (.getfield 59, 3) := by decide +kernel
theorem dX12_song_61 : decode cX12_song 61 = .ok (.iload_n 3, 1) := by decide +kernel
theorem dX12_song_62 : decode cX12_song 62 = .ok (.sipush 256, 3) := by decide +kernel
theorem dX12_song_65 : decode cX12_song 65 = .ok (.aload_n 0, 1) := by decide +kernel
theorem dX12_song_66 : decode cX12_song 66 = .ok (.getfield 7, 3) := by decide +kernel
theorem dX12_song_69 : decode cX12_song 69 = .ok (.iconst 2, 1) := by decide +kernel
theorem dX12_song_70 : decode cX12_song 70 = .ok (.iload_n 3, 1) := by decide +kernel
theorem dX12_song_71 : decode cX12_song 71 = .ok (.imul, 1) := by decide +kernel
theorem dX12_song_72 : decode cX12_song 72 = .ok (.iaload, 1) := by decide +kernel
theorem dX12_song_73 : decode cX12_song 73 = .ok (.imul, 1) := by decide +kernel
theorem dX12_song_74 : decode cX12_song 74 = .ok (.aload_n 0, 1) := by decide +kernel
theorem dX12_song_75 : decode cX12_song 75 = .ok (.getfield 7, 3) := by decide +kernel
theorem dX12_song_78 : decode cX12_song 78 = .ok (.iconst 2, 1) := by decide +kernel
theorem dX12_song_79 : decode cX12_song 79 = .ok (.iload_n 3, 1) := by decide +kernel
theorem dX12_song_80 : decode cX12_song 80 = .ok (.imul, 1) := by decide +kernel
theorem dX12_song_81 : decode cX12_song 81 = .ok (.iconst 1, 1) := by decide +kernel
theorem dX12_song_82 : decode cX12_song 82 = .ok (.iadd, 1) := by decide +kernel
theorem dX12_song_83 : decode cX12_song 83 = .ok (.iaload, 1) := by decide +kernel
theorem dX12_song_84 : decode cX12_song 84 = .ok (.iadd, 1) := by decide +kernel
theorem dX12_song_85 : decode cX12_song 85 = .ok (.iastore, 1) := by decide +kernel
theorem dX12_song_86 : decode cX12_song 86 = .ok (.aload_n 0, 1) := by decide +kernel
theorem dX12_song_87 : decode cX12_song 87 = .ok (.getfield 59, 3) := by decide +kernel
theorem dX12_song_90 : decode cX12_song 90 = .ok (.iload_n 3, 1) := by decide +kernel
theorem dX12_song_91 : decode cX12_song 91 = .ok (.iaload, 1) := by decide +kernel
theorem dX12_song_92 : decode cX12_song 92 = .ok (.iconst 1, 1) := by decide +kernel
theorem dX12_song_93 : decode cX12_song 93 = .ok (.sipush 2000, 3) := by decide +kernel
theorem dX12_song_96 : decode cX12_song 96 = .ok (.invokestatic 155, 3) := by decide +kernel
theorem dX12_song_99 : decode cX12_song 99 = .ok (.ifCond .ne 6, 3) := by decide +kernel
theorem dX12_song_102 : decode cX12_song 102 = .ok (.bipush (-2), 2) := by decide +kernel
theorem dX12_song_104 : decode cX12_song 104 = .ok (.ireturn, 1) := by decide +kernel
theorem dX12_song_105 : decode cX12_song 105 = .ok (.iinc 3 1, 3) := by decide +kernel
theorem dX12_song_108 : decode cX12_song 108 = .ok (.goto (-56), 3) := by decide +kernel
theorem dX12_song_111 : decode cX12_song 111 = .ok (.aload_n 0, 1) := by decide +kernel
theorem dX12_song_112 : decode cX12_song 112 = .ok (.invokevirtual 332, 3) := by decide +kernel
theorem dX12_song_115 : decode cX12_song 115 = .ok (.iload_n 2, 1) := by decide +kernel
theorem dX12_song_116 : decode cX12_song 116 = .ok (.iconst 1, 1) := by decide +kernel
theorem dX12_song_117 : decode cX12_song 117 = .ok (.isub, 1) := by decide +kernel
theorem dX12_song_118 : decode cX12_song 118 = .ok (.istore_n 3, 1) := by decide +kernel
theorem dX12_song_119 : decode cX12_song 119 = .ok (.iload_n 3, 1) := by decide +kernel
theorem dX12_song_120 : decode cX12_song 120 = .ok (.ifCond .lt 182, 3) := by decide +kernel
theorem dX12_song_123 : decode cX12_song 123 = .ok (.iconst 0, 1) := by decide +kernel
theorem dX12_song_124 : decode cX12_song 124 = .ok (.istore 4, 2) := by decide +kernel
theorem dX12_song_126 : decode cX12_song 126 = .ok (.iload 4, 2) := by decide +kernel
theorem dX12_song_128 : decode cX12_song 128 = .ok (.aload_n 0, 1) := by decide +kernel
theorem dX12_song_129 : decode cX12_song 129 = .ok (.invokevirtual 320, 3) := by decide +kernel
theorem dX12_song_132 : decode cX12_song 132 = .ok (.if_icmp .ge 164, 3) := by decide +kernel
theorem dX12_song_135 : decode cX12_song 135 = .ok (.iload_n 3, 1) := by decide +kernel
theorem dX12_song_136 : decode cX12_song 136 = .ok (.iload_n 2, 1) := by decide +kernel
theorem dX12_song_137 : decode cX12_song 137 = .ok (.iconst 1, 1) := by decide +kernel
theorem dX12_song_138 : decode cX12_song 138 = .ok (.isub, 1) := by decide +kernel
theorem dX12_song_139 : decode cX12_song 139 = .ok (.if_icmp .ne 7, 3) := by decide +kernel
theorem dX12_song_142 : decode cX12_song 142 = .ok (.iconst 0, 1) := by decide +kernel
theorem dX12_song_143 : decode cX12_song 143 = .ok (.goto 6, 3) := by decide +kernel
theorem dX12_song_146 : decode cX12_song 146 = .ok (.ldc_w 337, 3) := by decide +kernel
theorem dX12_song_149 : decode cX12_song 149 = .ok (.istore 5, 2) := by decide +kernel
theorem dX12_song_151 : decode cX12_song 151 = .ok (.iconst 0, 1) := by decide +kernel
theorem dX12_song_152 : decode cX12_song 152 = .ok (.istore 6, 2) := by decide +kernel
theorem dX12_song_154 : decode cX12_song 154 = .ok (.iload 6, 2) := by decide +kernel
theorem dX12_song_156 : decode cX12_song 156 = .ok (.aload_n 0, 1) := by decide +kernel
theorem dX12_song_157 : decode cX12_song 157 = .ok (.invokevirtual 320, 3) := by decide +kernel
theorem dX12_song_160 : decode cX12_song 160 = .ok (.if_icmp .ge 89, 3) := by decide +kernel
theorem dX12_song_163 : decode cX12_song 163 = .ok (.iload_n 3, 1) := by decide +kernel
theorem dX12_song_164 : decode cX12_song 164 = .ok (.iload_n 2, 1) := by decide +kernel
theorem dX12_song_165 : decode cX12_song 165 = .ok (.iconst 1, 1) := by decide +kernel
theorem dX12_song_166 : decode cX12_song 166 = .ok (.isub, 1) := by decide +kernel
theorem dX12_song_167 : decode cX12_song 167 = .ok (.if_icmp .ge 82, 3) := by decide +kernel
theorem dX12_song_170 : decode cX12_song 170 = .ok (.aload_n 0, 1) := by decide +kernel
theorem dX12_song_171 : decode cX12_song 171 = .ok (.getfield 62, 3) := by decide +kernel
theorem dX12_song_174 : decode cX12_song 174 = .ok (.bipush 40, 2) := by decide +kernel
theorem dX12_song_176 : decode cX12_song 176 = .ok (.iload_n 3, 1) := by decide +kernel
theorem dX12_song_177 : decode cX12_song 177 = .ok (.iconst 1, 1) := by decide +kernel
theorem dX12_song_178 : decode cX12_song 178 = .ok (.iadd, 1) := by decide +kernel
theorem dX12_song_179 : decode cX12_song 179 = .ok (.imul, 1) := by decide +kernel
theorem dX12_song_180 : decode cX12_song 180 = .ok (.iload 6, 2) := by decide +kernel
theorem dX12_song_182 : decode cX12_song 182 = .ok (.iadd, 1) := by decide +kernel
theorem dX12_song_183 : decode cX12_song 183 = .ok (.iaload, 1) := by decide +kernel
theorem dX12_song_184 : decode cX12_song 184 = .ok (.ldc_w 337, 3) := by decide +kernel
theorem dX12_song_187 : decode cX12_song 187 = .ok (.if_icmp .ge 56, 3) := by decide +kernel
theorem dX12_song_190 : decode cX12_song 190 = .ok (.aload_n 0, 1) := by decide +kernel
theorem dX12_song_191 : decode cX12_song 191 = .ok (.iload 4, 2) := by decide +kernel
theorem dX12_song_193 : decode cX12_song 193 = .ok (.iload 6, 2) := by decide +kernel
theorem dX12_song_195 : decode cX12_song 195 = .ok (.invokevirtual 338, 3) := by decide +kernel
theorem dX12_song_198 : decode cX12_song 198 = .ok (.aload_n 0, 1) := by decide +kernel
theorem dX12_song_199 : decode cX12_song 199 = .ok (.getfield 62, 3) := by decide +kernel
theorem dX12_song_202 : decode cX12_song 202 = .ok (.bipush 40, 2) := by decide +kernel
theorem dX12_song_204 : decode cX12_song 204 = .ok (.iload_n 3, 1) := by decide +kernel
theorem dX12_song_205 : decode cX12_song 205 = .ok (.iconst 1, 1) := by decide +kernel
theorem dX12_song_206 : decode cX12_song 206 = .ok (.iadd, 1) := by decide +kernel
theorem dX12_song_207 : decode cX12_song 207 = .ok (.imul, 1) := by decide +kernel
theorem dX12_song_208 : decode cX12_song 208 = .ok (.iload 6, 2) := by decide +kernel
theorem dX12_song_210 : decode cX12_song 210 = .ok (.iadd, 1) := by decide +kernel
theorem dX12_song_211 : decode cX12_song 211 = .ok (.iaload, 1) := by decide +kernel
theorem dX12_song_212 : decode cX12_song 212 = .ok (.iadd, 1) := by decide +kernel
theorem dX12_song_213 : decode cX12_song 213 = .ok (.iload 5, 2) := by decide +kernel
theorem dX12_song_215 : decode cX12_song 215 = .ok (.if_icmp .ge 28, 3) := by decide +kernel
theorem dX12_song_218 : decode cX12_song 218 = .ok (.aload_n 0, 1) := by decide +kernel
theorem dX12_song_219 : decode cX12_song 219 = .ok (.iload 4, 2) := by decide +kernel
theorem dX12_song_221 : decode cX12_song 221 = .ok (.iload 6, 2) := by decide +kernel
theorem dX12_song_223 : decode cX12_song 223 = .ok (.invokevirtual 338, 3) := by decide +kernel
theorem dX12_song_226 : decode cX12_song 226 = .ok (.aload_n 0, 1) := by decide +kernel
theorem dX12_song_227 : decode cX12_song 227 = .ok (.getfield 62, 3) := by decide +kernel
theorem dX12_song_230 : decode cX12_song 230 = .ok (.bipush 40, 2) := by decide +kernel
theorem dX12_song_232 : decode cX12_song 232 = .ok (.iload_n 3, 1) := by decide +kernel
theorem dX12_song_233 : decode cX12_song 233 = .ok (.iconst 1, 1) := by decide +kernel
theorem dX12_song_234 : decode cX12_song 234 = .ok (.iadd, 1) := by decide +kernel
theorem dX12_song_235 : decode cX12_song 235 = .ok (.imul, 1) := by decide +kernel
theorem dX12_song_236 : decode cX12_song 236 = .ok (.iload 6, 2) := by decide +kernel
theorem dX12_song_238 : decode cX12_song 238 = .ok (.iadd, 1) := by decide +kernel
theorem dX12_song_239 : decode cX12_song 239 = .ok (.iaload, 1) := by decide +kernel
theorem dX12_song_240 : decode cX12_song 240 = .ok (.iadd, 1) := by decide +kernel
theorem dX12_song_241 : decode cX12_song 241 = .ok (.istore 5, 2) := by decide +kernel
theorem dX12_song_243 : decode cX12_song 243 = .ok (.iinc 6 1, 3) := by decide +kernel
theorem dX12_song_246 : decode cX12_song 246 = .ok (.goto (-92), 3) := by decide +kernel
theorem dX12_song_249 : decode cX12_song 249 = .ok (.aload_n 0, 1) := by decide +kernel
theorem dX12_song_250 : decode cX12_song 250 = .ok (.getfield 62, 3) := by decide +kernel
theorem dX12_song_253 : decode cX12_song 253 = .ok (.bipush 40, 2) := by decide +kernel
theorem dX12_song_255 : decode cX12_song 255 = .ok (.iload_n 3, 1) := by decide +kernel
theorem dX12_song_256 : decode cX12_song 256 = .ok (.imul, 1) := by decide +kernel
theorem dX12_song_257 : decode cX12_song 257 = .ok (.iload 4, 2) := by decide +kernel
theorem dX12_song_259 : decode cX12_song 259 = .ok (.iadd, 1) := by decide +kernel
theorem dX12_song_260 : decode cX12_song 260 = .ok (.aload_n 0, 1) := by decide +kernel
theorem dX12_song_261 : decode cX12_song 261 = .ok (.aload_n 0, 1) := by decide +kernel
theorem dX12_song_262 : decode cX12_song 262 = .ok (.getfield 56, 3) := by decide +kernel
theorem dX12_song_265 : decode cX12_song 265 = .ok (.iload 4, 2) := by decide +kernel
theorem dX12_song_267 : decode cX12_song 267 = .ok (.iaload, 1) := by decide +kernel
theorem dX12_song_268 : decode cX12_song 268 = .ok (.aload_n 0, 1) := by decide +kernel
theorem dX12_song_269 : decode cX12_song 269 = .ok (.getfield 59, 3) := by decide +kernel
theorem dX12_song_272 : decode cX12_song 272 = .ok (.iload_n 3, 1) := by decide +kernel
theorem dX12_song_273 : decode cX12_song 273 = .ok (.iaload, 1) := by decide +kernel
theorem dX12_song_274 : decode cX12_song 274 = .ok (.iload_n 1, 1) := by decide +kernel
theorem dX12_song_275 : decode cX12_song 275 = .ok (.invokevirtual 341, 3) := by decide +kernel
theorem dX12_song_278 : decode cX12_song 278 = .ok (.ifCond .eq 8, 3) := by decide +kernel
theorem dX12_song_281 : decode cX12_song 281 = .ok (.iload 5, 2) := by decide +kernel
theorem dX12_song_283 : decode cX12_song 283 = .ok (.goto 6, 3) := by decide +kernel
theorem dX12_song_286 : decode cX12_song 286 = .ok (.ldc_w 337, 3) := by decide +kernel
theorem dX12_song_289 : decode cX12_song 289 = .ok (.iastore, 1) := by decide +kernel
theorem dX12_song_290 : decode cX12_song 290 = .ok (.iinc 4 1, 3) := by decide +kernel
theorem dX12_song_293 : decode cX12_song 293 = .ok (.goto (-167), 3) := by decide +kernel
theorem dX12_song_296 : decode cX12_song 296 = .ok (.iinc 3 (-1), 3) := by decide +kernel
theorem dX12_song_299 : decode cX12_song 299 = .ok (.goto (-180), 3) := by decide +kernel
theorem dX12_song_302 : decode cX12_song 302 = .ok (.iconst (-1), 1) := by decide +kernel
theorem dX12_song_303 : decode cX12_song 303 = .ok (.istore_n 3, 1) := by decide +kernel
theorem dX12_song_304 : decode cX12_song 304 = .ok (.iconst 0, 1) := by decide +kernel
theorem dX12_song_305 : decode cX12_song 305 = .ok (.istore 4, 2) := by decide +kernel
theorem dX12_song_307 : decode cX12_song 307 = .ok (.iload 4, 2) := by decide +kernel
theorem dX12_song_309 : decode cX12_song 309 = .ok (.aload_n 0, 1) := by decide +kernel
theorem dX12_song_310 : decode cX12_song 310 = .ok (.invokevirtual 320, 3) := by decide +kernel
theorem dX12_song_313 : decode cX12_song 313 = .ok (.if_icmp .ge 46, 3) := by decide +kernel
theorem dX12_song_316 : decode cX12_song 316 = .ok (.aload_n 0, 1) := by decide +kernel
theorem dX12_song_317 : decode cX12_song 317 = .ok (.getfield 62, 3) := by decide +kernel
theorem dX12_song_320 : decode cX12_song 320 = .ok (.iload 4, 2) := by decide +kernel
theorem dX12_song_322 : decode cX12_song 322 = .ok (.iaload, 1) := by decide +kernel
theorem dX12_song_323 : decode cX12_song 323 = .ok (.ldc_w 337, 3) := by decide +kernel
theorem dX12_song_326 : decode cX12_song 326 = .ok (.if_icmp .ge 27, 3) := by decide +kernel
theorem dX12_song_329 : decode cX12_song 329 = .ok (.iload_n 3, 1) := by decide +kernel
theorem dX12_song_330 : decode cX12_song 330 = .ok (.iconst (-1), 1) := by decide +kernel
theorem dX12_song_331 : decode cX12_song 331 = .ok (.if_icmp .eq 19, 3) := by decide +kernel
theorem dX12_song_334 : decode cX12_song 334 = .ok (.aload_n 0, 1) := by decide +kernel
theorem dX12_song_335 : decode cX12_song 335 = .ok (.getfield 62, 3) := by decide +kernel
theorem dX12_song_338 : decode cX12_song 338 = .ok (.iload 4, 2) := by decide +kernel
theorem dX12_song_340 : decode cX12_song 340 = .ok (.iaload, 1) := by decide +kernel
theorem dX12_song_341 : decode cX12_song 341 = .ok (.aload_n 0, 1) := by decide +kernel
theorem dX12_song_342 : decode cX12_song 342 = .ok (.getfield 62, 3) := by decide +kernel
theorem dX12_song_345 : decode cX12_song 345 = .ok (.iload_n 3, 1) := by decide +kernel
theorem dX12_song_346 : decode cX12_song 346 = .ok (.iaload, 1) := by decide +kernel
theorem dX12_song_347 : decode cX12_song 347 = .ok (.if_icmp .ge 6, 3) := by decide +kernel
theorem dX12_song_350 : decode cX12_song 350 = .ok (.iload 4, 2) := by decide +kernel
theorem dX12_song_352 : decode cX12_song 352 = .ok (.istore_n 3, 1) := by decide +kernel
theorem dX12_song_353 : decode cX12_song 353 = .ok (.iinc 4 1, 3) := by decide +kernel
theorem dX12_song_356 : decode cX12_song 356 = .ok (.goto (-49), 3) := by decide +kernel
theorem dX12_song_359 : decode cX12_song 359 = .ok (.iload_n 3, 1) := by decide +kernel
theorem dX12_song_360 : decode cX12_song 360 = .ok (.iconst (-1), 1) := by decide +kernel
theorem dX12_song_361 : decode cX12_song 361 = .ok (.if_icmp .ne 5, 3) := by decide +kernel
theorem dX12_song_364 : decode cX12_song 364 = .ok (.iconst (-1), 1) := by decide +kernel
theorem dX12_song_365 : decode cX12_song 365 = .ok (.ireturn, 1) := by decide +kernel
theorem dX12_song_366 : decode cX12_song 366 = .ok (.aload_n 0, 1) := by decide +kernel
theorem dX12_song_367 : decode cX12_song 367 = .ok (.iload_n 2, 1) := by decide +kernel
theorem dX12_song_368 : decode cX12_song 368 = .ok (.putfield 344, 3) := by decide +kernel
theorem dX12_song_371 : decode cX12_song 371 = .ok (.aload_n 0, 1) := by decide +kernel
theorem dX12_song_372 : decode cX12_song 372 = .ok (.getfield 65, 3) := by decide +kernel
theorem dX12_song_375 : decode cX12_song 375 = .ok (.iconst 0, 1) := by decide +kernel
theorem dX12_song_376 : decode cX12_song 376 = .ok (.iload_n 3, 1) := by decide +kernel
theorem dX12_song_377 : decode cX12_song 377 = .ok (.iastore, 1) := by decide +kernel
theorem dX12_song_378 : decode cX12_song 378 = .ok (.iconst 1, 1) := by decide +kernel
theorem dX12_song_379 : decode cX12_song 379 = .ok (.istore 4, 2) := by decide +kernel
theorem dX12_song_381 : decode cX12_song 381 = .ok (.iload 4, 2) := by decide +kernel
theorem dX12_song_383 : decode cX12_song 383 = .ok (.iload_n 2, 1) := by decide +kernel
theorem dX12_song_384 : decode cX12_song 384 = .ok (.if_icmp .ge 97, 3) := by decide +kernel
theorem dX12_song_387 : decode cX12_song 387 = .ok (.aload_n 0, 1) := by decide +kernel
theorem dX12_song_388 : decode cX12_song 388 = .ok (.getfield 65, 3) := by decide +kernel
theorem dX12_song_391 : decode cX12_song 391 = .ok (.iload 4, 2) := by decide +kernel
theorem dX12_song_393 : decode cX12_song 393 = .ok (.iconst 1, 1) := by decide +kernel
theorem dX12_song_394 : decode cX12_song 394 = .ok (.isub, 1) := by decide +kernel
theorem dX12_song_395 : decode cX12_song 395 = .ok (.iaload, 1) := by decide +kernel
theorem dX12_song_396 : decode cX12_song 396 = .ok (.istore 5, 2) := by decide +kernel
theorem dX12_song_398 : decode cX12_song 398 = .ok (.iconst 0, 1) := by decide +kernel
theorem dX12_song_399 : decode cX12_song 399 = .ok (.istore 6, 2) := by decide +kernel
theorem dX12_song_401 : decode cX12_song 401 = .ok (.aload_n 0, 1) := by decide +kernel
theorem dX12_song_402 : decode cX12_song 402 = .ok (.getfield 62, 3) := by decide +kernel
theorem dX12_song_405 : decode cX12_song 405 = .ok (.bipush 40, 2) := by decide +kernel
theorem dX12_song_407 : decode cX12_song 407 = .ok (.iload 4, 2) := by decide +kernel
theorem dX12_song_409 : decode cX12_song 409 = .ok (.imul, 1) := by decide +kernel
theorem dX12_song_410 : decode cX12_song 410 = .ok (.iload 6, 2) := by decide +kernel
theorem dX12_song_412 : decode cX12_song 412 = .ok (.iadd, 1) := by decide +kernel
theorem dX12_song_413 : decode cX12_song 413 = .ok (.iaload, 1) := by decide +kernel
theorem dX12_song_414 : decode cX12_song 414 = .ok (.ldc_w 337, 3) := by decide +kernel
theorem dX12_song_417 : decode cX12_song 417 = .ok (.if_icmp .eq 43, 3) := by decide +kernel
theorem dX12_song_420 : decode cX12_song 420 = .ok (.aload_n 0, 1) := by decide +kernel
theorem dX12_song_421 : decode cX12_song 421 = .ok (.iload 5, 2) := by decide +kernel
theorem dX12_song_423 : decode cX12_song 423 = .ok (.iload 6, 2) := by decide +kernel
theorem dX12_song_425 : decode cX12_song 425 = .ok (.invokevirtual 338, 3) := by decide +kernel
theorem dX12_song_428 : decode cX12_song 428 = .ok (.aload_n 0, 1) := by decide +kernel
theorem dX12_song_429 : decode cX12_song 429 = .ok (.getfield 62, 3) := by decide +kernel
theorem dX12_song_432 : decode cX12_song 432 = .ok (.bipush 40, 2) := by decide +kernel
theorem dX12_song_434 : decode cX12_song 434 = .ok (.iload 4, 2) := by decide +kernel
theorem dX12_song_436 : decode cX12_song 436 = .ok (.imul, 1) := by decide +kernel
theorem dX12_song_437 : decode cX12_song 437 = .ok (.iload 6, 2) := by decide +kernel
theorem dX12_song_439 : decode cX12_song 439 = .ok (.iadd, 1) := by decide +kernel
theorem dX12_song_440 : decode cX12_song 440 = .ok (.iaload, 1) := by decide +kernel
theorem dX12_song_441 : decode cX12_song 441 = .ok (.iadd, 1) := by decide +kernel
theorem dX12_song_442 : decode cX12_song 442 = .ok (.aload_n 0, 1) := by decide +kernel
theorem dX12_song_443 : decode cX12_song 443 = .ok (.getfield 62, 3) := by decide +kernel
theorem dX12_song_446 : decode cX12_song 446 = .ok (.bipush 40, 2) := by decide +kernel
theorem dX12_song_448 : decode cX12_song 448 = .ok (.iload 4, 2) := by decide +kernel
theorem dX12_song_450 : decode cX12_song 450 = .ok (.iconst 1, 1) := by decide +kernel
theorem dX12_song_451 : decode cX12_song 451 = .ok (.isub, 1) := by decide +kernel
theorem dX12_song_452 : decode cX12_song 452 = .ok (.imul, 1) := by decide +kernel
theorem dX12_song_453 : decode cX12_song 453 = .ok (.iload 5, 2) := by decide +kernel
theorem dX12_song_455 : decode cX12_song 455 = .ok (.iadd, 1) := by decide +kernel
theorem dX12_song_456 : decode cX12_song 456 = .ok (.iaload, 1) := by decide +kernel
theorem dX12_song_457 : decode cX12_song 457 = .ok (.if_icmp .eq 9, 3) := by decide +kernel
theorem dX12_song_460 : decode cX12_song 460 = .ok (.iinc 6 1, 3) := by decide +kernel
theorem dX12_song_463 : decode cX12_song 463 = .ok (.goto (-62), 3) := by decide +kernel
theorem dX12_song_466 : decode cX12_song 466 = .ok (.aload_n 0, 1) := by decide +kernel
theorem dX12_song_467 : decode cX12_song 467 = .ok (.getfield 65, 3) := by decide +kernel
theorem dX12_song_470 : decode cX12_song 470 = .ok (.iload 4, 2) := by decide +kernel
theorem dX12_song_472 : decode cX12_song 472 = .ok (.iload 6, 2) := by decide +kernel
theorem dX12_song_474 : decode cX12_song 474 = .ok (.iastore, 1) := by decide +kernel
theorem dX12_song_475 : decode cX12_song 475 = .ok (.iinc 4 1, 3) := by decide +kernel
theorem dX12_song_478 : decode cX12_song 478 = .ok (.goto (-97), 3) := by decide +kernel
theorem dX12_song_481 : decode cX12_song 481 = .ok (.aload_n 0, 1) := by decide +kernel
theorem dX12_song_482 : decode cX12_song 482 = .ok (.getfield 62, 3) := by decide +kernel
theorem dX12_song_485 : decode cX12_song 485 = .ok (.iload_n 3, 1) := by decide +kernel
theorem dX12_song_486 : decode cX12_song 486 = .ok (.iaload, 1) := by decide +kernel
theorem dX12_song_487 : decode cX12_song 487 = .ok (.ireturn, 1) := by decide +kernel
theorem hcX12_song : yX12_song.cls ≠ "java/lang/invoke/MethodHandle" ∧ yX12_song.cls ≠ "java/lang/invoke/VarHandle" ∧ (parseMethodDescriptor yX12_song.desc).map (fun d => d.parameters.length) = some 1 := ⟨by decide +kernel, by decide +kernel, by decide +kernel⟩
def fX12_song_L52 (u4 : Int) (Q : Int → sg_M → Prop) (k111 : sg_M → Prop) : Nat → sg_M → Int → Prop
  | 0, _, _ => False
  | n_52 + 1, s_52, x3_52 => sg_R (Int.tdiv u4 2) ∧ (((Int.tdiv u4 2) ≤ x3_52 → k111 s_52) ∧ (¬ ((Int.tdiv u4 2) ≤ x3_52) → (0 ≤ (2 * x3_52) ∧ (2 * x3_52) < 540) ∧ (0 ≤ ((2 * x3_52) + 1) ∧ ((2 * x3_52) + 1) < 540) ∧ (0 ≤ x3_52 ∧ x3_52 < 60) ∧ sg_R ((256 * (s_52 65 (2 * x3_52))) + (s_52 65 ((2 * x3_52) + 1))) ∧ ∀ v27 : Int, v27 = ((256 * (s_52 65 (2 * x3_52))) + (s_52 65 ((2 * x3_52) + 1))) → ∀ s29 : sg_M, s29 = sg_up s_52 81 x3_52 v27 → (0 ≤ x3_52 ∧ x3_52 < 60) ∧ fX12_isIn (s29 81 x3_52) 1 2000 (fun u34 => ((u34 ≠ 0 → sg_R (x3_52 + 1) ∧ (fX12_song_L52 u4 Q k111 n_52) s29 (x3_52 + 1)) ∧ (u34 = 0 → Q (-2) s29)))))
def fX12_song_j243 (x6_154 : Int) (k154 : Int → Int → Prop) (x5_243 : Int) : Prop := sg_R (x6_154 + 1) ∧ k154 x5_243 (x6_154 + 1)
def fX12_song_L154 (u4 : Int) (x3_119 : Int) (s_126 : sg_M) (x4_126 : Int) (k249 : Int → Prop) : Nat → Int → Int → Prop
  | 0, _, _ => False
  | n_154 + 1, x5_154, x6_154 => fX12_bends s_126 (fun u44 => ((u44 ≤ x6_154 → k249 x5_154) ∧ (¬ (u44 ≤ x6_154) → sg_R ((Int.tdiv u4 2) - 1) ∧ ((((Int.tdiv u4 2) - 1) ≤ x3_119 → k249 x5_154) ∧ (¬ (((Int.tdiv u4 2) - 1) ≤ x3_119) → (0 ≤ ((40 * (x3_119 + 1)) + x6_154) ∧ ((40 * (x3_119 + 1)) + x6_154) < 2400) ∧ ((100000000 ≤ (s_126 82 ((40 * (x3_119 + 1)) + x6_154)) → (fX12_song_j243 x6_154 (fX12_song_L154 u4 x3_119 s_126 x4_126 k249 n_154)) x5_154) ∧ (¬ (100000000 ≤ (s_126 82 ((40 * (x3_119 + 1)) + x6_154))) → fX12_way s_126 x4_126 x6_154 (fun u54 => (0 ≤ ((40 * (x3_119 + 1)) + x6_154) ∧ ((40 * (x3_119 + 1)) + x6_154) < 2400) ∧ sg_R (u54 + (s_126 82 ((40 * (x3_119 + 1)) + x6_154))) ∧ ((x5_154 ≤ (u54 + (s_126 82 ((40 * (x3_119 + 1)) + x6_154))) → (fX12_song_j243 x6_154 (fX12_song_L154 u4 x3_119 s_126 x4_126 k249 n_154)) x5_154) ∧ (¬ (x5_154 ≤ (u54 + (s_126 82 ((40 * (x3_119 + 1)) + x6_154)))) → fX12_way s_126 x4_126 x6_154 (fun u61 => (0 ≤ ((40 * (x3_119 + 1)) + x6_154) ∧ ((40 * (x3_119 + 1)) + x6_154) < 2400) ∧ ∀ v66 : Int, v66 = (u61 + (s_126 82 ((40 * (x3_119 + 1)) + x6_154))) → sg_R v66 ∧ (fX12_song_j243 x6_154 (fX12_song_L154 u4 x3_119 s_126 x4_126 k249 n_154)) v66)))))))))))
def fX12_song_j289 (x3_119 : Int) (s_126 : sg_M) (x4_126 : Int) (k126 : sg_M → Int → Prop) (y0_289 : Int) : Prop := (0 ≤ ((40 * x3_119) + x4_126) ∧ ((40 * x3_119) + x4_126) < 2400) ∧ ∀ s80 : sg_M, s80 = sg_up s_126 82 ((40 * x3_119) + x4_126) y0_289 → sg_R (x4_126 + 1) ∧ k126 s80 (x4_126 + 1)
def fX12_song_j149 (x1 : Int) (u4 : Int) (x3_119 : Int) (s_126 : sg_M) (x4_126 : Int) (k126 : sg_M → Int → Prop) (y0_149 : Int) : Prop := (∃ n69 : Nat, fX12_song_L154 u4 x3_119 s_126 x4_126 (fun x5_249e154 => (0 ≤ x4_126 ∧ x4_126 < 40) ∧ (0 ≤ x3_119 ∧ x3_119 < 60) ∧ fX12_isNear (s_126 80 x4_126) (s_126 81 x3_119) x1 (fun u77 => ((u77 = 0 → (fX12_song_j289 x3_119 s_126 x4_126 k126) 100000000) ∧ (¬ (u77 = 0) → (fX12_song_j289 x3_119 s_126 x4_126 k126) x5_249e154)))) n69 y0_149 0)
def fX12_song_L126 (x1 : Int) (u4 : Int) (x3_119 : Int) (k296 : sg_M → Prop) : Nat → sg_M → Int → Prop
  | 0, _, _ => False
  | n_126 + 1, s_126, x4_126 => fX12_bends s_126 (fun u41 => ((u41 ≤ x4_126 → k296 s_126) ∧ (¬ (u41 ≤ x4_126) → sg_R ((Int.tdiv u4 2) - 1) ∧ ((x3_119 ≠ ((Int.tdiv u4 2) - 1) → (fX12_song_j149 x1 u4 x3_119 s_126 x4_126 (fX12_song_L126 x1 u4 x3_119 k296 n_126)) 100000000) ∧ (x3_119 = ((Int.tdiv u4 2) - 1) → (fX12_song_j149 x1 u4 x3_119 s_126 x4_126 (fX12_song_L126 x1 u4 x3_119 k296 n_126)) 0)))))
def fX12_song_L119 (x1 : Int) (u4 : Int) (k302 : sg_M → Prop) : Nat → sg_M → Int → Prop
  | 0, _, _ => False
  | n_119 + 1, s_119, x3_119 => ((x3_119 < 0 → k302 s_119) ∧ (¬ (x3_119 < 0) → (∃ n86 : Nat, fX12_song_L126 x1 u4 x3_119 (fun s_296e126 => sg_R (x3_119 - 1) ∧ (fX12_song_L119 x1 u4 k302 n_119) s_296e126 (x3_119 - 1)) n86 s_119 0)))
def fX12_song_j353 (x4_307 : Int) (k307 : Int → Int → Prop) (x3_353 : Int) : Prop := sg_R (x4_307 + 1) ∧ k307 x3_353 (x4_307 + 1)
def fX12_song_j350 (x4_307 : Int) (k353 : Int → Prop)  : Prop := k353 x4_307
def fX12_song_L307 (s_302e119 : sg_M) (k359 : Int → Prop) : Nat → Int → Int → Prop
  | 0, _, _ => False
  | n_307 + 1, x3_307, x4_307 => fX12_bends s_302e119 (fun u90 => ((u90 ≤ x4_307 → k359 x3_307) ∧ (¬ (u90 ≤ x4_307) → (0 ≤ x4_307 ∧ x4_307 < 2400) ∧ ((100000000 ≤ (s_302e119 82 x4_307) → (fX12_song_j353 x4_307 (fX12_song_L307 s_302e119 k359 n_307)) x3_307) ∧ (¬ (100000000 ≤ (s_302e119 82 x4_307)) → ((x3_307 = (-1) → (fX12_song_j350 x4_307 (fX12_song_j353 x4_307 (fX12_song_L307 s_302e119 k359 n_307)))) ∧ (¬ (x3_307 = (-1)) → (0 ≤ x4_307 ∧ x4_307 < 2400) ∧ (0 ≤ x3_307 ∧ x3_307 < 2400) ∧ (((s_302e119 82 x3_307) ≤ (s_302e119 82 x4_307) → (fX12_song_j353 x4_307 (fX12_song_L307 s_302e119 k359 n_307)) x3_307) ∧ (¬ ((s_302e119 82 x3_307) ≤ (s_302e119 82 x4_307)) → (fX12_song_j350 x4_307 (fX12_song_j353 x4_307 (fX12_song_L307 s_302e119 k359 n_307))))))))))))
def fX12_song_j460 (x6_401 : Int) (k401 : Int → Prop)  : Prop := sg_R (x6_401 + 1) ∧ k401 (x6_401 + 1)
def fX12_song_L401 (s_381 : sg_M) (x4_381 : Int) (k466 : Int → Prop) : Nat → Int → Prop
  | 0, _ => False
  | n_401 + 1, x6_401 => (0 ≤ ((40 * x4_381) + x6_401) ∧ ((40 * x4_381) + x6_401) < 2400) ∧ (((s_381 82 ((40 * x4_381) + x6_401)) = 100000000 → (fX12_song_j460 x6_401 (fX12_song_L401 s_381 x4_381 k466 n_401))) ∧ (¬ ((s_381 82 ((40 * x4_381) + x6_401)) = 100000000) → fX12_way s_381 (s_381 83 (x4_381 - 1)) x6_401 (fun u126 => (0 ≤ ((40 * x4_381) + x6_401) ∧ ((40 * x4_381) + x6_401) < 2400) ∧ (0 ≤ ((40 * (x4_381 - 1)) + (s_381 83 (x4_381 - 1))) ∧ ((40 * (x4_381 - 1)) + (s_381 83 (x4_381 - 1))) < 2400) ∧ sg_R (u126 + (s_381 82 ((40 * x4_381) + x6_401))) ∧ (((u126 + (s_381 82 ((40 * x4_381) + x6_401))) = (s_381 82 ((40 * (x4_381 - 1)) + (s_381 83 (x4_381 - 1)))) → k466 x6_401) ∧ (¬ ((u126 + (s_381 82 ((40 * x4_381) + x6_401))) = (s_381 82 ((40 * (x4_381 - 1)) + (s_381 83 (x4_381 - 1))))) → (fX12_song_j460 x6_401 (fX12_song_L401 s_381 x4_381 k466 n_401)))))))
def fX12_song_L381 (u4 : Int) (x3_359e307 : Int) (Q : Int → sg_M → Prop) : Nat → sg_M → Int → Prop
  | 0, _, _ => False
  | n_381 + 1, s_381, x4_381 => (((Int.tdiv u4 2) ≤ x4_381 → (0 ≤ x3_359e307 ∧ x3_359e307 < 2400) ∧ Q (s_381 82 x3_359e307) s_381) ∧ (¬ ((Int.tdiv u4 2) ≤ x4_381) → (0 ≤ (x4_381 - 1) ∧ (x4_381 - 1) < 60) ∧ (∃ n136 : Nat, fX12_song_L401 s_381 x4_381 (fun x6_466e401 => (0 ≤ x4_381 ∧ x4_381 < 60) ∧ ∀ s139 : sg_M, s139 = sg_up s_381 83 x4_381 x6_466e401 → sg_R (x4_381 + 1) ∧ (fX12_song_L381 u4 x3_359e307 Q n_381) s139 (x4_381 + 1)) n136 0)))
def fX12_song (s0 : sg_M) (x1 : Int) (Q : Int → sg_M → Prop) : Prop := ∀ s1 : sg_M, s1 = sg_up s0 64 0 0 → fX12_lay s1 (fun s3 => fX12_takeTape s3 (fun u4 s6 => sg_R (Int.tmod u4 2) ∧ (((Int.tmod u4 2) ≠ 0 → Q (-2) s6) ∧ ((Int.tmod u4 2) = 0 → sg_R (Int.tdiv u4 2) ∧ fX12_isIn (Int.tdiv u4 2) 1 60 (fun u10 => ((u10 = 0 → Q (-2) s6) ∧ (¬ (u10 = 0) → fX12_isIn x1 0 200 (fun u13 => ((u13 ≠ 0 → (∃ n38 : Nat, fX12_song_L52 u4 Q (fun s_111e52 => fX12_sing s_111e52 (fun s39 => sg_R ((Int.tdiv u4 2) - 1) ∧ (∃ n89 : Nat, fX12_song_L119 x1 u4 (fun s_302e119 => (∃ n106 : Nat, fX12_song_L307 s_302e119 (fun x3_359e307 => ((x3_359e307 ≠ (-1) → sg_R (Int.tdiv u4 2) ∧ ∀ s109 : sg_M, s109 = sg_up s_302e119 64 50 (Int.tdiv u4 2) → ∀ s112 : sg_M, s112 = sg_up s109 83 0 x3_359e307 → (∃ n142 : Nat, fX12_song_L381 u4 x3_359e307 Q n142 s112 1)) ∧ (x3_359e307 = (-1) → Q (-1) s_302e119))) n106 (-1) 0)) n89 s39 ((Int.tdiv u4 2) - 1)))) n38 s6 0)) ∧ (u13 = 0 → Q (-2) s6))))))))))
set_option maxHeartbeats 4000000 in
set_option maxRecDepth 100000 in
theorem CX12_song {l : Launch} {G : sg_G} {La : sg_L} {s0 : sg_M} (hst : sg_St La) {x1 : Int} (r1 : sg_R x1) {Q : Int → sg_M → Prop} (hf : fX12_song s0 x1 Q) : sg_C l G yX12_song cX12_song 7 (some .int) 7 0 0 La s0 [sg_r 64, sg_i x1] (sg_HI La Q) := by
  refine sg_body (by decide +kernel) (Nat.le_of_ble_eq_true rfl) ?_
  intro p e s m args below meth c F hnm
  unfold fX12_song at hf
  show sg_W p l e (sg_rm 7 0 0) s m args below meth c (MQ below (sg_Q (some .int) G La s.heap.size (sg_HI La Q)) args s 0 0 (sg_A La s.heap.size)) 7 G (sg_A La s.heap.size) La s0 0 0 0 [(0, sg_r 64), (1, sg_i x1)] []
  refine gw_aload_n F 0 rfl rfl (by decide) dX12_song_0 ?_
  refine gw_iconst F dX12_song_1 ?_
  obtain ⟨s1, e2⟩ : ∃ z : sg_M, z = sg_up s0 64 0 0 := ⟨_, rfl⟩
  have hf := hf s1 e2
  refine gw_put0 F (so_64 hst) (by decide) rfl sg_lay_RX12 (j := 0) (by decide) (by decide) e2 tyX12_ok nmX12 rfl (tyX12_ok 0 (by decide)) rfl (host := "") (.inl kw_956) dX12_song_2 ?_
  refine gw_aload_n F 0 rfl rfl (by decide) dX12_song_5 ?_
  refine gk_HV F (gc_V F (S := []) (As := []) (T := TX12) (N := 62) (CX12_lay hst hf) (so_64 hst) (by decide) rfl kw_1043 kw_103 kw_1041 kw_1042 kw_41 hcX12_lay ⟨by decide, by decide⟩ rfl rfl (Nat.le_of_ble_eq_true rfl) ⟨by decide, by decide⟩ dX12_song_6) (fun s3 hf => ?_)
  refine gw_aload_n F 0 rfl rfl (by decide) dX12_song_9 ?_
  refine gk_HI F (gc_V F (S := []) (As := []) (T := TX12) (N := 62) (CX12_takeTape hst hf) (so_64 hst) (by decide) rfl kw_1046 kw_103 kw_1044 kw_1045 kw_42 hcX12_takeTape ⟨by decide, by decide⟩ rfl rfl (Nat.le_of_ble_eq_true rfl) ⟨by decide, by decide⟩ dX12_song_10) (fun u4 s6 h5 hf => ?_)
  refine gw_istore_n F rfl (by decide) rfl dX12_song_13 ?_
  refine gw_iload_n F 0 rfl rfl dX12_song_14 ?_
  refine gw_iconst F dX12_song_15 ?_
  refine gw_irem F h5 (by decide) (by decide) rfl dX12_song_16 ?_
  obtain ⟨g7, hf⟩ := hf
  refine gw_if_ne F (tgt := 43) dX12_song_17 (by decide) g7 (fun c8 => ?_) (fun c8 => ?_)
  · have hf := hf.1 c8
    refine gw_bipush F rfl dX12_song_43 ?_
    exact gr_HI F (by decide) hf (by decide) (by decide) dX12_song_45
  · have hf := hf.2 c8
    refine gw_iload_n F 0 rfl rfl dX12_song_20 ?_
    refine gw_iconst F dX12_song_21 ?_
    refine gw_idiv F h5 (by decide) (by decide) rfl dX12_song_22 ?_
    refine gw_iconst F dX12_song_23 ?_
    refine gw_bipush F rfl dX12_song_24 ?_
    obtain ⟨g9, hf⟩ := hf
    refine gk_PZ F (gc_S F (S := []) (As := [sg_i (Int.tdiv u4 2), sg_i 1, sg_i 60]) (CX12_isIn g9 (by decide) (by decide) hf) kw_1084 kw_103 kw_1082 kw_1083 hcX12_isIn ⟨by decide, by decide⟩ rfl rfl (Nat.le_of_ble_eq_true rfl) ⟨by decide, by decide⟩ dX12_song_26) (fun u10 h11 hf => ?_)
    refine gw_if_eq F (tgt := 43) dX12_song_29 (by decide) (sg_B_R h11) (fun c12 => ?_) (fun c12 => ?_)
    · have hf := hf.1 c12
      refine gw_bipush F rfl dX12_song_43 ?_
      exact gr_HI F (by decide) hf (by decide) (by decide) dX12_song_45
    · have hf := hf.2 c12
      refine gw_iload_n F 2 rfl rfl dX12_song_32 ?_
      refine gw_iconst F dX12_song_33 ?_
      refine gw_sipush F rfl dX12_song_34 ?_
      refine gk_PZ F (gc_S F (S := []) (As := [sg_i x1, sg_i 0, sg_i 200]) (CX12_isIn r1 (by decide) (by decide) hf) kw_1084 kw_103 kw_1082 kw_1083 hcX12_isIn ⟨by decide, by decide⟩ rfl rfl (Nat.le_of_ble_eq_true rfl) ⟨by decide, by decide⟩ dX12_song_37) (fun u13 h14 hf => ?_)
      refine gw_if_ne F (tgt := 46) dX12_song_40 (by decide) (sg_B_R h14) (fun c15 => ?_) (fun c15 => ?_)
      · have hf := hf.1 c15
        refine gw_iload_n F 0 rfl rfl dX12_song_46 ?_
        refine gw_iconst F dX12_song_47 ?_
        refine gw_idiv F h5 (by decide) (by decide) rfl dX12_song_48 ?_
        refine gw_istore_n F rfl (by decide) rfl dX12_song_49 ?_
        refine gw_iconst F dX12_song_50 ?_
        refine gw_istore_n F rfl (by decide) rfl dX12_song_51 ?_
        have L52 : ∀ (k111 : sg_M → Prop) (hk111 : ∀ (s_111e52 : sg_M), k111 s_111e52 → sg_W p l e (sg_rm 7 0 0) s m args below meth c (MQ below (sg_Q (some .int) G La s.heap.size (sg_HI La Q)) args s 0 0 (sg_A La s.heap.size)) 7 G (sg_A La s.heap.size) La s_111e52 0 0 111 [(0, sg_r 64), (1, sg_i x1), (2, sg_i (Int.tdiv u4 2))] []), ∀ n_52 : Nat, ∀ (s_52 : sg_M) (x3_52 : Int), sg_R x3_52 → fX12_song_L52 u4 Q k111 n_52 s_52 x3_52 → sg_W p l e (sg_rm 7 0 0) s m args below meth c (MQ below (sg_Q (some .int) G La s.heap.size (sg_HI La Q)) args s 0 0 (sg_A La s.heap.size)) 7 G (sg_A La s.heap.size) La s_52 0 0 52 [(0, sg_r 64), (1, sg_i x1), (2, sg_i (Int.tdiv u4 2)), (3, sg_i x3_52)] [] := by
          intro k111 hk111 n_52
          induction n_52 with
          | zero => intro s_52 x3_52 r3_52 hf; exact hf.elim
          | succ n_52 ih =>
            intro s_52 x3_52 r3_52 hf
            unfold fX12_song_L52 at hf
            refine gw_iload_n F 3 rfl rfl dX12_song_52 ?_
            refine gw_iload_n F 2 rfl rfl dX12_song_53 ?_
            obtain ⟨g16, hf⟩ := hf
            refine gw_icmp_ge F (tgt := 111) dX12_song_54 (by decide) r3_52 g16 (fun c17 => ?_) (fun c17 => ?_)
            · have hf := hf.1 c17
              refine gw_sub [0, 1, 2] rfl ?_
              exact hk111 s_52 hf
            · have hf := hf.2 c17
              refine gw_aload_n F 0 rfl rfl (by decide) dX12_song_57 ?_
              refine gw_get7 F (so_64 hst) (by decide) rfl sg_lay_RX12 (j := 47) (by decide) (o1 := 81) (by first | rfl | omega) rfl (host := "") (.inl kw_1003) dX12_song_58 (fun h18 => ?_)
              refine gw_iload_n F 3 rfl rfl dX12_song_61 ?_
              refine gw_sipush F rfl dX12_song_62 ?_
              refine gw_aload_n F 0 rfl rfl (by decide) dX12_song_65 ?_
              refine gw_get7 F (so_64 hst) (by decide) rfl sg_lay_RX12 (j := 1) (by decide) (o1 := 65) (by first | rfl | omega) rfl (host := "") (.inl kw_957) dX12_song_66 (fun h19 => ?_)
              refine gw_iconst F dX12_song_69 ?_
              refine gw_iload_n F 3 rfl rfl dX12_song_70 ?_
              refine gw_imul F rfl dX12_song_71 ?_
              obtain ⟨⟨b200, b201⟩, hf⟩ := hf
              refine gw_iald F (sa_65 hst) b200 b201 dX12_song_72 (fun h21 => ?_)
              refine gw_imul F rfl dX12_song_73 ?_
              refine gw_aload_n F 0 rfl rfl (by decide) dX12_song_74 ?_
              refine gw_get7 F (so_64 hst) (by decide) rfl sg_lay_RX12 (j := 1) (by decide) (o1 := 65) (by first | rfl | omega) rfl (host := "") (.inl kw_957) dX12_song_75 (fun h22 => ?_)
              refine gw_iconst F dX12_song_78 ?_
              refine gw_iload_n F 3 rfl rfl dX12_song_79 ?_
              refine gw_imul F rfl dX12_song_80 ?_
              refine gw_iconst F dX12_song_81 ?_
              refine gw_iadd F rfl dX12_song_82 ?_
              obtain ⟨⟨b230, b231⟩, hf⟩ := hf
              refine gw_iald F (sa_65 hst) b230 b231 dX12_song_83 (fun h24 => ?_)
              refine gw_iadd F rfl dX12_song_84 ?_
              obtain ⟨⟨b250, b251⟩, hf⟩ := hf
              obtain ⟨g26, hf⟩ := hf
              obtain ⟨v27, e28⟩ : ∃ z : Int, z = ((256 * (s_52 65 (2 * x3_52))) + (s_52 65 ((2 * x3_52) + 1))) := ⟨_, rfl⟩
              have hf := hf v27 e28
              refine gw_nmI e28 ?_
              obtain ⟨s29, e30⟩ : ∃ z : sg_M, z = sg_up s_52 81 x3_52 v27 := ⟨_, rfl⟩
              have hf := hf s29 e30
              refine gw_iast F (sa_81 hst) b250 b251 (e28 ▸ g26) e30 dX12_song_85 ?_
              refine gw_aload_n F 0 rfl rfl (by decide) dX12_song_86 ?_
              refine gw_get7 F (so_64 hst) (by decide) rfl sg_lay_RX12 (j := 47) (by decide) (o1 := 81) (by first | rfl | omega) rfl (host := "") (.inl kw_1003) dX12_song_87 (fun h31 => ?_)
              refine gw_iload_n F 3 rfl rfl dX12_song_90 ?_
              obtain ⟨⟨b320, b321⟩, hf⟩ := hf
              refine gw_iald F (sa_81 hst) b320 b321 dX12_song_91 (fun h33 => ?_)
              refine gw_iconst F dX12_song_92 ?_
              refine gw_sipush F rfl dX12_song_93 ?_
              refine gk_PZ F (gc_S F (S := []) (As := [sg_i (s29 81 x3_52), sg_i 1, sg_i 2000]) (CX12_isIn h33 (by decide) (by decide) hf) kw_1084 kw_103 kw_1082 kw_1083 hcX12_isIn ⟨by decide, by decide⟩ rfl rfl (Nat.le_of_ble_eq_true rfl) ⟨by decide, by decide⟩ dX12_song_96) (fun u34 h35 hf => ?_)
              refine gw_if_ne F (tgt := 105) dX12_song_99 (by decide) (sg_B_R h35) (fun c36 => ?_) (fun c36 => ?_)
              · have hf := hf.1 c36
                refine gw_iinc F (z := (x3_52 + 1)) 3 rfl (by omega) (by decide) rfl dX12_song_105 ?_
                refine gw_goto F (tgt := 52) dX12_song_108 (by decide) ?_
                obtain ⟨g37, hf⟩ := hf
                refine gw_sub [1, 2, 3, 0] rfl ?_
                exact ih s29 (x3_52 + 1) g37 hf
              · have hf := hf.2 c36
                refine gw_bipush F rfl dX12_song_102 ?_
                exact gr_HI F (by decide) hf (by decide) (by decide) dX12_song_104
        obtain ⟨n38, hf⟩ := hf
        refine gw_sub [2, 3, 1, 0] rfl ?_
        refine L52 _ (fun s_111e52 hf => ?_) n38 s6 0 (by decide) hf
        refine gw_aload_n F 0 rfl rfl (by decide) dX12_song_111 ?_
        refine gk_HV F (gc_V F (S := []) (As := []) (T := TX12) (N := 62) (CX12_sing hst hf) (so_64 hst) (by decide) rfl kw_1232 kw_103 kw_1230 kw_1231 kw_74 hcX12_sing ⟨by decide, by decide⟩ rfl rfl (Nat.le_of_ble_eq_true rfl) ⟨by decide, by decide⟩ dX12_song_112) (fun s39 hf => ?_)
        refine gw_iload_n F 2 rfl rfl dX12_song_115 ?_
        refine gw_iconst F dX12_song_116 ?_
        refine gw_isub F rfl dX12_song_117 ?_
        refine gw_istore_n F rfl (by decide) rfl dX12_song_118 ?_
        have L119 : ∀ (k302 : sg_M → Prop) (hk302 : ∀ (s_302e119 : sg_M), k302 s_302e119 → sg_W p l e (sg_rm 7 0 0) s m args below meth c (MQ below (sg_Q (some .int) G La s.heap.size (sg_HI La Q)) args s 0 0 (sg_A La s.heap.size)) 7 G (sg_A La s.heap.size) La s_302e119 0 0 302 [(0, sg_r 64), (2, sg_i (Int.tdiv u4 2))] []), ∀ n_119 : Nat, ∀ (s_119 : sg_M) (x3_119 : Int), sg_R x3_119 → fX12_song_L119 x1 u4 k302 n_119 s_119 x3_119 → sg_W p l e (sg_rm 7 0 0) s m args below meth c (MQ below (sg_Q (some .int) G La s.heap.size (sg_HI La Q)) args s 0 0 (sg_A La s.heap.size)) 7 G (sg_A La s.heap.size) La s_119 0 0 119 [(0, sg_r 64), (1, sg_i x1), (2, sg_i (Int.tdiv u4 2)), (3, sg_i x3_119)] [] := by
          intro k302 hk302 n_119
          induction n_119 with
          | zero => intro s_119 x3_119 r3_119 hf; exact hf.elim
          | succ n_119 ih =>
            intro s_119 x3_119 r3_119 hf
            unfold fX12_song_L119 at hf
            refine gw_iload_n F 3 rfl rfl dX12_song_119 ?_
            refine gw_if_lt F (tgt := 302) dX12_song_120 (by decide) r3_119 (fun c40 => ?_) (fun c40 => ?_)
            · have hf := hf.1 c40
              refine gw_sub [0, 2] rfl ?_
              exact hk302 s_119 hf
            · have hf := hf.2 c40
              refine gw_iconst F dX12_song_123 ?_
              refine gw_istore F (by decide) rfl dX12_song_124 ?_
              have L126 : ∀ (k296 : sg_M → Prop) (hk296 : ∀ (s_296e126 : sg_M), k296 s_296e126 → sg_W p l e (sg_rm 7 0 0) s m args below meth c (MQ below (sg_Q (some .int) G La s.heap.size (sg_HI La Q)) args s 0 0 (sg_A La s.heap.size)) 7 G (sg_A La s.heap.size) La s_296e126 0 0 296 [(0, sg_r 64), (1, sg_i x1), (2, sg_i (Int.tdiv u4 2)), (3, sg_i x3_119)] []), ∀ n_126 : Nat, ∀ (s_126 : sg_M) (x4_126 : Int), sg_R x4_126 → fX12_song_L126 x1 u4 x3_119 k296 n_126 s_126 x4_126 → sg_W p l e (sg_rm 7 0 0) s m args below meth c (MQ below (sg_Q (some .int) G La s.heap.size (sg_HI La Q)) args s 0 0 (sg_A La s.heap.size)) 7 G (sg_A La s.heap.size) La s_126 0 0 126 [(0, sg_r 64), (1, sg_i x1), (2, sg_i (Int.tdiv u4 2)), (3, sg_i x3_119), (4, sg_i x4_126)] [] := by
                intro k296 hk296 n_126
                induction n_126 with
                | zero => intro s_126 x4_126 r4_126 hf; exact hf.elim
                | succ n_126 ih =>
                  intro s_126 x4_126 r4_126 hf
                  unfold fX12_song_L126 at hf
                  refine gw_iload F 4 rfl dX12_song_126 ?_
                  refine gw_aload_n F 0 rfl rfl (by decide) dX12_song_128 ?_
                  refine gk_PI F (gc_V F (S := [sg_i x4_126]) (As := []) (T := TX12) (N := 62) (CX12_bends hst hf) (so_64 hst) (by decide) rfl kw_1212 kw_103 kw_1210 kw_1211 kw_70 hcX12_bends ⟨by decide, by decide⟩ rfl rfl (Nat.le_of_ble_eq_true rfl) ⟨by decide, by decide⟩ dX12_song_129) (fun u41 h42 hf => ?_)
                  refine gw_icmp_ge F (tgt := 296) dX12_song_132 (by decide) r4_126 h42 (fun c43 => ?_) (fun c43 => ?_)
                  · have hf := hf.1 c43
                    refine gw_sub [0, 1, 2, 3] rfl ?_
                    exact hk296 s_126 hf
                  · have hf := hf.2 c43
                    refine gw_iload_n F 3 rfl rfl dX12_song_135 ?_
                    refine gw_iload_n F 2 rfl rfl dX12_song_136 ?_
                    refine gw_iconst F dX12_song_137 ?_
                    refine gw_isub F rfl dX12_song_138 ?_
                    have J149 : ∀ (y0_149 : Int), sg_R y0_149 → (fX12_song_j149 x1 u4 x3_119 s_126 x4_126 (fX12_song_L126 x1 u4 x3_119 k296 n_126)) y0_149 → sg_W p l e (sg_rm 7 0 0) s m args below meth c (MQ below (sg_Q (some .int) G La s.heap.size (sg_HI La Q)) args s 0 0 (sg_A La s.heap.size)) 7 G (sg_A La s.heap.size) La s_126 0 0 149 [(0, sg_r 64), (1, sg_i x1), (2, sg_i (Int.tdiv u4 2)), (3, sg_i x3_119), (4, sg_i x4_126)] [sg_i y0_149] := by
                      intro y0_149 ry0_149 hf
                      unfold fX12_song_j149 at hf
                      refine gw_istore F (by decide) rfl dX12_song_149 ?_
                      refine gw_iconst F dX12_song_151 ?_
                      refine gw_istore F (by decide) rfl dX12_song_152 ?_
                      have L154 : ∀ (k249 : Int → Prop) (hk249 : ∀ (x5_249e154 : Int), sg_R x5_249e154 → k249 x5_249e154 → sg_W p l e (sg_rm 7 0 0) s m args below meth c (MQ below (sg_Q (some .int) G La s.heap.size (sg_HI La Q)) args s 0 0 (sg_A La s.heap.size)) 7 G (sg_A La s.heap.size) La s_126 0 0 249 [(0, sg_r 64), (1, sg_i x1), (2, sg_i (Int.tdiv u4 2)), (3, sg_i x3_119), (4, sg_i x4_126), (5, sg_i x5_249e154)] []), ∀ n_154 : Nat, ∀ (x5_154 : Int) (x6_154 : Int), sg_R x5_154 → sg_R x6_154 → fX12_song_L154 u4 x3_119 s_126 x4_126 k249 n_154 x5_154 x6_154 → sg_W p l e (sg_rm 7 0 0) s m args below meth c (MQ below (sg_Q (some .int) G La s.heap.size (sg_HI La Q)) args s 0 0 (sg_A La s.heap.size)) 7 G (sg_A La s.heap.size) La s_126 0 0 154 [(0, sg_r 64), (1, sg_i x1), (2, sg_i (Int.tdiv u4 2)), (3, sg_i x3_119), (4, sg_i x4_126), (5, sg_i x5_154), (6, sg_i x6_154)] [] := by
                        intro k249 hk249 n_154
                        induction n_154 with
                        | zero => intro x5_154 x6_154 r5_154 r6_154 hf; exact hf.elim
                        | succ n_154 ih =>
                          intro x5_154 x6_154 r5_154 r6_154 hf
                          unfold fX12_song_L154 at hf
                          refine gw_iload F 6 rfl dX12_song_154 ?_
                          refine gw_aload_n F 0 rfl rfl (by decide) dX12_song_156 ?_
                          refine gk_PI F (gc_V F (S := [sg_i x6_154]) (As := []) (T := TX12) (N := 62) (CX12_bends hst hf) (so_64 hst) (by decide) rfl kw_1212 kw_103 kw_1210 kw_1211 kw_70 hcX12_bends ⟨by decide, by decide⟩ rfl rfl (Nat.le_of_ble_eq_true rfl) ⟨by decide, by decide⟩ dX12_song_157) (fun u44 h45 hf => ?_)
                          refine gw_icmp_ge F (tgt := 249) dX12_song_160 (by decide) r6_154 h45 (fun c46 => ?_) (fun c46 => ?_)
                          · have hf := hf.1 c46
                            refine gw_sub [0, 1, 2, 3, 4, 5] rfl ?_
                            exact hk249 x5_154 r5_154 hf
                          · have hf := hf.2 c46
                            refine gw_iload_n F 3 rfl rfl dX12_song_163 ?_
                            refine gw_iload_n F 2 rfl rfl dX12_song_164 ?_
                            refine gw_iconst F dX12_song_165 ?_
                            refine gw_isub F rfl dX12_song_166 ?_
                            obtain ⟨g47, hf⟩ := hf
                            refine gw_icmp_ge F (tgt := 249) dX12_song_167 (by decide) r3_119 g47 (fun c48 => ?_) (fun c48 => ?_)
                            · have hf := hf.1 c48
                              refine gw_sub [0, 1, 2, 3, 4, 5] rfl ?_
                              exact hk249 x5_154 r5_154 hf
                            · have hf := hf.2 c48
                              refine gw_aload_n F 0 rfl rfl (by decide) dX12_song_170 ?_
                              refine gw_get7 F (so_64 hst) (by decide) rfl sg_lay_RX12 (j := 48) (by decide) (o1 := 82) (by first | rfl | omega) rfl (host := "") (.inl kw_1004) dX12_song_171 (fun h49 => ?_)
                              refine gw_bipush F rfl dX12_song_174 ?_
                              refine gw_iload_n F 3 rfl rfl dX12_song_176 ?_
                              refine gw_iconst F dX12_song_177 ?_
                              refine gw_iadd F rfl dX12_song_178 ?_
                              refine gw_imul F rfl dX12_song_179 ?_
                              refine gw_iload F 6 rfl dX12_song_180 ?_
                              refine gw_iadd F rfl dX12_song_182 ?_
                              obtain ⟨⟨b500, b501⟩, hf⟩ := hf
                              refine gw_iald F (sa_82 hst) b500 b501 dX12_song_183 (fun h51 => ?_)
                              refine gw_ldcw F (n := 100000000) kw_1237 rfl dX12_song_184 ?_
                              have J243 : ∀ (x5_243 : Int), sg_R x5_243 → (fX12_song_j243 x6_154 (fX12_song_L154 u4 x3_119 s_126 x4_126 k249 n_154)) x5_243 → sg_W p l e (sg_rm 7 0 0) s m args below meth c (MQ below (sg_Q (some .int) G La s.heap.size (sg_HI La Q)) args s 0 0 (sg_A La s.heap.size)) 7 G (sg_A La s.heap.size) La s_126 0 0 243 [(0, sg_r 64), (1, sg_i x1), (2, sg_i (Int.tdiv u4 2)), (3, sg_i x3_119), (4, sg_i x4_126), (5, sg_i x5_243), (6, sg_i x6_154)] [] := by
                                intro x5_243 r5_243 hf
                                unfold fX12_song_j243 at hf
                                refine gw_iinc F (z := (x6_154 + 1)) 6 rfl (by omega) (by decide) rfl dX12_song_243 ?_
                                refine gw_goto F (tgt := 154) dX12_song_246 (by decide) ?_
                                obtain ⟨g52, hf⟩ := hf
                                refine gw_sub [1, 2, 3, 4, 5, 6, 0] rfl ?_
                                exact ih x5_243 (x6_154 + 1) r5_243 g52 hf
                              refine gw_icmp_ge F (tgt := 243) dX12_song_187 (by decide) h51 (by decide) (fun c53 => ?_) (fun c53 => ?_)
                              · have hf := hf.1 c53
                                refine gw_sub [0, 1, 2, 3, 4, 5, 6] rfl ?_
                                exact J243 x5_154 r5_154 hf
                              · have hf := hf.2 c53
                                refine gw_aload_n F 0 rfl rfl (by decide) dX12_song_190 ?_
                                refine gw_iload F 4 rfl dX12_song_191 ?_
                                refine gw_iload F 6 rfl dX12_song_193 ?_
                                refine gk_PI F (gc_V F (S := []) (As := [sg_i x4_126, sg_i x6_154]) (T := TX12) (N := 62) (CX12_way hst r4_126 r6_154 hf) (so_64 hst) (by decide) rfl kw_1240 kw_103 kw_1238 kw_1239 kw_75 hcX12_way ⟨by decide, by decide⟩ rfl rfl (Nat.le_of_ble_eq_true rfl) ⟨by decide, by decide⟩ dX12_song_195) (fun u54 h55 hf => ?_)
                                refine gw_aload_n F 0 rfl rfl (by decide) dX12_song_198 ?_
                                refine gw_get7 F (so_64 hst) (by decide) rfl sg_lay_RX12 (j := 48) (by decide) (o1 := 82) (by first | rfl | omega) rfl (host := "") (.inl kw_1004) dX12_song_199 (fun h56 => ?_)
                                refine gw_bipush F rfl dX12_song_202 ?_
                                refine gw_iload_n F 3 rfl rfl dX12_song_204 ?_
                                refine gw_iconst F dX12_song_205 ?_
                                refine gw_iadd F rfl dX12_song_206 ?_
                                refine gw_imul F rfl dX12_song_207 ?_
                                refine gw_iload F 6 rfl dX12_song_208 ?_
                                refine gw_iadd F rfl dX12_song_210 ?_
                                obtain ⟨⟨b570, b571⟩, hf⟩ := hf
                                refine gw_iald F (sa_82 hst) b570 b571 dX12_song_211 (fun h58 => ?_)
                                refine gw_iadd F rfl dX12_song_212 ?_
                                refine gw_iload F 5 rfl dX12_song_213 ?_
                                obtain ⟨g59, hf⟩ := hf
                                refine gw_icmp_ge F (tgt := 243) dX12_song_215 (by decide) g59 r5_154 (fun c60 => ?_) (fun c60 => ?_)
                                · have hf := hf.1 c60
                                  refine gw_sub [0, 1, 2, 3, 4, 5, 6] rfl ?_
                                  exact J243 x5_154 r5_154 hf
                                · have hf := hf.2 c60
                                  refine gw_aload_n F 0 rfl rfl (by decide) dX12_song_218 ?_
                                  refine gw_iload F 4 rfl dX12_song_219 ?_
                                  refine gw_iload F 6 rfl dX12_song_221 ?_
                                  refine gk_PI F (gc_V F (S := []) (As := [sg_i x4_126, sg_i x6_154]) (T := TX12) (N := 62) (CX12_way hst r4_126 r6_154 hf) (so_64 hst) (by decide) rfl kw_1240 kw_103 kw_1238 kw_1239 kw_75 hcX12_way ⟨by decide, by decide⟩ rfl rfl (Nat.le_of_ble_eq_true rfl) ⟨by decide, by decide⟩ dX12_song_223) (fun u61 h62 hf => ?_)
                                  refine gw_aload_n F 0 rfl rfl (by decide) dX12_song_226 ?_
                                  refine gw_get7 F (so_64 hst) (by decide) rfl sg_lay_RX12 (j := 48) (by decide) (o1 := 82) (by first | rfl | omega) rfl (host := "") (.inl kw_1004) dX12_song_227 (fun h63 => ?_)
                                  refine gw_bipush F rfl dX12_song_230 ?_
                                  refine gw_iload_n F 3 rfl rfl dX12_song_232 ?_
                                  refine gw_iconst F dX12_song_233 ?_
                                  refine gw_iadd F rfl dX12_song_234 ?_
                                  refine gw_imul F rfl dX12_song_235 ?_
                                  refine gw_iload F 6 rfl dX12_song_236 ?_
                                  refine gw_iadd F rfl dX12_song_238 ?_
                                  obtain ⟨⟨b640, b641⟩, hf⟩ := hf
                                  refine gw_iald F (sa_82 hst) b640 b641 dX12_song_239 (fun h65 => ?_)
                                  refine gw_iadd F rfl dX12_song_240 ?_
                                  obtain ⟨v66, e67⟩ : ∃ z : Int, z = (u61 + (s_126 82 ((40 * (x3_119 + 1)) + x6_154))) := ⟨_, rfl⟩
                                  obtain ⟨g68, hf⟩ := hf v66 e67
                                  refine gw_nmI e67 ?_
                                  refine gw_istore F (by decide) rfl dX12_song_241 ?_
                                  refine gw_sub [1, 2, 3, 4, 5, 0, 6] rfl ?_
                                  exact J243 v66 g68 hf
                      obtain ⟨n69, hf⟩ := hf
                      refine gw_sub [2, 3, 4, 5, 6, 1, 0] rfl ?_
                      refine L154 _ (fun x5_249e154 r5_249e154 hf => ?_) n69 y0_149 0 ry0_149 (by decide) hf
                      refine gw_aload_n F 0 rfl rfl (by decide) dX12_song_249 ?_
                      refine gw_get7 F (so_64 hst) (by decide) rfl sg_lay_RX12 (j := 48) (by decide) (o1 := 82) (by first | rfl | omega) rfl (host := "") (.inl kw_1004) dX12_song_250 (fun h70 => ?_)
                      refine gw_bipush F rfl dX12_song_253 ?_
                      refine gw_iload_n F 3 rfl rfl dX12_song_255 ?_
                      refine gw_imul F rfl dX12_song_256 ?_
                      refine gw_iload F 4 rfl dX12_song_257 ?_
                      refine gw_iadd F rfl dX12_song_259 ?_
                      refine gw_aload_n F 0 rfl rfl (by decide) dX12_song_260 ?_
                      refine gw_aload_n F 0 rfl rfl (by decide) dX12_song_261 ?_
                      refine gw_get7 F (so_64 hst) (by decide) rfl sg_lay_RX12 (j := 46) (by decide) (o1 := 80) (by first | rfl | omega) rfl (host := "") (.inl kw_1002) dX12_song_262 (fun h71 => ?_)
                      refine gw_iload F 4 rfl dX12_song_265 ?_
                      obtain ⟨⟨b720, b721⟩, hf⟩ := hf
                      refine gw_iald F (sa_80 hst) b720 b721 dX12_song_267 (fun h73 => ?_)
                      refine gw_aload_n F 0 rfl rfl (by decide) dX12_song_268 ?_
                      refine gw_get7 F (so_64 hst) (by decide) rfl sg_lay_RX12 (j := 47) (by decide) (o1 := 81) (by first | rfl | omega) rfl (host := "") (.inl kw_1003) dX12_song_269 (fun h74 => ?_)
                      refine gw_iload_n F 3 rfl rfl dX12_song_272 ?_
                      obtain ⟨⟨b750, b751⟩, hf⟩ := hf
                      refine gw_iald F (sa_81 hst) b750 b751 dX12_song_273 (fun h76 => ?_)
                      refine gw_iload_n F 1 rfl rfl dX12_song_274 ?_
                      refine gk_PZ F (gc_V F (S := [sg_i ((40 * x3_119) + x4_126), sg_r 82]) (As := [sg_i (s_126 80 x4_126), sg_i (s_126 81 x3_119), sg_i x1]) (T := TX12) (N := 62) (CX12_isNear hst h73 h76 r1 hf) (so_64 hst) (by decide) rfl kw_1246 kw_103 kw_1244 kw_1245 kw_76 hcX12_isNear ⟨by decide, by decide⟩ rfl rfl (Nat.le_of_ble_eq_true rfl) ⟨by decide, by decide⟩ dX12_song_275) (fun u77 h78 hf => ?_)
                      have J289 : ∀ (y0_289 : Int), sg_R y0_289 → (fX12_song_j289 x3_119 s_126 x4_126 (fX12_song_L126 x1 u4 x3_119 k296 n_126)) y0_289 → sg_W p l e (sg_rm 7 0 0) s m args below meth c (MQ below (sg_Q (some .int) G La s.heap.size (sg_HI La Q)) args s 0 0 (sg_A La s.heap.size)) 7 G (sg_A La s.heap.size) La s_126 0 0 289 [(0, sg_r 64), (1, sg_i x1), (2, sg_i (Int.tdiv u4 2)), (3, sg_i x3_119), (4, sg_i x4_126)] [sg_i y0_289, sg_i ((40 * x3_119) + x4_126), sg_r 82] := by
                        intro y0_289 ry0_289 hf
                        unfold fX12_song_j289 at hf
                        obtain ⟨⟨b790, b791⟩, hf⟩ := hf
                        obtain ⟨s80, e81⟩ : ∃ z : sg_M, z = sg_up s_126 82 ((40 * x3_119) + x4_126) y0_289 := ⟨_, rfl⟩
                        have hf := hf s80 e81
                        refine gw_iast F (sa_82 hst) b790 b791 ry0_289 e81 dX12_song_289 ?_
                        refine gw_iinc F (z := (x4_126 + 1)) 4 rfl (by omega) (by decide) rfl dX12_song_290 ?_
                        refine gw_goto F (tgt := 126) dX12_song_293 (by decide) ?_
                        obtain ⟨g82, hf⟩ := hf
                        refine gw_sub [1, 2, 3, 4, 0] rfl ?_
                        exact ih s80 (x4_126 + 1) g82 hf
                      refine gw_if_eq F (tgt := 286) dX12_song_278 (by decide) (sg_B_R h78) (fun c83 => ?_) (fun c83 => ?_)
                      · have hf := hf.1 c83
                        refine gw_ldcw F (n := 100000000) kw_1237 rfl dX12_song_286 ?_
                        refine gw_sub [0, 1, 2, 3, 4] rfl ?_
                        exact J289 100000000 (by decide) hf
                      · have hf := hf.2 c83
                        refine gw_iload F 5 rfl dX12_song_281 ?_
                        refine gw_goto F (tgt := 289) dX12_song_283 (by decide) ?_
                        refine gw_sub [0, 1, 2, 3, 4] rfl ?_
                        exact J289 x5_249e154 r5_249e154 hf
                    obtain ⟨g84, hf⟩ := hf
                    refine gw_icmp_ne F (tgt := 146) dX12_song_139 (by decide) r3_119 g84 (fun c85 => ?_) (fun c85 => ?_)
                    · have hf := hf.1 c85
                      refine gw_ldcw F (n := 100000000) kw_1237 rfl dX12_song_146 ?_
                      refine gw_sub [0, 1, 2, 3, 4] rfl ?_
                      exact J149 100000000 (by decide) hf
                    · have hf := hf.2 c85
                      refine gw_iconst F dX12_song_142 ?_
                      refine gw_goto F (tgt := 149) dX12_song_143 (by decide) ?_
                      refine gw_sub [0, 1, 2, 3, 4] rfl ?_
                      exact J149 0 (by decide) hf
              obtain ⟨n86, hf⟩ := hf
              refine gw_sub [1, 2, 3, 4, 0] rfl ?_
              refine L126 _ (fun s_296e126 hf => ?_) n86 s_119 0 (by decide) hf
              refine gw_iinc F (z := (x3_119 - 1)) 3 rfl (by omega) (by decide) rfl dX12_song_296 ?_
              refine gw_goto F (tgt := 119) dX12_song_299 (by decide) ?_
              obtain ⟨g87, hf⟩ := hf
              refine gw_sub [1, 2, 3, 0] rfl ?_
              exact ih s_296e126 (x3_119 - 1) g87 hf
        obtain ⟨g88, hf⟩ := hf
        obtain ⟨n89, hf⟩ := hf
        refine gw_sub [1, 2, 3, 0] rfl ?_
        refine L119 _ (fun s_302e119 hf => ?_) n89 s39 ((Int.tdiv u4 2) - 1) g88 hf
        refine gw_iconst F dX12_song_302 ?_
        refine gw_istore_n F rfl (by decide) rfl dX12_song_303 ?_
        refine gw_iconst F dX12_song_304 ?_
        refine gw_istore F (by decide) rfl dX12_song_305 ?_
        have L307 : ∀ (k359 : Int → Prop) (hk359 : ∀ (x3_359e307 : Int), sg_R x3_359e307 → k359 x3_359e307 → sg_W p l e (sg_rm 7 0 0) s m args below meth c (MQ below (sg_Q (some .int) G La s.heap.size (sg_HI La Q)) args s 0 0 (sg_A La s.heap.size)) 7 G (sg_A La s.heap.size) La s_302e119 0 0 359 [(0, sg_r 64), (2, sg_i (Int.tdiv u4 2)), (3, sg_i x3_359e307)] []), ∀ n_307 : Nat, ∀ (x3_307 : Int) (x4_307 : Int), sg_R x3_307 → sg_R x4_307 → fX12_song_L307 s_302e119 k359 n_307 x3_307 x4_307 → sg_W p l e (sg_rm 7 0 0) s m args below meth c (MQ below (sg_Q (some .int) G La s.heap.size (sg_HI La Q)) args s 0 0 (sg_A La s.heap.size)) 7 G (sg_A La s.heap.size) La s_302e119 0 0 307 [(0, sg_r 64), (2, sg_i (Int.tdiv u4 2)), (3, sg_i x3_307), (4, sg_i x4_307)] [] := by
          intro k359 hk359 n_307
          induction n_307 with
          | zero => intro x3_307 x4_307 r3_307 r4_307 hf; exact hf.elim
          | succ n_307 ih =>
            intro x3_307 x4_307 r3_307 r4_307 hf
            unfold fX12_song_L307 at hf
            refine gw_iload F 3 rfl dX12_song_307 ?_
            refine gw_aload_n F 0 rfl rfl (by decide) dX12_song_309 ?_
            refine gk_PI F (gc_V F (S := [sg_i x4_307]) (As := []) (T := TX12) (N := 62) (CX12_bends hst hf) (so_64 hst) (by decide) rfl kw_1212 kw_103 kw_1210 kw_1211 kw_70 hcX12_bends ⟨by decide, by decide⟩ rfl rfl (Nat.le_of_ble_eq_true rfl) ⟨by decide, by decide⟩ dX12_song_310) (fun u90 h91 hf => ?_)
            refine gw_icmp_ge F (tgt := 359) dX12_song_313 (by decide) r4_307 h91 (fun c92 => ?_) (fun c92 => ?_)
            · have hf := hf.1 c92
              refine gw_sub [0, 1, 2] rfl ?_
              exact hk359 x3_307 r3_307 hf
            · have hf := hf.2 c92
              refine gw_aload_n F 0 rfl rfl (by decide) dX12_song_316 ?_
              refine gw_get7 F (so_64 hst) (by decide) rfl sg_lay_RX12 (j := 48) (by decide) (o1 := 82) (by first | rfl | omega) rfl (host := "") (.inl kw_1004) dX12_song_317 (fun h93 => ?_)
              refine gw_iload F 3 rfl dX12_song_320 ?_
              obtain ⟨⟨b940, b941⟩, hf⟩ := hf
              refine gw_iald F (sa_82 hst) b940 b941 dX12_song_322 (fun h95 => ?_)
              refine gw_ldcw F (n := 100000000) kw_1237 rfl dX12_song_323 ?_
              have J353 : ∀ (x3_353 : Int), sg_R x3_353 → (fX12_song_j353 x4_307 (fX12_song_L307 s_302e119 k359 n_307)) x3_353 → sg_W p l e (sg_rm 7 0 0) s m args below meth c (MQ below (sg_Q (some .int) G La s.heap.size (sg_HI La Q)) args s 0 0 (sg_A La s.heap.size)) 7 G (sg_A La s.heap.size) La s_302e119 0 0 353 [(0, sg_r 64), (2, sg_i (Int.tdiv u4 2)), (3, sg_i x3_353), (4, sg_i x4_307)] [] := by
                intro x3_353 r3_353 hf
                unfold fX12_song_j353 at hf
                refine gw_iinc F (z := (x4_307 + 1)) 3 rfl (by omega) (by decide) rfl dX12_song_353 ?_
                refine gw_goto F (tgt := 307) dX12_song_356 (by decide) ?_
                obtain ⟨g96, hf⟩ := hf
                refine gw_sub [1, 2, 3, 0] rfl ?_
                exact ih x3_353 (x4_307 + 1) r3_353 g96 hf
              refine gw_icmp_ge F (tgt := 353) dX12_song_326 (by decide) h95 (by decide) (fun c97 => ?_) (fun c97 => ?_)
              · have hf := hf.1 c97
                refine gw_sub [0, 1, 2, 3] rfl ?_
                exact J353 x3_307 r3_307 hf
              · have hf := hf.2 c97
                refine gw_iload_n F 2 rfl rfl dX12_song_329 ?_
                refine gw_iconst F dX12_song_330 ?_
                have J350 : (fX12_song_j350 x4_307 (fX12_song_j353 x4_307 (fX12_song_L307 s_302e119 k359 n_307))) → sg_W p l e (sg_rm 7 0 0) s m args below meth c (MQ below (sg_Q (some .int) G La s.heap.size (sg_HI La Q)) args s 0 0 (sg_A La s.heap.size)) 7 G (sg_A La s.heap.size) La s_302e119 0 0 350 [(0, sg_r 64), (2, sg_i (Int.tdiv u4 2)), (4, sg_i x4_307)] [] := by
                  intro hf
                  unfold fX12_song_j350 at hf
                  refine gw_iload F 2 rfl dX12_song_350 ?_
                  refine gw_istore_n F rfl (by decide) rfl dX12_song_352 ?_
                  refine gw_sub [1, 2, 0, 3] rfl ?_
                  exact J353 x4_307 r4_307 hf
                refine gw_icmp_eq F (tgt := 350) dX12_song_331 (by decide) r3_307 (by decide) (fun c98 => ?_) (fun c98 => ?_)
                · have hf := hf.1 c98
                  refine gw_sub [0, 1, 3] rfl ?_
                  exact J350  hf
                · have hf := hf.2 c98
                  refine gw_aload_n F 0 rfl rfl (by decide) dX12_song_334 ?_
                  refine gw_get7 F (so_64 hst) (by decide) rfl sg_lay_RX12 (j := 48) (by decide) (o1 := 82) (by first | rfl | omega) rfl (host := "") (.inl kw_1004) dX12_song_335 (fun h99 => ?_)
                  refine gw_iload F 3 rfl dX12_song_338 ?_
                  obtain ⟨⟨b1000, b1001⟩, hf⟩ := hf
                  refine gw_iald F (sa_82 hst) b1000 b1001 dX12_song_340 (fun h101 => ?_)
                  refine gw_aload_n F 0 rfl rfl (by decide) dX12_song_341 ?_
                  refine gw_get7 F (so_64 hst) (by decide) rfl sg_lay_RX12 (j := 48) (by decide) (o1 := 82) (by first | rfl | omega) rfl (host := "") (.inl kw_1004) dX12_song_342 (fun h102 => ?_)
                  refine gw_iload_n F 2 rfl rfl dX12_song_345 ?_
                  obtain ⟨⟨b1030, b1031⟩, hf⟩ := hf
                  refine gw_iald F (sa_82 hst) b1030 b1031 dX12_song_346 (fun h104 => ?_)
                  refine gw_icmp_ge F (tgt := 353) dX12_song_347 (by decide) h101 h104 (fun c105 => ?_) (fun c105 => ?_)
                  · have hf := hf.1 c105
                    refine gw_sub [0, 1, 2, 3] rfl ?_
                    exact J353 x3_307 r3_307 hf
                  · have hf := hf.2 c105
                    refine gw_sub [0, 1, 3] rfl ?_
                    exact J350  hf
        obtain ⟨n106, hf⟩ := hf
        refine gw_sub [2, 3, 1, 0] rfl ?_
        refine L307 _ (fun x3_359e307 r3_359e307 hf => ?_) n106 (-1) 0 (by decide) (by decide) hf
        refine gw_iload_n F 2 rfl rfl dX12_song_359 ?_
        refine gw_iconst F dX12_song_360 ?_
        refine gw_icmp_ne F (tgt := 366) dX12_song_361 (by decide) r3_359e307 (by decide) (fun c107 => ?_) (fun c107 => ?_)
        · have hf := hf.1 c107
          refine gw_aload_n F 0 rfl rfl (by decide) dX12_song_366 ?_
          refine gw_iload_n F 1 rfl rfl dX12_song_367 ?_
          obtain ⟨g108, hf⟩ := hf
          obtain ⟨s109, e110⟩ : ∃ z : sg_M, z = sg_up s_302e119 64 50 (Int.tdiv u4 2) := ⟨_, rfl⟩
          have hf := hf s109 e110
          refine gw_put0 F (so_64 hst) (by decide) rfl sg_lay_RX12 (j := 50) (by decide) g108 e110 tyX12_ok nmX12 rfl (tyX12_ok 50 (by decide)) rfl (host := "") (.inl kw_1006) dX12_song_368 ?_
          refine gw_aload_n F 0 rfl rfl (by decide) dX12_song_371 ?_
          refine gw_get7 F (so_64 hst) (by decide) rfl sg_lay_RX12 (j := 49) (by decide) (o1 := 83) (by first | rfl | omega) rfl (host := "") (.inl kw_1005) dX12_song_372 (fun h111 => ?_)
          refine gw_iconst F dX12_song_375 ?_
          refine gw_iload_n F 2 rfl rfl dX12_song_376 ?_
          obtain ⟨s112, e113⟩ : ∃ z : sg_M, z = sg_up s109 83 0 x3_359e307 := ⟨_, rfl⟩
          have hf := hf s112 e113
          refine gw_iast F (sa_83 hst) (by decide) (by decide) r3_359e307 e113 dX12_song_377 ?_
          refine gw_iconst F dX12_song_378 ?_
          refine gw_istore F (by decide) rfl dX12_song_379 ?_
          have L381 : ∀ n_381 : Nat, ∀ (s_381 : sg_M) (x4_381 : Int), sg_R x4_381 → fX12_song_L381 u4 x3_359e307 Q n_381 s_381 x4_381 → sg_W p l e (sg_rm 7 0 0) s m args below meth c (MQ below (sg_Q (some .int) G La s.heap.size (sg_HI La Q)) args s 0 0 (sg_A La s.heap.size)) 7 G (sg_A La s.heap.size) La s_381 0 0 381 [(0, sg_r 64), (2, sg_i (Int.tdiv u4 2)), (3, sg_i x3_359e307), (4, sg_i x4_381)] [] := by
            intro n_381
            induction n_381 with
            | zero => intro s_381 x4_381 r4_381 hf; exact hf.elim
            | succ n_381 ih =>
              intro s_381 x4_381 r4_381 hf
              unfold fX12_song_L381 at hf
              refine gw_iload F 3 rfl dX12_song_381 ?_
              refine gw_iload_n F 1 rfl rfl dX12_song_383 ?_
              refine gw_icmp_ge F (tgt := 481) dX12_song_384 (by decide) r4_381 g108 (fun c114 => ?_) (fun c114 => ?_)
              · have hf := hf.1 c114
                refine gw_aload_n F 0 rfl rfl (by decide) dX12_song_481 ?_
                refine gw_get7 F (so_64 hst) (by decide) rfl sg_lay_RX12 (j := 48) (by decide) (o1 := 82) (by first | rfl | omega) rfl (host := "") (.inl kw_1004) dX12_song_482 (fun h115 => ?_)
                refine gw_iload_n F 2 rfl rfl dX12_song_485 ?_
                obtain ⟨⟨b1160, b1161⟩, hf⟩ := hf
                refine gw_iald F (sa_82 hst) b1160 b1161 dX12_song_486 (fun h117 => ?_)
                exact gr_HI F h117 hf (by decide) (by decide) dX12_song_487
              · have hf := hf.2 c114
                refine gw_aload_n F 0 rfl rfl (by decide) dX12_song_387 ?_
                refine gw_get7 F (so_64 hst) (by decide) rfl sg_lay_RX12 (j := 49) (by decide) (o1 := 83) (by first | rfl | omega) rfl (host := "") (.inl kw_1005) dX12_song_388 (fun h118 => ?_)
                refine gw_iload F 3 rfl dX12_song_391 ?_
                refine gw_iconst F dX12_song_393 ?_
                refine gw_isub F rfl dX12_song_394 ?_
                obtain ⟨⟨b1190, b1191⟩, hf⟩ := hf
                refine gw_iald F (sa_83 hst) b1190 b1191 dX12_song_395 (fun h120 => ?_)
                refine gw_istore F (by decide) rfl dX12_song_396 ?_
                refine gw_iconst F dX12_song_398 ?_
                refine gw_istore F (by decide) rfl dX12_song_399 ?_
                have L401 : ∀ (k466 : Int → Prop) (hk466 : ∀ (x6_466e401 : Int), sg_R x6_466e401 → k466 x6_466e401 → sg_W p l e (sg_rm 7 0 0) s m args below meth c (MQ below (sg_Q (some .int) G La s.heap.size (sg_HI La Q)) args s 0 0 (sg_A La s.heap.size)) 7 G (sg_A La s.heap.size) La s_381 0 0 466 [(0, sg_r 64), (2, sg_i (Int.tdiv u4 2)), (3, sg_i x3_359e307), (4, sg_i x4_381), (6, sg_i x6_466e401)] []), ∀ n_401 : Nat, ∀ (x6_401 : Int), sg_R x6_401 → fX12_song_L401 s_381 x4_381 k466 n_401 x6_401 → sg_W p l e (sg_rm 7 0 0) s m args below meth c (MQ below (sg_Q (some .int) G La s.heap.size (sg_HI La Q)) args s 0 0 (sg_A La s.heap.size)) 7 G (sg_A La s.heap.size) La s_381 0 0 401 [(0, sg_r 64), (2, sg_i (Int.tdiv u4 2)), (3, sg_i x3_359e307), (4, sg_i x4_381), (5, sg_i (s_381 83 (x4_381 - 1))), (6, sg_i x6_401)] [] := by
                  intro k466 hk466 n_401
                  induction n_401 with
                  | zero => intro x6_401 r6_401 hf; exact hf.elim
                  | succ n_401 ih =>
                    intro x6_401 r6_401 hf
                    unfold fX12_song_L401 at hf
                    refine gw_aload_n F 0 rfl rfl (by decide) dX12_song_401 ?_
                    refine gw_get7 F (so_64 hst) (by decide) rfl sg_lay_RX12 (j := 48) (by decide) (o1 := 82) (by first | rfl | omega) rfl (host := "") (.inl kw_1004) dX12_song_402 (fun h121 => ?_)
                    refine gw_bipush F rfl dX12_song_405 ?_
                    refine gw_iload F 3 rfl dX12_song_407 ?_
                    refine gw_imul F rfl dX12_song_409 ?_
                    refine gw_iload F 5 rfl dX12_song_410 ?_
                    refine gw_iadd F rfl dX12_song_412 ?_
                    obtain ⟨⟨b1220, b1221⟩, hf⟩ := hf
                    refine gw_iald F (sa_82 hst) b1220 b1221 dX12_song_413 (fun h123 => ?_)
                    refine gw_ldcw F (n := 100000000) kw_1237 rfl dX12_song_414 ?_
                    have J460 : (fX12_song_j460 x6_401 (fX12_song_L401 s_381 x4_381 k466 n_401)) → sg_W p l e (sg_rm 7 0 0) s m args below meth c (MQ below (sg_Q (some .int) G La s.heap.size (sg_HI La Q)) args s 0 0 (sg_A La s.heap.size)) 7 G (sg_A La s.heap.size) La s_381 0 0 460 [(0, sg_r 64), (2, sg_i (Int.tdiv u4 2)), (3, sg_i x3_359e307), (4, sg_i x4_381), (5, sg_i (s_381 83 (x4_381 - 1))), (6, sg_i x6_401)] [] := by
                      intro hf
                      unfold fX12_song_j460 at hf
                      refine gw_iinc F (z := (x6_401 + 1)) 5 rfl (by omega) (by decide) rfl dX12_song_460 ?_
                      refine gw_goto F (tgt := 401) dX12_song_463 (by decide) ?_
                      obtain ⟨g124, hf⟩ := hf
                      refine gw_sub [1, 2, 3, 4, 5, 0] rfl ?_
                      exact ih (x6_401 + 1) g124 hf
                    refine gw_icmp_eq F (tgt := 460) dX12_song_417 (by decide) h123 (by decide) (fun c125 => ?_) (fun c125 => ?_)
                    · have hf := hf.1 c125
                      refine gw_sub [0, 1, 2, 3, 4, 5] rfl ?_
                      exact J460  hf
                    · have hf := hf.2 c125
                      refine gw_aload_n F 0 rfl rfl (by decide) dX12_song_420 ?_
                      refine gw_iload F 4 rfl dX12_song_421 ?_
                      refine gw_iload F 5 rfl dX12_song_423 ?_
                      refine gk_PI F (gc_V F (S := []) (As := [sg_i (s_381 83 (x4_381 - 1)), sg_i x6_401]) (T := TX12) (N := 62) (CX12_way hst h120 r6_401 hf) (so_64 hst) (by decide) rfl kw_1240 kw_103 kw_1238 kw_1239 kw_75 hcX12_way ⟨by decide, by decide⟩ rfl rfl (Nat.le_of_ble_eq_true rfl) ⟨by decide, by decide⟩ dX12_song_425) (fun u126 h127 hf => ?_)
                      refine gw_aload_n F 0 rfl rfl (by decide) dX12_song_428 ?_
                      refine gw_get7 F (so_64 hst) (by decide) rfl sg_lay_RX12 (j := 48) (by decide) (o1 := 82) (by first | rfl | omega) rfl (host := "") (.inl kw_1004) dX12_song_429 (fun h128 => ?_)
                      refine gw_bipush F rfl dX12_song_432 ?_
                      refine gw_iload F 3 rfl dX12_song_434 ?_
                      refine gw_imul F rfl dX12_song_436 ?_
                      refine gw_iload F 5 rfl dX12_song_437 ?_
                      refine gw_iadd F rfl dX12_song_439 ?_
                      obtain ⟨⟨b1290, b1291⟩, hf⟩ := hf
                      refine gw_iald F (sa_82 hst) b1290 b1291 dX12_song_440 (fun h130 => ?_)
                      refine gw_iadd F rfl dX12_song_441 ?_
                      refine gw_aload_n F 0 rfl rfl (by decide) dX12_song_442 ?_
                      refine gw_get7 F (so_64 hst) (by decide) rfl sg_lay_RX12 (j := 48) (by decide) (o1 := 82) (by first | rfl | omega) rfl (host := "") (.inl kw_1004) dX12_song_443 (fun h131 => ?_)
                      refine gw_bipush F rfl dX12_song_446 ?_
                      refine gw_iload F 3 rfl dX12_song_448 ?_
                      refine gw_iconst F dX12_song_450 ?_
                      refine gw_isub F rfl dX12_song_451 ?_
                      refine gw_imul F rfl dX12_song_452 ?_
                      refine gw_iload F 4 rfl dX12_song_453 ?_
                      refine gw_iadd F rfl dX12_song_455 ?_
                      obtain ⟨⟨b1320, b1321⟩, hf⟩ := hf
                      refine gw_iald F (sa_82 hst) b1320 b1321 dX12_song_456 (fun h133 => ?_)
                      obtain ⟨g134, hf⟩ := hf
                      refine gw_icmp_eq F (tgt := 466) dX12_song_457 (by decide) g134 h133 (fun c135 => ?_) (fun c135 => ?_)
                      · have hf := hf.1 c135
                        refine gw_sub [0, 1, 2, 3, 5] rfl ?_
                        exact hk466 x6_401 r6_401 hf
                      · have hf := hf.2 c135
                        refine gw_sub [0, 1, 2, 3, 4, 5] rfl ?_
                        exact J460  hf
                obtain ⟨n136, hf⟩ := hf
                refine gw_sub [2, 3, 4, 5, 1, 0] rfl ?_
                refine L401 _ (fun x6_466e401 r6_466e401 hf => ?_) n136 0 (by decide) hf
                refine gw_aload_n F 0 rfl rfl (by decide) dX12_song_466 ?_
                refine gw_get7 F (so_64 hst) (by decide) rfl sg_lay_RX12 (j := 49) (by decide) (o1 := 83) (by first | rfl | omega) rfl (host := "") (.inl kw_1005) dX12_song_467 (fun h137 => ?_)
                refine gw_iload F 3 rfl dX12_song_470 ?_
                refine gw_iload F 4 rfl dX12_song_472 ?_
                obtain ⟨⟨b1380, b1381⟩, hf⟩ := hf
                obtain ⟨s139, e140⟩ : ∃ z : sg_M, z = sg_up s_381 83 x4_381 x6_466e401 := ⟨_, rfl⟩
                have hf := hf s139 e140
                refine gw_iast F (sa_83 hst) b1380 b1381 r6_466e401 e140 dX12_song_474 ?_
                refine gw_iinc F (z := (x4_381 + 1)) 3 rfl (by omega) (by decide) rfl dX12_song_475 ?_
                refine gw_goto F (tgt := 381) dX12_song_478 (by decide) ?_
                obtain ⟨g141, hf⟩ := hf
                refine gw_sub [1, 2, 3, 0] rfl ?_
                exact ih s139 (x4_381 + 1) g141 hf
          obtain ⟨n142, hf⟩ := hf
          refine gw_sub [1, 2, 3, 0] rfl ?_
          refine L381   n142 s112 1 (by decide) hf
        · have hf := hf.2 c107
          refine gw_iconst F dX12_song_364 ?_
          exact gr_HI F (by decide) hf (by decide) (by decide) dX12_song_365
      · have hf := hf.2 c15
        refine gw_bipush F rfl dX12_song_43 ?_
        exact gr_HI F (by decide) hf (by decide) (by decide) dX12_song_45

theorem dX12_bend_0 : decode cX12_bend 0 = .ok (.aload_n 0, 1) := by decide +kernel
theorem dX12_bend_1 : decode cX12_bend 1 = .ok (.invokevirtual 175, 3) := by decide +kernel
theorem dX12_bend_4 : decode cX12_bend 4 = .ok (.iload_n 1, 1) := by decide +kernel
theorem dX12_bend_5 : decode cX12_bend 5 = .ok (.iload_n 2, 1) := by decide +kernel
theorem dX12_bend_6 : decode cX12_bend 6 = .ok (.invokestatic 232, 3) := by decide +kernel
theorem dX12_bend_9 : decode cX12_bend 9 = .ok (.ifCond .eq 25, 3) := by decide +kernel
theorem dX12_bend_12 : decode cX12_bend 12 = .ok (.iload_n 3, 1) := by decide +kernel
theorem dX12_bend_13 : decode cX12_bend 13 = .ok (.ifCond .lt 21, 3) := by decide +kernel
theorem dX12_bend_16 : decode cX12_bend 16 = .ok (.iload_n 3, 1) := by decide +kernel
theorem dX12_bend_17 : decode cX12_bend 17 = .ok (.aload_n 0, 1) := by decide +kernel
theorem dX12_bend_18 : decode cX12_bend 18 = .ok (.invokevirtual 202, 3) := by decide +kernel
theorem dX12_bend_21 : decode cX12_bend 21 = .ok (.if_icmp .ge 13, 3) := by decide +kernel
theorem dX12_bend_24 : decode cX12_bend 24 = .ok (.iload 4, 2) := by decide +kernel
theorem dX12_bend_26 : decode cX12_bend 26 = .ok (.iconst 0, 1) := by decide +kernel
theorem dX12_bend_27 : decode cX12_bend 27 = .ok (.iconst 1, 1) := by decide +kernel
theorem dX12_bend_28 : decode cX12_bend 28 = .ok (.invokestatic 155, 3) := by decide +kernel
theorem dX12_bend_31 : decode cX12_bend 31 = .ok (.ifCond .ne 8, 3) := by decide +kernel
theorem dX12_bend_34 : decode cX12_bend 34 = .ok (.aload_n 0, 1) := by decide +kernel
theorem dX12_bend_35 : decode cX12_bend 35 = .ok (.invokevirtual 205, 3) := by decide +kernel
theorem dX12_bend_38 : decode cX12_bend 38 = .ok (.ireturn, 1) := by decide +kernel
theorem dX12_bend_39 : decode cX12_bend 39 = .ok (.aload_n 0, 1) := by decide +kernel
theorem dX12_bend_40 : decode cX12_bend 40 = .ok (.iconst 0, 1) := by decide +kernel
theorem dX12_bend_41 : decode cX12_bend 41 = .ok (.putfield 84, 3) := by decide +kernel
theorem dX12_bend_44 : decode cX12_bend 44 = .ok (.aload_n 0, 1) := by decide +kernel
theorem dX12_bend_45 : decode cX12_bend 45 = .ok (.iconst 0, 1) := by decide +kernel
theorem dX12_bend_46 : decode cX12_bend 46 = .ok (.iload_n 1, 1) := by decide +kernel
theorem dX12_bend_47 : decode cX12_bend 47 = .ok (.iload_n 2, 1) := by decide +kernel
theorem dX12_bend_48 : decode cX12_bend 48 = .ok (.iconst 0, 1) := by decide +kernel
theorem dX12_bend_49 : decode cX12_bend 49 = .ok (.iconst 0, 1) := by decide +kernel
theorem dX12_bend_50 : decode cX12_bend 50 = .ok (.invokevirtual 235, 3) := by decide +kernel
theorem dX12_bend_53 : decode cX12_bend 53 = .ok (.iload 4, 2) := by decide +kernel
theorem dX12_bend_55 : decode cX12_bend 55 = .ok (.ifCond .ne 12, 3) := by decide +kernel
theorem dX12_bend_58 : decode cX12_bend 58 = .ok (.aload_n 0, 1) := by decide +kernel
theorem dX12_bend_59 : decode cX12_bend 59 = .ok (.getfield 32, 3) := by decide +kernel
theorem dX12_bend_62 : decode cX12_bend 62 = .ok (.iload_n 3, 1) := by decide +kernel
theorem dX12_bend_63 : decode cX12_bend 63 = .ok (.iaload, 1) := by decide +kernel
theorem dX12_bend_64 : decode cX12_bend 64 = .ok (.goto 9, 3) := by decide +kernel
theorem dX12_bend_67 : decode cX12_bend 67 = .ok (.aload_n 0, 1) := by decide +kernel
theorem dX12_bend_68 : decode cX12_bend 68 = .ok (.getfield 38, 3) := by decide +kernel
theorem dX12_bend_71 : decode cX12_bend 71 = .ok (.iload_n 3, 1) := by decide +kernel
theorem dX12_bend_72 : decode cX12_bend 72 = .ok (.iaload, 1) := by decide +kernel
theorem dX12_bend_73 : decode cX12_bend 73 = .ok (.ireturn, 1) := by decide +kernel
theorem hcX12_bend : yX12_bend.cls ≠ "java/lang/invoke/MethodHandle" ∧ yX12_bend.cls ≠ "java/lang/invoke/VarHandle" ∧ (parseMethodDescriptor yX12_bend.desc).map (fun d => d.parameters.length) = some 4 := ⟨by decide +kernel, by decide +kernel, by decide +kernel⟩
def fX12_bend (s0 : sg_M) (x1 : Int) (x2 : Int) (x3 : Int) (x4 : Int) (Q : Int → sg_M → Prop) : Prop := fX12_lay s0 (fun s1 => fX12_isBend x1 x2 (fun u2 => ((u2 = 0 → fX12_refuse s1 (fun u5 s7 => Q u5 s7)) ∧ (¬ (u2 = 0) → ((x3 < 0 → fX12_refuse s1 (fun u9 s11 => Q u9 s11)) ∧ (¬ (x3 < 0) → fX12_pieces s1 (fun u12 => ((u12 ≤ x3 → fX12_refuse s1 (fun u15 s17 => Q u15 s17)) ∧ (¬ (u12 ≤ x3) → fX12_isIn x4 0 1 (fun u18 => ((u18 ≠ 0 → ∀ s21 : sg_M, s21 = sg_up s1 64 0 0 → fX12_layBend s21 0 x1 x2 0 0 (fun s23 => ((x4 ≠ 0 → (0 ≤ x3 ∧ x3 < 60) ∧ Q (s23 74 x3) s23) ∧ (x4 = 0 → (0 ≤ x3 ∧ x3 < 60) ∧ Q (s23 72 x3) s23)))) ∧ (u18 = 0 → fX12_refuse s1 (fun u31 s33 => Q u31 s33)))))))))))))
set_option maxHeartbeats 4000000 in
set_option maxRecDepth 100000 in
theorem CX12_bend {l : Launch} {G : sg_G} {La : sg_L} {s0 : sg_M} (hst : sg_St La) {x1 : Int} (r1 : sg_R x1) {x2 : Int} (r2 : sg_R x2) {x3 : Int} (r3 : sg_R x3) {x4 : Int} (r4 : sg_R x4) {Q : Int → sg_M → Prop} (hf : fX12_bend s0 x1 x2 x3 x4 Q) : sg_C l G yX12_bend cX12_bend 5 (some .int) 3 0 0 La s0 [sg_r 64, sg_i x1, sg_i x2, sg_i x3, sg_i x4] (sg_HI La Q) := by
  refine sg_body (by decide +kernel) (Nat.le_of_ble_eq_true rfl) ?_
  intro p e s m args below meth c F hnm
  unfold fX12_bend at hf
  show sg_W p l e (sg_rm 3 0 0) s m args below meth c (MQ below (sg_Q (some .int) G La s.heap.size (sg_HI La Q)) args s 0 0 (sg_A La s.heap.size)) 5 G (sg_A La s.heap.size) La s0 0 0 0 [(0, sg_r 64), (1, sg_i x1), (2, sg_i x2), (3, sg_i x3), (4, sg_i x4)] []
  refine gw_aload_n F 0 rfl rfl (by decide) dX12_bend_0 ?_
  refine gk_HV F (gc_V F (S := []) (As := []) (T := TX12) (N := 62) (CX12_lay hst hf) (so_64 hst) (by decide) rfl kw_1043 kw_103 kw_1041 kw_1042 kw_41 hcX12_lay ⟨by decide, by decide⟩ rfl rfl (Nat.le_of_ble_eq_true rfl) ⟨by decide, by decide⟩ dX12_bend_1) (fun s1 hf => ?_)
  refine gw_iload_n F 1 rfl rfl dX12_bend_4 ?_
  refine gw_iload_n F 2 rfl rfl dX12_bend_5 ?_
  refine gk_PZ F (gc_S F (S := []) (As := [sg_i x1, sg_i x2]) (CX12_isBend r1 r2 hf) kw_1117 kw_103 kw_1115 kw_1116 hcX12_isBend ⟨by decide, by decide⟩ rfl rfl (Nat.le_of_ble_eq_true rfl) ⟨by decide, by decide⟩ dX12_bend_6) (fun u2 h3 hf => ?_)
  refine gw_if_eq F (tgt := 34) dX12_bend_9 (by decide) (sg_B_R h3) (fun c4 => ?_) (fun c4 => ?_)
  · have hf := hf.1 c4
    refine gw_aload_n F 0 rfl rfl (by decide) dX12_bend_34 ?_
    refine gk_HI F (gc_V F (S := []) (As := []) (T := TX12) (N := 62) (CX12_refuse hst hf) (so_64 hst) (by decide) rfl kw_1107 kw_103 kw_1105 kw_1106 kw_53 hcX12_refuse ⟨by decide, by decide⟩ rfl rfl (Nat.le_of_ble_eq_true rfl) ⟨by decide, by decide⟩ dX12_bend_35) (fun u5 s7 h6 hf => ?_)
    exact gr_HI F h6 hf (by decide) (by decide) dX12_bend_38
  · have hf := hf.2 c4
    refine gw_iload_n F 3 rfl rfl dX12_bend_12 ?_
    refine gw_if_lt F (tgt := 34) dX12_bend_13 (by decide) r3 (fun c8 => ?_) (fun c8 => ?_)
    · have hf := hf.1 c8
      refine gw_aload_n F 0 rfl rfl (by decide) dX12_bend_34 ?_
      refine gk_HI F (gc_V F (S := []) (As := []) (T := TX12) (N := 62) (CX12_refuse hst hf) (so_64 hst) (by decide) rfl kw_1107 kw_103 kw_1105 kw_1106 kw_53 hcX12_refuse ⟨by decide, by decide⟩ rfl rfl (Nat.le_of_ble_eq_true rfl) ⟨by decide, by decide⟩ dX12_bend_35) (fun u9 s11 h10 hf => ?_)
      exact gr_HI F h10 hf (by decide) (by decide) dX12_bend_38
    · have hf := hf.2 c8
      refine gw_iload_n F 3 rfl rfl dX12_bend_16 ?_
      refine gw_aload_n F 0 rfl rfl (by decide) dX12_bend_17 ?_
      refine gk_PI F (gc_V F (S := [sg_i x3]) (As := []) (T := TX12) (N := 62) (CX12_pieces hst hf) (so_64 hst) (by decide) rfl kw_1104 kw_103 kw_1102 kw_1103 kw_52 hcX12_pieces ⟨by decide, by decide⟩ rfl rfl (Nat.le_of_ble_eq_true rfl) ⟨by decide, by decide⟩ dX12_bend_18) (fun u12 h13 hf => ?_)
      refine gw_icmp_ge F (tgt := 34) dX12_bend_21 (by decide) r3 h13 (fun c14 => ?_) (fun c14 => ?_)
      · have hf := hf.1 c14
        refine gw_aload_n F 0 rfl rfl (by decide) dX12_bend_34 ?_
        refine gk_HI F (gc_V F (S := []) (As := []) (T := TX12) (N := 62) (CX12_refuse hst hf) (so_64 hst) (by decide) rfl kw_1107 kw_103 kw_1105 kw_1106 kw_53 hcX12_refuse ⟨by decide, by decide⟩ rfl rfl (Nat.le_of_ble_eq_true rfl) ⟨by decide, by decide⟩ dX12_bend_35) (fun u15 s17 h16 hf => ?_)
        exact gr_HI F h16 hf (by decide) (by decide) dX12_bend_38
      · have hf := hf.2 c14
        refine gw_iload F 4 rfl dX12_bend_24 ?_
        refine gw_iconst F dX12_bend_26 ?_
        refine gw_iconst F dX12_bend_27 ?_
        refine gk_PZ F (gc_S F (S := []) (As := [sg_i x4, sg_i 0, sg_i 1]) (CX12_isIn r4 (by decide) (by decide) hf) kw_1084 kw_103 kw_1082 kw_1083 hcX12_isIn ⟨by decide, by decide⟩ rfl rfl (Nat.le_of_ble_eq_true rfl) ⟨by decide, by decide⟩ dX12_bend_28) (fun u18 h19 hf => ?_)
        refine gw_if_ne F (tgt := 39) dX12_bend_31 (by decide) (sg_B_R h19) (fun c20 => ?_) (fun c20 => ?_)
        · have hf := hf.1 c20
          refine gw_aload_n F 0 rfl rfl (by decide) dX12_bend_39 ?_
          refine gw_iconst F dX12_bend_40 ?_
          obtain ⟨s21, e22⟩ : ∃ z : sg_M, z = sg_up s1 64 0 0 := ⟨_, rfl⟩
          have hf := hf s21 e22
          refine gw_put0 F (so_64 hst) (by decide) rfl sg_lay_RX12 (j := 0) (by decide) (by decide) e22 tyX12_ok nmX12 rfl (tyX12_ok 0 (by decide)) rfl (host := "") (.inl kw_956) dX12_bend_41 ?_
          refine gw_aload_n F 0 rfl rfl (by decide) dX12_bend_44 ?_
          refine gw_iconst F dX12_bend_45 ?_
          refine gw_iload_n F 1 rfl rfl dX12_bend_46 ?_
          refine gw_iload_n F 2 rfl rfl dX12_bend_47 ?_
          refine gw_iconst F dX12_bend_48 ?_
          refine gw_iconst F dX12_bend_49 ?_
          refine gk_HV F (gc_V F (S := []) (As := [sg_i 0, sg_i x1, sg_i x2, sg_i 0, sg_i 0]) (T := TX12) (N := 62) (CX12_layBend hst (by decide) r1 r2 (by decide) (by decide) hf) (so_64 hst) (by decide) rfl kw_1120 kw_103 kw_1118 kw_1119 kw_55 hcX12_layBend ⟨by decide, by decide⟩ rfl rfl (Nat.le_of_ble_eq_true rfl) ⟨by decide, by decide⟩ dX12_bend_50) (fun s23 hf => ?_)
          refine gw_iload F 4 rfl dX12_bend_53 ?_
          refine gw_if_ne F (tgt := 67) dX12_bend_55 (by decide) r4 (fun c24 => ?_) (fun c24 => ?_)
          · have hf := hf.1 c24
            refine gw_aload_n F 0 rfl rfl (by decide) dX12_bend_67 ?_
            refine gw_get7 F (so_64 hst) (by decide) rfl sg_lay_RX12 (j := 24) (by decide) (o1 := 74) (by first | rfl | omega) rfl (host := "") (.inl kw_980) dX12_bend_68 (fun h25 => ?_)
            refine gw_iload_n F 3 rfl rfl dX12_bend_71 ?_
            obtain ⟨⟨b260, b261⟩, hf⟩ := hf
            refine gw_iald F (sa_74 hst) b260 b261 dX12_bend_72 (fun h27 => ?_)
            exact gr_HI F h27 hf (by decide) (by decide) dX12_bend_73
          · have hf := hf.2 c24
            refine gw_aload_n F 0 rfl rfl (by decide) dX12_bend_58 ?_
            refine gw_get7 F (so_64 hst) (by decide) rfl sg_lay_RX12 (j := 22) (by decide) (o1 := 72) (by first | rfl | omega) rfl (host := "") (.inl kw_978) dX12_bend_59 (fun h28 => ?_)
            refine gw_iload_n F 3 rfl rfl dX12_bend_62 ?_
            obtain ⟨⟨b290, b291⟩, hf⟩ := hf
            refine gw_iald F (sa_72 hst) b290 b291 dX12_bend_63 (fun h30 => ?_)
            refine gw_goto F (tgt := 73) dX12_bend_64 (by decide) ?_
            exact gr_HI F h30 hf (by decide) (by decide) dX12_bend_73
        · have hf := hf.2 c20
          refine gw_aload_n F 0 rfl rfl (by decide) dX12_bend_34 ?_
          refine gk_HI F (gc_V F (S := []) (As := []) (T := TX12) (N := 62) (CX12_refuse hst hf) (so_64 hst) (by decide) rfl kw_1107 kw_103 kw_1105 kw_1106 kw_53 hcX12_refuse ⟨by decide, by decide⟩ rfl rfl (Nat.le_of_ble_eq_true rfl) ⟨by decide, by decide⟩ dX12_bend_35) (fun u31 s33 h32 hf => ?_)
          exact gr_HI F h32 hf (by decide) (by decide) dX12_bend_38
