theorem dX9_skipSign_0 : decode cX9_skipSign 0 = .ok (.aload_n 0, 1) := by decide +kernel
theorem dX9_skipSign_1 : decode cX9_skipSign 1 = .ok (.iload_n 1, 1) := by decide +kernel
theorem dX9_skipSign_2 : decode cX9_skipSign 2 = .ok (.invokevirtual 75, 3) := by decide +kernel
theorem dX9_skipSign_5 : decode cX9_skipSign 5 = .ok (.istore_n 2, 1) := by decide +kernel
theorem dX9_skipSign_6 : decode cX9_skipSign 6 = .ok (.iload_n 2, 1) := by decide +kernel
theorem dX9_skipSign_7 : decode cX9_skipSign 7 = .ok (.ifCond .eq 7, 3) := by decide +kernel
theorem dX9_skipSign_10 : decode cX9_skipSign 10 = .ok (.aload_n 0, 1) := by decide +kernel
theorem dX9_skipSign_11 : decode cX9_skipSign 11 = .ok (.invokevirtual 35, 3) := by decide +kernel
theorem dX9_skipSign_14 : decode cX9_skipSign 14 = .ok (.iload_n 2, 1) := by decide +kernel
theorem dX9_skipSign_15 : decode cX9_skipSign 15 = .ok (.ireturn, 1) := by decide +kernel
theorem hcX9_skipSign : yX9_skipSign.cls ≠ "java/lang/invoke/MethodHandle" ∧ yX9_skipSign.cls ≠ "java/lang/invoke/VarHandle" ∧ (parseMethodDescriptor yX9_skipSign.desc).map (fun d => d.parameters.length) = some 1 := ⟨by decide +kernel, by decide +kernel, by decide +kernel⟩
def fX9_skipSign (s0 : sg_M) (x1 : Int) (Q : Int → sg_M → Prop) : Prop := fX9_isSign s0 x1 (fun u1 => ((u1 = 0 → Q u1 s0) ∧ (¬ (u1 = 0) → fX9_advance s0 (fun s4 => Q u1 s4))))
set_option maxHeartbeats 4000000 in
set_option maxRecDepth 100000 in
theorem CX9_skipSign {l : Launch} {G : sg_G} {La : sg_L} {s0 : sg_M} (hst : sg_St La) {x1 : Int} (r1 : sg_R x1) {Q : Int → sg_M → Prop} (hf : fX9_skipSign s0 x1 Q) : sg_C l G yX9_skipSign cX9_skipSign 3 (some .boolean) 3 0 0 La s0 [sg_r 3, sg_i x1] (sg_HZ La Q) := by
  refine sg_body (by decide +kernel) (Nat.le_of_ble_eq_true rfl) ?_
  intro p e s m args below meth c F hnm
  unfold fX9_skipSign at hf
  show sg_W p l e (sg_rm 3 0 0) s m args below meth c (MQ below (sg_Q (some .boolean) G La s.heap.size (sg_HZ La Q)) args s 0 0 (sg_A La s.heap.size)) 3 G (sg_A La s.heap.size) La s0 0 0 0 [(0, sg_r 3), (1, sg_i x1)] []
  refine gw_aload_n F 0 rfl rfl (by decide) dX9_skipSign_0 ?_
  refine gw_iload_n F 1 rfl rfl dX9_skipSign_1 ?_
  refine gk_PZ F (gc_V F (S := []) (As := [sg_i x1]) (T := TX9) (N := 8) (CX9_isSign hst r1 hf) (so_3 hst) (by decide) rfl kw_468 kw_92 kw_465 kw_466 kw_467 hcX9_isSign ⟨by decide, by decide⟩ rfl rfl (Nat.le_of_ble_eq_true rfl) ⟨by decide, by decide⟩ dX9_skipSign_2) (fun u1 h2 hf => ?_)
  refine gw_istore_n F rfl (by decide) rfl dX9_skipSign_5 ?_
  refine gw_iload_n F 0 rfl rfl dX9_skipSign_6 ?_
  refine gw_if_eq F (tgt := 14) dX9_skipSign_7 (by decide) (sg_B_R h2) (fun c3 => ?_) (fun c3 => ?_)
  · have hf := hf.1 c3
    refine gw_iload_n F 0 rfl rfl dX9_skipSign_14 ?_
    exact gr_HZ F h2 hf (by decide) (by decide) dX9_skipSign_15
  · have hf := hf.2 c3
    refine gw_aload_n F 1 rfl rfl (by decide) dX9_skipSign_10 ?_
    refine gk_HV F (gc_V F (S := []) (As := []) (T := TX9) (N := 8) (CX9_advance hst hf) (so_3 hst) (by decide) rfl kw_368 kw_92 kw_365 kw_366 kw_367 hcX9_advance ⟨by decide, by decide⟩ rfl rfl (Nat.le_of_ble_eq_true rfl) ⟨by decide, by decide⟩ dX9_skipSign_11) (fun s4 hf => ?_)
    refine gw_iload_n F 0 rfl rfl dX9_skipSign_14 ?_
    exact gr_HZ F h2 hf (by decide) (by decide) dX9_skipSign_15

theorem dX1_readPieces_0 : decode cX1_readPieces 0 = .ok (.aload_n 1, 1) := by decide +kernel
theorem dX1_readPieces_1 : decode cX1_readPieces 1 = .ok (.iconst 1, 1) := by decide +kernel
theorem dX1_readPieces_2 : decode cX1_readPieces 2 = .ok (.bipush 60, 2) := by decide +kernel
theorem dX1_readPieces_4 : decode cX1_readPieces 4 = .ok (.bipush 60, 2) := by decide +kernel
theorem dX1_readPieces_6 : decode cX1_readPieces 6 = .ok (.aload_n 0, 1) := by decide +kernel
theorem dX1_readPieces_7 : decode cX1_readPieces 7 = .ok (.getfield 24, 3) := by decide +kernel
theorem dX1_readPieces_10 : decode cX1_readPieces 10 = .ok (.isub, 1) := by decide +kernel
theorem dX1_readPieces_11 : decode cX1_readPieces 11 = .ok (.invokevirtual 100, 3) := by decide +kernel
theorem dX1_readPieces_14 : decode cX1_readPieces 14 = .ok (.istore_n 2, 1) := by decide +kernel
theorem dX1_readPieces_15 : decode cX1_readPieces 15 = .ok (.aload_n 1, 1) := by decide +kernel
theorem dX1_readPieces_16 : decode cX1_readPieces 16 = .ok (.iconst 1, 1) := by decide +kernel
theorem dX1_readPieces_17 : decode cX1_readPieces 17 = .ok (.bipush 99, 2) := by decide +kernel
theorem dX1_readPieces_19 : decode cX1_readPieces 19 = .ok (.bipush 99, 2) := by decide +kernel
theorem dX1_readPieces_21 : decode cX1_readPieces 21 = .ok (.invokevirtual 100, 3) := by decide +kernel
theorem dX1_readPieces_24 : decode cX1_readPieces 24 = .ok (.istore_n 3, 1) := by decide +kernel
theorem dX1_readPieces_25 : decode cX1_readPieces 25 = .ok (.aload_n 1, 1) := by decide +kernel
theorem dX1_readPieces_26 : decode cX1_readPieces 26 = .ok (.iconst 1, 1) := by decide +kernel
theorem dX1_readPieces_27 : decode cX1_readPieces 27 = .ok (.bipush 20, 2) := by decide +kernel
theorem dX1_readPieces_29 : decode cX1_readPieces 29 = .ok (.bipush 20, 2) := by decide +kernel
theorem dX1_readPieces_31 : decode cX1_readPieces 31 = .ok (.invokevirtual 100, 3) := by decide +kernel
theorem dX1_readPieces_34 : decode cX1_readPieces 34 = .ok (.istore 4, 2) := by decide +kernel
theorem dX1_readPieces_36 : decode cX1_readPieces 36 = .ok (.bipush 9, 2) := by decide +kernel
theorem dX1_readPieces_38 : decode cX1_readPieces 38 = .ok (.iload_n 3, 1) := by decide +kernel
theorem dX1_readPieces_39 : decode cX1_readPieces 39 = .ok (.iconst 1, 1) := by decide +kernel
theorem dX1_readPieces_40 : decode cX1_readPieces 40 = .ok (.isub, 1) := by decide +kernel
theorem dX1_readPieces_41 : decode cX1_readPieces 41 = .ok (.invokestatic 103, 3) := by decide +kernel
theorem dX1_readPieces_44 : decode cX1_readPieces 44 = .ok (.istore 5, 2) := by decide +kernel
theorem dX1_readPieces_46 : decode cX1_readPieces 46 = .ok (.aload_n 1, 1) := by decide +kernel
theorem dX1_readPieces_47 : decode cX1_readPieces 47 = .ok (.ldc 106, 2) := by decide +kernel
theorem dX1_readPieces_49 : decode cX1_readPieces 49 = .ok (.invokevirtual 81, 3) := by decide +kernel
theorem dX1_readPieces_52 : decode cX1_readPieces 52 = .ok (.ifCond .eq 15, 3) := by decide +kernel
theorem dX1_readPieces_55 : decode cX1_readPieces 55 = .ok (.aload_n 1, 1) := by decide +kernel
theorem dX1_readPieces_56 : decode cX1_readPieces 56 = .ok (.iconst 0, 1) := by decide +kernel
theorem dX1_readPieces_57 : decode cX1_readPieces 57 = .ok (.iload 5, 2) := by decide +kernel
theorem dX1_readPieces_59 : decode cX1_readPieces 59 = .ok (.iload 5, 2) := by decide +kernel
theorem dX1_readPieces_61 : decode cX1_readPieces 61 = .ok (.invokevirtual 100, 3) := by decide +kernel
theorem dX1_readPieces_64 : decode cX1_readPieces 64 = .ok (.goto 4, 3) := by decide +kernel
theorem dX1_readPieces_67 : decode cX1_readPieces 67 = .ok (.iconst 0, 1) := by decide +kernel
theorem dX1_readPieces_68 : decode cX1_readPieces 68 = .ok (.istore 6, 2) := by decide +kernel
theorem dX1_readPieces_70 : decode cX1_readPieces 70 = .ok (.aload_n 1, 1) := by decide +kernel
theorem dX1_readPieces_71 : decode cX1_readPieces 71 = .ok (.ldc 107, 2) := by decide +kernel
theorem dX1_readPieces_73 : decode cX1_readPieces 73 = .ok (.invokevirtual 81, 3) := by decide +kernel
theorem dX1_readPieces_76 : decode cX1_readPieces 76 = .ok (.ifCond .eq 24, 3) := by decide +kernel
theorem dX1_readPieces_79 : decode cX1_readPieces 79 = .ok (.aload_n 1, 1) := by decide +kernel
theorem dX1_readPieces_80 : decode cX1_readPieces 80 = .ok (.bipush 45, 2) := by decide +kernel
theorem dX1_readPieces_82 : decode cX1_readPieces 82 = .ok (.invokevirtual 109, 3) := by decide +kernel
theorem dX1_readPieces_85 : decode cX1_readPieces 85 = .ok (.aload_n 1, 1) := by decide +kernel
theorem dX1_readPieces_86 : decode cX1_readPieces 86 = .ok (.iconst 0, 1) := by decide +kernel
theorem dX1_readPieces_87 : decode cX1_readPieces 87 = .ok (.bipush 99, 2) := by decide +kernel
theorem dX1_readPieces_89 : decode cX1_readPieces 89 = .ok (.bipush 99, 2) := by decide +kernel
theorem dX1_readPieces_91 : decode cX1_readPieces 91 = .ok (.invokevirtual 100, 3) := by decide +kernel
theorem dX1_readPieces_94 : decode cX1_readPieces 94 = .ok (.invokestatic 112, 3) := by decide +kernel
theorem dX1_readPieces_97 : decode cX1_readPieces 97 = .ok (.goto 4, 3) := by decide +kernel
theorem dX1_readPieces_100 : decode cX1_readPieces 100 = .ok (.iconst 0, 1) := by decide +kernel
theorem dX1_readPieces_101 : decode cX1_readPieces 101 = .ok (.istore 7, 2) := by decide +kernel
theorem dX1_readPieces_103 : decode cX1_readPieces 103 = .ok (.aload_n 1, 1) := by decide +kernel
theorem dX1_readPieces_104 : decode cX1_readPieces 104 = .ok (.getfield 116, 3) := by decide +kernel
theorem dX1_readPieces_107 : decode cX1_readPieces 107 = .ok (.ifCond .ne 15, 3) := by decide +kernel
theorem dX1_readPieces_110 : decode cX1_readPieces 110 = .ok (.aload_n 0, 1) := by decide +kernel
theorem dX1_readPieces_111 : decode cX1_readPieces 111 = .ok (.iload_n 2, 1) := by decide +kernel
theorem dX1_readPieces_112 : decode cX1_readPieces 112 = .ok (.iload_n 3, 1) := by decide +kernel
theorem dX1_readPieces_113 : decode cX1_readPieces 113 = .ok (.iload 4, 2) := by decide +kernel
theorem dX1_readPieces_115 : decode cX1_readPieces 115 = .ok (.iload 6, 2) := by decide +kernel
theorem dX1_readPieces_117 : decode cX1_readPieces 117 = .ok (.iload 7, 2) := by decide +kernel
theorem dX1_readPieces_119 : decode cX1_readPieces 119 = .ok (.invokevirtual 34, 3) := by decide +kernel
theorem dX1_readPieces_122 : decode cX1_readPieces 122 = .ok (.return_, 1) := by decide +kernel
theorem hcX1_readPieces : yX1_readPieces.cls ≠ "java/lang/invoke/MethodHandle" ∧ yX1_readPieces.cls ≠ "java/lang/invoke/VarHandle" ∧ (parseMethodDescriptor yX1_readPieces.desc).map (fun d => d.parameters.length) = some 1 := ⟨by decide +kernel, by decide +kernel, by decide +kernel⟩
def fX1_readPieces_j101 (o : Int) (u3 : Int) (u6 : Int) (u9 : Int) (y0_68 : Int) (Q : sg_M → Prop) (s_101 : sg_M) (y0_101 : Int) : Prop := (((s_101 3 6) ≠ 0 → Q s_101) ∧ ((s_101 3 6) = 0 → fX1_addAlike s_101 o u3 u6 u9 y0_68 y0_101 (fun s21 => Q s21)))
def fX1_readPieces_j68 (o : Int) (u3 : Int) (u6 : Int) (u9 : Int) (Q : sg_M → Prop) (s_68 : sg_M) (y0_68 : Int) : Prop := fX9_skipWord s_68 2 (fun u16 s18 => ((u16 = 0 → (fX1_readPieces_j101 o u3 u6 u9 y0_68 Q) s18 0) ∧ (¬ (u16 = 0) → fX9_skipSign s18 45 (fun u23 s25 => fX9_number s25 0 99 99 (fun u26 s28 => fX11_signed u23 u26 (fun u29 => (fX1_readPieces_j101 o u3 u6 u9 y0_68 Q) s28 u29))))))
def fX1_readPieces (s0 : sg_M) (o : Int) (Q : sg_M → Prop) : Prop := sg_R (60 - (s0 o 4)) ∧ fX9_number s0 1 60 (60 - (s0 o 4)) (fun u3 s5 => fX9_number s5 1 99 99 (fun u6 s8 => fX9_number s8 1 20 20 (fun u9 s11 => sg_R (u6 - 1) ∧ fX9_skipWord s11 1 (fun u13 s15 => ((u13 = 0 → (fX1_readPieces_j68 o u3 u6 u9 Q) s15 0) ∧ (¬ (u13 = 0) → fX9_number s15 0 (sg_min 9 (u6 - 1)) (sg_min 9 (u6 - 1)) (fun u32 s34 => (fX1_readPieces_j68 o u3 u6 u9 Q) s34 u32)))))))
set_option maxHeartbeats 4000000 in
set_option maxRecDepth 100000 in
theorem CX1_readPieces {l : Launch} {G : sg_G} {La : sg_L} {s0 : sg_M} (hst : sg_St La) {o : Int} (to : sg_O La o 1) {Q : sg_M → Prop} (hf : fX1_readPieces s0 o Q) : sg_C l G yX1_readPieces cX1_readPieces 8 (none) 7 0 0 La s0 [sg_r o, sg_r 3] (sg_HV La Q) := by
  refine sg_body (by decide +kernel) (Nat.le_of_ble_eq_true rfl) ?_
  intro p e s m args below meth c F hnm
  unfold fX1_readPieces at hf
  show sg_W p l e (sg_rm 7 0 0) s m args below meth c (MQ below (sg_Q (none) G La s.heap.size (sg_HV La Q)) args s 0 0 (sg_A La s.heap.size)) 8 G (sg_A La s.heap.size) La s0 0 0 0 [(0, sg_r o), (1, sg_r 3)] []
  refine gw_aload_n F 1 rfl rfl (by decide) dX1_readPieces_0 ?_
  refine gw_iconst F dX1_readPieces_1 ?_
  refine gw_bipush F rfl dX1_readPieces_2 ?_
  refine gw_bipush F rfl dX1_readPieces_4 ?_
  refine gw_aload_n F 0 rfl rfl to.1 dX1_readPieces_6 ?_
  refine gw_get0 F to (by decide) rfl sg_lay_RX1 (j := 4) (by decide) rfl (host := "") (.inl kw_163) dX1_readPieces_7 (fun h1 => ?_)
  refine gw_isub F rfl dX1_readPieces_10 ?_
  obtain ⟨g2, hf⟩ := hf
  refine gk_HI F (gc_V F (S := []) (As := [sg_i 1, sg_i 60, sg_i (60 - (s0 o 4))]) (T := TX9) (N := 8) (CX9_number hst (by decide) (by decide) g2 hf) (so_3 hst) (by decide) rfl kw_453 kw_92 kw_450 kw_451 kw_452 hcX9_number ⟨by decide, by decide⟩ rfl rfl (Nat.le_of_ble_eq_true rfl) ⟨by decide, by decide⟩ dX1_readPieces_11) (fun u3 s5 h4 hf => ?_)
  refine gw_istore_n F rfl (by decide) rfl dX1_readPieces_14 ?_
  refine gw_aload_n F 2 rfl rfl (by decide) dX1_readPieces_15 ?_
  refine gw_iconst F dX1_readPieces_16 ?_
  refine gw_bipush F rfl dX1_readPieces_17 ?_
  refine gw_bipush F rfl dX1_readPieces_19 ?_
  refine gk_HI F (gc_V F (S := []) (As := [sg_i 1, sg_i 99, sg_i 99]) (T := TX9) (N := 8) (CX9_number hst (by decide) (by decide) (by decide) hf) (so_3 hst) (by decide) rfl kw_453 kw_92 kw_450 kw_451 kw_452 hcX9_number ⟨by decide, by decide⟩ rfl rfl (Nat.le_of_ble_eq_true rfl) ⟨by decide, by decide⟩ dX1_readPieces_21) (fun u6 s8 h7 hf => ?_)
  refine gw_istore_n F rfl (by decide) rfl dX1_readPieces_24 ?_
  refine gw_aload_n F 3 rfl rfl (by decide) dX1_readPieces_25 ?_
  refine gw_iconst F dX1_readPieces_26 ?_
  refine gw_bipush F rfl dX1_readPieces_27 ?_
  refine gw_bipush F rfl dX1_readPieces_29 ?_
  refine gk_HI F (gc_V F (S := []) (As := [sg_i 1, sg_i 20, sg_i 20]) (T := TX9) (N := 8) (CX9_number hst (by decide) (by decide) (by decide) hf) (so_3 hst) (by decide) rfl kw_453 kw_92 kw_450 kw_451 kw_452 hcX9_number ⟨by decide, by decide⟩ rfl rfl (Nat.le_of_ble_eq_true rfl) ⟨by decide, by decide⟩ dX1_readPieces_31) (fun u9 s11 h10 hf => ?_)
  refine gw_istore F (by decide) rfl dX1_readPieces_34 ?_
  refine gw_bipush F rfl dX1_readPieces_36 ?_
  refine gw_iload_n F 1 rfl rfl dX1_readPieces_38 ?_
  refine gw_iconst F dX1_readPieces_39 ?_
  refine gw_isub F rfl dX1_readPieces_40 ?_
  obtain ⟨g12, hf⟩ := hf
  refine gw_min F (by decide) g12 rfl kw_458 kw_min1 kw_math kw_min2 (Nat.le_of_ble_eq_true rfl) (by decide) (by decide) (by decide) (by decide) dX1_readPieces_41 ?_
  refine gw_istore F (by decide) rfl dX1_readPieces_44 ?_
  refine gw_aload_n F 5 rfl rfl (by decide) dX1_readPieces_46 ?_
  refine gw_ldcS F (i := 1) rfl dX1_readPieces_47 ?_
  refine gk_HZ F (gc_V F (S := []) (As := [sg_a (G.2.2.1 1)]) (T := TX9) (N := 8) (CX9_skipWord hst (by decide) hf) (so_3 hst) (by decide) rfl kw_399 kw_92 kw_396 kw_397 kw_398 hcX9_skipWord ⟨by decide, by decide⟩ rfl rfl (Nat.le_of_ble_eq_true rfl) ⟨by decide, by decide⟩ dX1_readPieces_49) (fun u13 s15 h14 hf => ?_)
  have J68 : ∀ (s_68 : sg_M) (y0_68 : Int), sg_R y0_68 → (fX1_readPieces_j68 o u3 u6 u9 Q) s_68 y0_68 → sg_W p l e (sg_rm 7 0 0) s m args below meth c (MQ below (sg_Q (none) G La s.heap.size (sg_HV La Q)) args s 0 0 (sg_A La s.heap.size)) 8 G (sg_A La s.heap.size) La s_68 0 0 68 [(0, sg_r o), (1, sg_r 3), (2, sg_i u3), (3, sg_i u6), (4, sg_i u9)] [sg_i y0_68] := by
    intro s_68 y0_68 ry0_68 hf
    unfold fX1_readPieces_j68 at hf
    refine gw_istore F (by decide) rfl dX1_readPieces_68 ?_
    refine gw_aload_n F 2 rfl rfl (by decide) dX1_readPieces_70 ?_
    refine gw_ldcS F (i := 2) rfl dX1_readPieces_71 ?_
    refine gk_HZ F (gc_V F (S := []) (As := [sg_a (G.2.2.1 2)]) (T := TX9) (N := 8) (CX9_skipWord hst (by decide) hf) (so_3 hst) (by decide) rfl kw_399 kw_92 kw_396 kw_397 kw_398 hcX9_skipWord ⟨by decide, by decide⟩ rfl rfl (Nat.le_of_ble_eq_true rfl) ⟨by decide, by decide⟩ dX1_readPieces_73) (fun u16 s18 h17 hf => ?_)
    have J101 : ∀ (s_101 : sg_M) (y0_101 : Int), sg_R y0_101 → (fX1_readPieces_j101 o u3 u6 u9 y0_68 Q) s_101 y0_101 → sg_W p l e (sg_rm 7 0 0) s m args below meth c (MQ below (sg_Q (none) G La s.heap.size (sg_HV La Q)) args s 0 0 (sg_A La s.heap.size)) 8 G (sg_A La s.heap.size) La s_101 0 0 101 [(0, sg_r o), (1, sg_r 3), (2, sg_i u3), (3, sg_i u6), (4, sg_i u9), (6, sg_i y0_68)] [sg_i y0_101] := by
      intro s_101 y0_101 ry0_101 hf
      unfold fX1_readPieces_j101 at hf
      refine gw_istore F (by decide) rfl dX1_readPieces_101 ?_
      refine gw_aload_n F 2 rfl rfl (by decide) dX1_readPieces_103 ?_
      refine gw_get0 F (so_3 hst) (by decide) rfl sg_lay_RX9 (j := 6) (by decide) rfl (.inr kw_147) dX1_readPieces_104 (fun h19 => ?_)
      refine gw_if_ne F (tgt := 122) dX1_readPieces_107 (by decide) h19 (fun c20 => ?_) (fun c20 => ?_)
      · have hf := hf.1 c20
        exact gr_HV F hf (by decide) (by decide) dX1_readPieces_122
      · have hf := hf.2 c20
        refine gw_aload_n F 1 rfl rfl to.1 dX1_readPieces_110 ?_
        refine gw_iload_n F 3 rfl rfl dX1_readPieces_111 ?_
        refine gw_iload_n F 4 rfl rfl dX1_readPieces_112 ?_
        refine gw_iload F 5 rfl dX1_readPieces_113 ?_
        refine gw_iload F 6 rfl dX1_readPieces_115 ?_
        refine gw_iload F 0 rfl dX1_readPieces_117 ?_
        refine gk_HV F (gc_V F (S := []) (As := [sg_i u3, sg_i u6, sg_i u9, sg_i y0_68, sg_i y0_101]) (T := TX1) (N := 7) (CX1_addAlike to h4 h7 h10 ry0_68 ry0_101 hf) to (by decide) rfl kw_321 kw_94 kw_472 kw_319 kw_320 hcX1_addAlike ⟨by decide, by decide⟩ rfl rfl (Nat.le_of_ble_eq_true rfl) ⟨by decide, by decide⟩ dX1_readPieces_119) (fun s21 hf => ?_)
        exact gr_HV F hf (by decide) (by decide) dX1_readPieces_122
    refine gw_if_eq F (tgt := 100) dX1_readPieces_76 (by decide) (sg_B_R h17) (fun c22 => ?_) (fun c22 => ?_)
    · have hf := hf.1 c22
      refine gw_iconst F dX1_readPieces_100 ?_
      refine gw_sub [1, 2, 3, 4, 5, 0] rfl ?_
      exact J101 s18 0 (by decide) hf
    · have hf := hf.2 c22
      refine gw_aload_n F 2 rfl rfl (by decide) dX1_readPieces_79 ?_
      refine gw_bipush F rfl dX1_readPieces_80 ?_
      refine gk_HZ F (gc_V F (S := []) (As := [sg_i 45]) (T := TX9) (N := 8) (CX9_skipSign hst (by decide) hf) (so_3 hst) (by decide) rfl kw_464 kw_92 kw_461 kw_462 kw_463 hcX9_skipSign ⟨by decide, by decide⟩ rfl rfl (Nat.le_of_ble_eq_true rfl) ⟨by decide, by decide⟩ dX1_readPieces_82) (fun u23 s25 h24 hf => ?_)
      refine gw_aload_n F 2 rfl rfl (by decide) dX1_readPieces_85 ?_
      refine gw_iconst F dX1_readPieces_86 ?_
      refine gw_bipush F rfl dX1_readPieces_87 ?_
      refine gw_bipush F rfl dX1_readPieces_89 ?_
      refine gk_HI F (gc_V F (S := [sg_i u23]) (As := [sg_i 0, sg_i 99, sg_i 99]) (T := TX9) (N := 8) (CX9_number hst (by decide) (by decide) (by decide) hf) (so_3 hst) (by decide) rfl kw_453 kw_92 kw_450 kw_451 kw_452 hcX9_number ⟨by decide, by decide⟩ rfl rfl (Nat.le_of_ble_eq_true rfl) ⟨by decide, by decide⟩ dX1_readPieces_91) (fun u26 s28 h27 hf => ?_)
      refine gk_PI F (gc_SN F (S := []) (As := [sg_i u23, sg_i u26]) (CX11_signed h24 h27 hf) kw_471 kw_90 kw_469 kw_470 hcX11_signed ⟨by decide, by decide⟩ rfl rfl (Nat.le_of_ble_eq_true rfl) ⟨by decide, by decide⟩ dX1_readPieces_94) (fun u29 h30 hf => ?_)
      refine gw_goto F (tgt := 101) dX1_readPieces_97 (by decide) ?_
      refine gw_sub [1, 2, 3, 4, 5, 0] rfl ?_
      exact J101 s28 u29 h30 hf
  refine gw_if_eq F (tgt := 67) dX1_readPieces_52 (by decide) (sg_B_R h14) (fun c31 => ?_) (fun c31 => ?_)
  · have hf := hf.1 c31
    refine gw_iconst F dX1_readPieces_67 ?_
    refine gw_sub [4, 5, 3, 2, 1] rfl ?_
    exact J68 s15 0 (by decide) hf
  · have hf := hf.2 c31
    refine gw_aload_n F 5 rfl rfl (by decide) dX1_readPieces_55 ?_
    refine gw_iconst F dX1_readPieces_56 ?_
    refine gw_iload F 0 rfl dX1_readPieces_57 ?_
    refine gw_iload F 0 rfl dX1_readPieces_59 ?_
    refine gk_HI F (gc_V F (S := []) (As := [sg_i 0, sg_i (sg_min 9 (u6 - 1)), sg_i (sg_min 9 (u6 - 1))]) (T := TX9) (N := 8) (CX9_number hst (by decide) (sg_min_R (by decide) g12) (sg_min_R (by decide) g12) hf) (so_3 hst) (by decide) rfl kw_453 kw_92 kw_450 kw_451 kw_452 hcX9_number ⟨by decide, by decide⟩ rfl rfl (Nat.le_of_ble_eq_true rfl) ⟨by decide, by decide⟩ dX1_readPieces_61) (fun u32 s34 h33 hf => ?_)
    refine gw_goto F (tgt := 68) dX1_readPieces_64 (by decide) ?_
    refine gw_sub [4, 5, 3, 2, 1] rfl ?_
    exact J68 s34 u32 h33 hf

theorem dX1_readLine_0 : decode cX1_readLine 0 = .ok (.aload_n 1, 1) := by decide +kernel
theorem dX1_readLine_1 : decode cX1_readLine 1 = .ok (.ldc 79, 2) := by decide +kernel
theorem dX1_readLine_3 : decode cX1_readLine 3 = .ok (.invokevirtual 81, 3) := by decide +kernel
theorem dX1_readLine_6 : decode cX1_readLine 6 = .ok (.ifCond .eq 11, 3) := by decide +kernel
theorem dX1_readLine_9 : decode cX1_readLine 9 = .ok (.aload_n 0, 1) := by decide +kernel
theorem dX1_readLine_10 : decode cX1_readLine 10 = .ok (.aload_n 1, 1) := by decide +kernel
theorem dX1_readLine_11 : decode cX1_readLine 11 = .ok (.invokevirtual 85, 3) := by decide +kernel
theorem dX1_readLine_14 : decode cX1_readLine 14 = .ok (.goto 56, 3) := by decide +kernel
theorem dX1_readLine_17 : decode cX1_readLine 17 = .ok (.aload_n 1, 1) := by decide +kernel
theorem dX1_readLine_18 : decode cX1_readLine 18 = .ok (.ldc 88, 2) := by decide +kernel
theorem dX1_readLine_20 : decode cX1_readLine 20 = .ok (.invokevirtual 89, 3) := by decide +kernel
theorem dX1_readLine_23 : decode cX1_readLine 23 = .ok (.ifCond .eq 18, 3) := by decide +kernel
theorem dX1_readLine_26 : decode cX1_readLine 26 = .ok (.aload_n 0, 1) := by decide +kernel
theorem dX1_readLine_27 : decode cX1_readLine 27 = .ok (.aload_n 1, 1) := by decide +kernel
theorem dX1_readLine_28 : decode cX1_readLine 28 = .ok (.aload_n 0, 1) := by decide +kernel
theorem dX1_readLine_29 : decode cX1_readLine 29 = .ok (.getfield 28, 3) := by decide +kernel
theorem dX1_readLine_32 : decode cX1_readLine 32 = .ok (.invokestatic 92, 3) := by decide +kernel
theorem dX1_readLine_35 : decode cX1_readLine 35 = .ok (.putfield 28, 3) := by decide +kernel
theorem dX1_readLine_38 : decode cX1_readLine 38 = .ok (.goto 32, 3) := by decide +kernel
theorem dX1_readLine_41 : decode cX1_readLine 41 = .ok (.aload_n 1, 1) := by decide +kernel
theorem dX1_readLine_42 : decode cX1_readLine 42 = .ok (.ldc 96, 2) := by decide +kernel
theorem dX1_readLine_44 : decode cX1_readLine 44 = .ok (.invokevirtual 89, 3) := by decide +kernel
theorem dX1_readLine_47 : decode cX1_readLine 47 = .ok (.ifCond .eq 18, 3) := by decide +kernel
theorem dX1_readLine_50 : decode cX1_readLine 50 = .ok (.aload_n 0, 1) := by decide +kernel
theorem dX1_readLine_51 : decode cX1_readLine 51 = .ok (.aload_n 1, 1) := by decide +kernel
theorem dX1_readLine_52 : decode cX1_readLine 52 = .ok (.aload_n 0, 1) := by decide +kernel
theorem dX1_readLine_53 : decode cX1_readLine 53 = .ok (.getfield 31, 3) := by decide +kernel
theorem dX1_readLine_56 : decode cX1_readLine 56 = .ok (.invokestatic 92, 3) := by decide +kernel
theorem dX1_readLine_59 : decode cX1_readLine 59 = .ok (.putfield 31, 3) := by decide +kernel
theorem dX1_readLine_62 : decode cX1_readLine 62 = .ok (.goto 8, 3) := by decide +kernel
theorem dX1_readLine_65 : decode cX1_readLine 65 = .ok (.aload_n 1, 1) := by decide +kernel
theorem dX1_readLine_66 : decode cX1_readLine 66 = .ok (.iconst 1, 1) := by decide +kernel
theorem dX1_readLine_67 : decode cX1_readLine 67 = .ok (.invokevirtual 73, 3) := by decide +kernel
theorem dX1_readLine_70 : decode cX1_readLine 70 = .ok (.return_, 1) := by decide +kernel
theorem hcX1_readLine : yX1_readLine.cls ≠ "java/lang/invoke/MethodHandle" ∧ yX1_readLine.cls ≠ "java/lang/invoke/VarHandle" ∧ (parseMethodDescriptor yX1_readLine.desc).map (fun d => d.parameters.length) = some 1 := ⟨by decide +kernel, by decide +kernel, by decide +kernel⟩
def fX1_readLine (s0 : sg_M) (o : Int) (Q : sg_M → Prop) : Prop := fX9_skipWord s0 0 (fun u1 s3 => ((u1 = 0 → fX9_isWord s3 3 (fun u5 => ((u5 = 0 → fX9_isWord s3 4 (fun u8 => ((u8 = 0 → fX9_fail s3 1 (fun s11 => Q s11)) ∧ (¬ (u8 = 0) → fX1_readOnce s3 (s3 o 6) (fun u13 s15 => ∀ s16 : sg_M, s16 = sg_up s15 o 6 u13 → Q s16))))) ∧ (¬ (u5 = 0) → fX1_readOnce s3 (s3 o 5) (fun u19 s21 => ∀ s22 : sg_M, s22 = sg_up s21 o 5 u19 → Q s22))))) ∧ (¬ (u1 = 0) → fX1_readPieces s3 o (fun s24 => Q s24))))
set_option maxHeartbeats 4000000 in
set_option maxRecDepth 100000 in
theorem CX1_readLine {l : Launch} {G : sg_G} {La : sg_L} {s0 : sg_M} (hst : sg_St La) {o : Int} (to : sg_O La o 1) {Q : sg_M → Prop} (hf : fX1_readLine s0 o Q) : sg_C l G yX1_readLine cX1_readLine 2 (none) 8 0 0 La s0 [sg_r o, sg_r 3] (sg_HV La Q) := by
  refine sg_body (by decide +kernel) (Nat.le_of_ble_eq_true rfl) ?_
  intro p e s m args below meth c F hnm
  unfold fX1_readLine at hf
  show sg_W p l e (sg_rm 8 0 0) s m args below meth c (MQ below (sg_Q (none) G La s.heap.size (sg_HV La Q)) args s 0 0 (sg_A La s.heap.size)) 2 G (sg_A La s.heap.size) La s0 0 0 0 [(0, sg_r o), (1, sg_r 3)] []
  refine gw_aload_n F 1 rfl rfl (by decide) dX1_readLine_0 ?_
  refine gw_ldcS F (i := 0) rfl dX1_readLine_1 ?_
  refine gk_HZ F (gc_V F (S := []) (As := [sg_a (G.2.2.1 0)]) (T := TX9) (N := 8) (CX9_skipWord hst (by decide) hf) (so_3 hst) (by decide) rfl kw_399 kw_92 kw_396 kw_397 kw_398 hcX9_skipWord ⟨by decide, by decide⟩ rfl rfl (Nat.le_of_ble_eq_true rfl) ⟨by decide, by decide⟩ dX1_readLine_3) (fun u1 s3 h2 hf => ?_)
  refine gw_if_eq F (tgt := 17) dX1_readLine_6 (by decide) (sg_B_R h2) (fun c4 => ?_) (fun c4 => ?_)
  · have hf := hf.1 c4
    refine gw_aload_n F 1 rfl rfl (by decide) dX1_readLine_17 ?_
    refine gw_ldcS F (i := 3) rfl dX1_readLine_18 ?_
    refine gk_PZ F (gc_V F (S := []) (As := [sg_a (G.2.2.1 3)]) (T := TX9) (N := 8) (CX9_isWord hst (by decide) hf) (so_3 hst) (by decide) rfl kw_403 kw_92 kw_473 kw_401 kw_402 hcX9_isWord ⟨by decide, by decide⟩ rfl rfl (Nat.le_of_ble_eq_true rfl) ⟨by decide, by decide⟩ dX1_readLine_20) (fun u5 h6 hf => ?_)
    refine gw_if_eq F (tgt := 41) dX1_readLine_23 (by decide) (sg_B_R h6) (fun c7 => ?_) (fun c7 => ?_)
    · have hf := hf.1 c7
      refine gw_aload_n F 1 rfl rfl (by decide) dX1_readLine_41 ?_
      refine gw_ldcS F (i := 4) rfl dX1_readLine_42 ?_
      refine gk_PZ F (gc_V F (S := []) (As := [sg_a (G.2.2.1 4)]) (T := TX9) (N := 8) (CX9_isWord hst (by decide) hf) (so_3 hst) (by decide) rfl kw_403 kw_92 kw_473 kw_401 kw_402 hcX9_isWord ⟨by decide, by decide⟩ rfl rfl (Nat.le_of_ble_eq_true rfl) ⟨by decide, by decide⟩ dX1_readLine_44) (fun u8 h9 hf => ?_)
      refine gw_if_eq F (tgt := 65) dX1_readLine_47 (by decide) (sg_B_R h9) (fun c10 => ?_) (fun c10 => ?_)
      · have hf := hf.1 c10
        refine gw_aload_n F 1 rfl rfl (by decide) dX1_readLine_65 ?_
        refine gw_iconst F dX1_readLine_66 ?_
        refine gk_HV F (gc_V F (S := []) (As := [sg_i 1]) (T := TX9) (N := 8) (CX9_fail hst (by decide) hf) (so_3 hst) (by decide) rfl kw_457 kw_92 kw_477 kw_455 kw_456 hcX9_fail ⟨by decide, by decide⟩ rfl rfl (Nat.le_of_ble_eq_true rfl) ⟨by decide, by decide⟩ dX1_readLine_67) (fun s11 hf => ?_)
        exact gr_HV F hf (by decide) (by decide) dX1_readLine_70
      · have hf := hf.2 c10
        refine gw_aload_n F 0 rfl rfl to.1 dX1_readLine_50 ?_
        refine gw_aload_n F 1 rfl rfl (by decide) dX1_readLine_51 ?_
        refine gw_aload_n F 0 rfl rfl to.1 dX1_readLine_52 ?_
        refine gw_get0 F to (by decide) rfl sg_lay_RX1 (j := 6) (by decide) rfl (host := "") (.inl kw_169) dX1_readLine_53 (fun h12 => ?_)
        refine gk_HI F (gc_S F (S := [sg_r o]) (As := [sg_r 3, sg_i (s3 o 6)]) (CX1_readOnce hst h12 hf) kw_476 kw_94 kw_474 kw_475 hcX1_readOnce ⟨by decide, by decide⟩ rfl rfl (Nat.le_of_ble_eq_true rfl) ⟨by decide, by decide⟩ dX1_readLine_56) (fun u13 s15 h14 hf => ?_)
        obtain ⟨s16, e17⟩ : ∃ z : sg_M, z = sg_up s15 o 6 u13 := ⟨_, rfl⟩
        have hf := hf s16 e17
        refine gw_put0 F to (by decide) rfl sg_lay_RX1 (j := 6) (by decide) h14 e17 tyX1_ok nmX1 rfl (tyX1_ok 6 (by decide)) rfl (host := "") (.inl kw_169) dX1_readLine_59 ?_
        refine gw_goto F (tgt := 70) dX1_readLine_62 (by decide) ?_
        exact gr_HV F hf (by decide) (by decide) dX1_readLine_70
    · have hf := hf.2 c7
      refine gw_aload_n F 0 rfl rfl to.1 dX1_readLine_26 ?_
      refine gw_aload_n F 1 rfl rfl (by decide) dX1_readLine_27 ?_
      refine gw_aload_n F 0 rfl rfl to.1 dX1_readLine_28 ?_
      refine gw_get0 F to (by decide) rfl sg_lay_RX1 (j := 5) (by decide) rfl (host := "") (.inl kw_166) dX1_readLine_29 (fun h18 => ?_)
      refine gk_HI F (gc_S F (S := [sg_r o]) (As := [sg_r 3, sg_i (s3 o 5)]) (CX1_readOnce hst h18 hf) kw_476 kw_94 kw_474 kw_475 hcX1_readOnce ⟨by decide, by decide⟩ rfl rfl (Nat.le_of_ble_eq_true rfl) ⟨by decide, by decide⟩ dX1_readLine_32) (fun u19 s21 h20 hf => ?_)
      obtain ⟨s22, e23⟩ : ∃ z : sg_M, z = sg_up s21 o 5 u19 := ⟨_, rfl⟩
      have hf := hf s22 e23
      refine gw_put0 F to (by decide) rfl sg_lay_RX1 (j := 5) (by decide) h20 e23 tyX1_ok nmX1 rfl (tyX1_ok 5 (by decide)) rfl (host := "") (.inl kw_166) dX1_readLine_35 ?_
      refine gw_goto F (tgt := 70) dX1_readLine_38 (by decide) ?_
      exact gr_HV F hf (by decide) (by decide) dX1_readLine_70
  · have hf := hf.2 c4
    refine gw_aload_n F 0 rfl rfl to.1 dX1_readLine_9 ?_
    refine gw_aload_n F 1 rfl rfl (by decide) dX1_readLine_10 ?_
    refine gk_HV F (gc_V F (S := []) (As := [sg_r 3]) (T := TX1) (N := 7) (CX1_readPieces hst to hf) to (by decide) rfl kw_449 kw_94 kw_447 kw_448 kw_1 hcX1_readPieces ⟨by decide, by decide⟩ rfl rfl (Nat.le_of_ble_eq_true rfl) ⟨by decide, by decide⟩ dX1_readLine_11) (fun s24 hf => ?_)
    refine gw_goto F (tgt := 70) dX1_readLine_14 (by decide) ?_
    exact gr_HV F hf (by decide) (by decide) dX1_readLine_70

theorem dX9_mustBeSign_0 : decode cX9_mustBeSign 0 = .ok (.aload_n 0, 1) := by decide +kernel
theorem dX9_mustBeSign_1 : decode cX9_mustBeSign 1 = .ok (.iload_n 1, 1) := by decide +kernel
theorem dX9_mustBeSign_2 : decode cX9_mustBeSign 2 = .ok (.invokevirtual 78, 3) := by decide +kernel
theorem dX9_mustBeSign_5 : decode cX9_mustBeSign 5 = .ok (.ifCond .ne 8, 3) := by decide +kernel
theorem dX9_mustBeSign_8 : decode cX9_mustBeSign 8 = .ok (.aload_n 0, 1) := by decide +kernel
theorem dX9_mustBeSign_9 : decode cX9_mustBeSign 9 = .ok (.iconst 1, 1) := by decide +kernel
theorem dX9_mustBeSign_10 : decode cX9_mustBeSign 10 = .ok (.invokevirtual 81, 3) := by decide +kernel
theorem dX9_mustBeSign_13 : decode cX9_mustBeSign 13 = .ok (.return_, 1) := by decide +kernel
theorem hcX9_mustBeSign : yX9_mustBeSign.cls ≠ "java/lang/invoke/MethodHandle" ∧ yX9_mustBeSign.cls ≠ "java/lang/invoke/VarHandle" ∧ (parseMethodDescriptor yX9_mustBeSign.desc).map (fun d => d.parameters.length) = some 1 := ⟨by decide +kernel, by decide +kernel, by decide +kernel⟩
def fX9_mustBeSign (s0 : sg_M) (x1 : Int) (Q : sg_M → Prop) : Prop := fX9_skipSign s0 x1 (fun u1 s3 => ((u1 ≠ 0 → Q s3) ∧ (u1 = 0 → fX9_fail s3 1 (fun s5 => Q s5))))
set_option maxHeartbeats 4000000 in
set_option maxRecDepth 100000 in
theorem CX9_mustBeSign {l : Launch} {G : sg_G} {La : sg_L} {s0 : sg_M} (hst : sg_St La) {x1 : Int} (r1 : sg_R x1) {Q : sg_M → Prop} (hf : fX9_mustBeSign s0 x1 Q) : sg_C l G yX9_mustBeSign cX9_mustBeSign 2 (none) 4 0 0 La s0 [sg_r 3, sg_i x1] (sg_HV La Q) := by
  refine sg_body (by decide +kernel) (Nat.le_of_ble_eq_true rfl) ?_
  intro p e s m args below meth c F hnm
  unfold fX9_mustBeSign at hf
  show sg_W p l e (sg_rm 4 0 0) s m args below meth c (MQ below (sg_Q (none) G La s.heap.size (sg_HV La Q)) args s 0 0 (sg_A La s.heap.size)) 2 G (sg_A La s.heap.size) La s0 0 0 0 [(0, sg_r 3), (1, sg_i x1)] []
  refine gw_aload_n F 0 rfl rfl (by decide) dX9_mustBeSign_0 ?_
  refine gw_iload_n F 1 rfl rfl dX9_mustBeSign_1 ?_
  refine gk_HZ F (gc_V F (S := []) (As := [sg_i x1]) (T := TX9) (N := 8) (CX9_skipSign hst r1 hf) (so_3 hst) (by decide) rfl kw_464 kw_92 kw_483 kw_462 kw_463 hcX9_skipSign ⟨by decide, by decide⟩ rfl rfl (Nat.le_of_ble_eq_true rfl) ⟨by decide, by decide⟩ dX9_mustBeSign_2) (fun u1 s3 h2 hf => ?_)
  refine gw_if_ne F (tgt := 13) dX9_mustBeSign_5 (by decide) (sg_B_R h2) (fun c4 => ?_) (fun c4 => ?_)
  · have hf := hf.1 c4
    exact gr_HV F hf (by decide) (by decide) dX9_mustBeSign_13
  · have hf := hf.2 c4
    refine gw_aload_n F 0 rfl rfl (by decide) dX9_mustBeSign_8 ?_
    refine gw_iconst F dX9_mustBeSign_9 ?_
    refine gk_HV F (gc_V F (S := []) (As := [sg_i 1]) (T := TX9) (N := 8) (CX9_fail hst (by decide) hf) (so_3 hst) (by decide) rfl kw_457 kw_92 kw_454 kw_455 kw_456 hcX9_fail ⟨by decide, by decide⟩ rfl rfl (Nat.le_of_ble_eq_true rfl) ⟨by decide, by decide⟩ dX9_mustBeSign_10) (fun s5 hf => ?_)
    exact gr_HV F hf (by decide) (by decide) dX9_mustBeSign_13

theorem dX1_readFrom_0 : decode cX1_readFrom 0 = .ok (.iconst 0, 1) := by decide +kernel
theorem dX1_readFrom_1 : decode cX1_readFrom 1 = .ok (.istore_n 2, 1) := by decide +kernel
theorem dX1_readFrom_2 : decode cX1_readFrom 2 = .ok (.iload_n 2, 1) := by decide +kernel
theorem dX1_readFrom_3 : decode cX1_readFrom 3 = .ok (.sipush 540, 3) := by decide +kernel
theorem dX1_readFrom_6 : decode cX1_readFrom 6 = .ok (.if_icmp .ge 27, 3) := by decide +kernel
theorem dX1_readFrom_9 : decode cX1_readFrom 9 = .ok (.aload_n 1, 1) := by decide +kernel
theorem dX1_readFrom_10 : decode cX1_readFrom 10 = .ok (.invokevirtual 59, 3) := by decide +kernel
theorem dX1_readFrom_13 : decode cX1_readFrom 13 = .ok (.ifCond .eq 20, 3) := by decide +kernel
theorem dX1_readFrom_16 : decode cX1_readFrom 16 = .ok (.aload_n 0, 1) := by decide +kernel
theorem dX1_readFrom_17 : decode cX1_readFrom 17 = .ok (.aload_n 1, 1) := by decide +kernel
theorem dX1_readFrom_18 : decode cX1_readFrom 18 = .ok (.invokevirtual 65, 3) := by decide +kernel
theorem dX1_readFrom_21 : decode cX1_readFrom 21 = .ok (.aload_n 1, 1) := by decide +kernel
theorem dX1_readFrom_22 : decode cX1_readFrom 22 = .ok (.bipush 59, 2) := by decide +kernel
theorem dX1_readFrom_24 : decode cX1_readFrom 24 = .ok (.invokevirtual 69, 3) := by decide +kernel
theorem dX1_readFrom_27 : decode cX1_readFrom 27 = .ok (.iinc 2 1, 3) := by decide +kernel
theorem dX1_readFrom_30 : decode cX1_readFrom 30 = .ok (.goto (-28), 3) := by decide +kernel
theorem dX1_readFrom_33 : decode cX1_readFrom 33 = .ok (.aload_n 0, 1) := by decide +kernel
theorem dX1_readFrom_34 : decode cX1_readFrom 34 = .ok (.getfield 24, 3) := by decide +kernel
theorem dX1_readFrom_37 : decode cX1_readFrom 37 = .ok (.iconst 3, 1) := by decide +kernel
theorem dX1_readFrom_38 : decode cX1_readFrom 38 = .ok (.if_icmp .ge 8, 3) := by decide +kernel
theorem dX1_readFrom_41 : decode cX1_readFrom 41 = .ok (.aload_n 1, 1) := by decide +kernel
theorem dX1_readFrom_42 : decode cX1_readFrom 42 = .ok (.iconst 1, 1) := by decide +kernel
theorem dX1_readFrom_43 : decode cX1_readFrom 43 = .ok (.invokevirtual 73, 3) := by decide +kernel
theorem dX1_readFrom_46 : decode cX1_readFrom 46 = .ok (.aload_n 0, 1) := by decide +kernel
theorem dX1_readFrom_47 : decode cX1_readFrom 47 = .ok (.invokevirtual 76, 3) := by decide +kernel
theorem dX1_readFrom_50 : decode cX1_readFrom 50 = .ok (.return_, 1) := by decide +kernel
theorem hcX1_readFrom : yX1_readFrom.cls ≠ "java/lang/invoke/MethodHandle" ∧ yX1_readFrom.cls ≠ "java/lang/invoke/VarHandle" ∧ (parseMethodDescriptor yX1_readFrom.desc).map (fun d => d.parameters.length) = some 1 := ⟨by decide +kernel, by decide +kernel, by decide +kernel⟩
def fX1_readFrom_L2 (o : Int) (k33 : sg_M → Prop) : Nat → sg_M → Int → Prop
  | 0, _, _ => False
  | n_2 + 1, s_2, x2_2 => ((540 ≤ x2_2 → k33 s_2) ∧ (¬ (540 ≤ x2_2) → fX9_isGoingOn s_2 (fun u2 => ((u2 = 0 → k33 s_2) ∧ (¬ (u2 = 0) → fX1_readLine s_2 o (fun s5 => fX9_mustBeSign s5 59 (fun s6 => sg_R (x2_2 + 1) ∧ (fX1_readFrom_L2 o k33 n_2) s6 (x2_2 + 1))))))))
def fX1_readFrom (s0 : sg_M) (o : Int) (Q : sg_M → Prop) : Prop := (∃ n8 : Nat, fX1_readFrom_L2 o (fun s_33e2 => ((3 ≤ (s_33e2 o 4) → fX1_fillUntold s_33e2 o (fun s11 => Q s11)) ∧ (¬ (3 ≤ (s_33e2 o 4)) → fX9_fail s_33e2 1 (fun s12 => fX1_fillUntold s12 o (fun s13 => Q s13))))) n8 s0 0)
set_option maxHeartbeats 4000000 in
set_option maxRecDepth 100000 in
theorem CX1_readFrom {l : Launch} {G : sg_G} {La : sg_L} {s0 : sg_M} (hst : sg_St La) {o : Int} (to : sg_O La o 1) {Q : sg_M → Prop} (hf : fX1_readFrom s0 o Q) : sg_C l G yX1_readFrom cX1_readFrom 3 (none) 9 0 0 La s0 [sg_r o, sg_r 3] (sg_HV La Q) := by
  refine sg_body (by decide +kernel) (Nat.le_of_ble_eq_true rfl) ?_
  intro p e s m args below meth c F hnm
  unfold fX1_readFrom at hf
  show sg_W p l e (sg_rm 9 0 0) s m args below meth c (MQ below (sg_Q (none) G La s.heap.size (sg_HV La Q)) args s 0 0 (sg_A La s.heap.size)) 3 G (sg_A La s.heap.size) La s0 0 0 0 [(0, sg_r o), (1, sg_r 3)] []
  refine gw_iconst F dX1_readFrom_0 ?_
  refine gw_istore_n F rfl (by decide) rfl dX1_readFrom_1 ?_
  have L2 : ∀ (k33 : sg_M → Prop) (hk33 : ∀ (s_33e2 : sg_M), k33 s_33e2 → sg_W p l e (sg_rm 9 0 0) s m args below meth c (MQ below (sg_Q (none) G La s.heap.size (sg_HV La Q)) args s 0 0 (sg_A La s.heap.size)) 3 G (sg_A La s.heap.size) La s_33e2 0 0 33 [(0, sg_r o), (1, sg_r 3)] []), ∀ n_2 : Nat, ∀ (s_2 : sg_M) (x2_2 : Int), sg_R x2_2 → fX1_readFrom_L2 o k33 n_2 s_2 x2_2 → sg_W p l e (sg_rm 9 0 0) s m args below meth c (MQ below (sg_Q (none) G La s.heap.size (sg_HV La Q)) args s 0 0 (sg_A La s.heap.size)) 3 G (sg_A La s.heap.size) La s_2 0 0 2 [(0, sg_r o), (1, sg_r 3), (2, sg_i x2_2)] [] := by
    intro k33 hk33 n_2
    induction n_2 with
    | zero => intro s_2 x2_2 r2_2 hf; exact hf.elim
    | succ n_2 ih =>
      intro s_2 x2_2 r2_2 hf
      unfold fX1_readFrom_L2 at hf
      refine gw_iload_n F 2 rfl rfl dX1_readFrom_2 ?_
      refine gw_sipush F rfl dX1_readFrom_3 ?_
      refine gw_icmp_ge F (tgt := 33) dX1_readFrom_6 (by decide) r2_2 (by decide) (fun c1 => ?_) (fun c1 => ?_)
      · have hf := hf.1 c1
        refine gw_sub [0, 1] rfl ?_
        exact hk33 s_2 hf
      · have hf := hf.2 c1
        refine gw_aload_n F 1 rfl rfl (by decide) dX1_readFrom_9 ?_
        refine gk_PZ F (gc_V F (S := []) (As := []) (T := TX9) (N := 8) (CX9_isGoingOn hst hf) (so_3 hst) (by decide) rfl kw_392 kw_92 kw_389 kw_390 kw_391 hcX9_isGoingOn ⟨by decide, by decide⟩ rfl rfl (Nat.le_of_ble_eq_true rfl) ⟨by decide, by decide⟩ dX1_readFrom_10) (fun u2 h3 hf => ?_)
        refine gw_if_eq F (tgt := 33) dX1_readFrom_13 (by decide) (sg_B_R h3) (fun c4 => ?_) (fun c4 => ?_)
        · have hf := hf.1 c4
          refine gw_sub [0, 1] rfl ?_
          exact hk33 s_2 hf
        · have hf := hf.2 c4
          refine gw_aload_n F 0 rfl rfl to.1 dX1_readFrom_16 ?_
          refine gw_aload_n F 1 rfl rfl (by decide) dX1_readFrom_17 ?_
          refine gk_HV F (gc_V F (S := []) (As := [sg_r 3]) (T := TX1) (N := 7) (CX1_readLine hst to hf) to (by decide) rfl kw_395 kw_94 kw_393 kw_394 kw_0 hcX1_readLine ⟨by decide, by decide⟩ rfl rfl (Nat.le_of_ble_eq_true rfl) ⟨by decide, by decide⟩ dX1_readFrom_18) (fun s5 hf => ?_)
          refine gw_aload_n F 1 rfl rfl (by decide) dX1_readFrom_21 ?_
          refine gw_bipush F rfl dX1_readFrom_22 ?_
          refine gk_HV F (gc_V F (S := []) (As := [sg_i 59]) (T := TX9) (N := 8) (CX9_mustBeSign hst (by decide) hf) (so_3 hst) (by decide) rfl kw_482 kw_92 kw_479 kw_480 kw_481 hcX9_mustBeSign ⟨by decide, by decide⟩ rfl rfl (Nat.le_of_ble_eq_true rfl) ⟨by decide, by decide⟩ dX1_readFrom_24) (fun s6 hf => ?_)
          refine gw_iinc F (z := (x2_2 + 1)) 2 rfl (by omega) (by decide) rfl dX1_readFrom_27 ?_
          refine gw_goto F (tgt := 2) dX1_readFrom_30 (by decide) ?_
          obtain ⟨g7, hf⟩ := hf
          refine gw_sub [1, 2, 0] rfl ?_
          exact ih s6 (x2_2 + 1) g7 hf
  obtain ⟨n8, hf⟩ := hf
  refine gw_sub [1, 2, 0] rfl ?_
  refine L2 _ (fun s_33e2 hf => ?_) n8 s0 0 (by decide) hf
  refine gw_aload_n F 0 rfl rfl to.1 dX1_readFrom_33 ?_
  refine gw_get0 F to (by decide) rfl sg_lay_RX1 (j := 4) (by decide) rfl (host := "") (.inl kw_163) dX1_readFrom_34 (fun h9 => ?_)
  refine gw_iconst F dX1_readFrom_37 ?_
  refine gw_icmp_ge F (tgt := 46) dX1_readFrom_38 (by decide) h9 (by decide) (fun c10 => ?_) (fun c10 => ?_)
  · have hf := hf.1 c10
    refine gw_aload_n F 0 rfl rfl to.1 dX1_readFrom_46 ?_
    refine gk_HV F (gc_V F (S := []) (As := []) (T := TX1) (N := 7) (CX1_fillUntold to hf) to (by decide) rfl kw_325 kw_94 kw_484 kw_323 kw_324 hcX1_fillUntold ⟨by decide, by decide⟩ rfl rfl (Nat.le_of_ble_eq_true rfl) ⟨by decide, by decide⟩ dX1_readFrom_47) (fun s11 hf => ?_)
    exact gr_HV F hf (by decide) (by decide) dX1_readFrom_50
  · have hf := hf.2 c10
    refine gw_aload_n F 1 rfl rfl (by decide) dX1_readFrom_41 ?_
    refine gw_iconst F dX1_readFrom_42 ?_
    refine gk_HV F (gc_V F (S := []) (As := [sg_i 1]) (T := TX9) (N := 8) (CX9_fail hst (by decide) hf) (so_3 hst) (by decide) rfl kw_457 kw_92 kw_477 kw_455 kw_456 hcX9_fail ⟨by decide, by decide⟩ rfl rfl (Nat.le_of_ble_eq_true rfl) ⟨by decide, by decide⟩ dX1_readFrom_43) (fun s12 hf => ?_)
    refine gw_aload_n F 0 rfl rfl to.1 dX1_readFrom_46 ?_
    refine gk_HV F (gc_V F (S := []) (As := []) (T := TX1) (N := 7) (CX1_fillUntold to hf) to (by decide) rfl kw_325 kw_94 kw_484 kw_323 kw_324 hcX1_fillUntold ⟨by decide, by decide⟩ rfl rfl (Nat.le_of_ble_eq_true rfl) ⟨by decide, by decide⟩ dX1_readFrom_47) (fun s13 hf => ?_)
    exact gr_HV F hf (by decide) (by decide) dX1_readFrom_50

theorem dX11_blade_0 : decode cX11_blade 0 = .ok (.new 27, 3) := by decide +kernel
theorem dX11_blade_3 : decode cX11_blade 3 = .ok (.dup, 1) := by decide +kernel
theorem dX11_blade_4 : decode cX11_blade 4 = .ok (.invokespecial 29, 3) := by decide +kernel
theorem dX11_blade_7 : decode cX11_blade 7 = .ok (.astore_n 1, 1) := by decide +kernel
theorem dX11_blade_8 : decode cX11_blade 8 = .ok (.aload_n 0, 1) := by decide +kernel
theorem dX11_blade_9 : decode cX11_blade 9 = .ok (.getfield 21, 3) := by decide +kernel
theorem dX11_blade_12 : decode cX11_blade 12 = .ok (.sipush 500, 3) := by decide +kernel
theorem dX11_blade_15 : decode cX11_blade 15 = .ok (.invokevirtual 128, 3) := by decide +kernel
theorem dX11_blade_18 : decode cX11_blade 18 = .ok (.aload_n 1, 1) := by decide +kernel
theorem dX11_blade_19 : decode cX11_blade 19 = .ok (.aload_n 0, 1) := by decide +kernel
theorem dX11_blade_20 : decode cX11_blade 20 = .ok (.getfield 21, 3) := by decide +kernel
theorem dX11_blade_23 : decode cX11_blade 23 = .ok (.invokevirtual 131, 3) := by decide +kernel
theorem dX11_blade_26 : decode cX11_blade 26 = .ok (.aload_n 0, 1) := by decide +kernel
theorem dX11_blade_27 : decode cX11_blade 27 = .ok (.getfield 21, 3) := by decide +kernel
theorem dX11_blade_30 : decode cX11_blade 30 = .ok (.getfield 135, 3) := by decide +kernel
theorem dX11_blade_33 : decode cX11_blade 33 = .ok (.ifCond .ne 11, 3) := by decide +kernel
theorem dX11_blade_36 : decode cX11_blade 36 = .ok (.aload_n 0, 1) := by decide +kernel
theorem dX11_blade_37 : decode cX11_blade 37 = .ok (.getfield 39, 3) := by decide +kernel
theorem dX11_blade_40 : decode cX11_blade 40 = .ok (.aload_n 1, 1) := by decide +kernel
theorem dX11_blade_41 : decode cX11_blade 41 = .ok (.putfield 112, 3) := by decide +kernel
theorem dX11_blade_44 : decode cX11_blade 44 = .ok (.aload_n 0, 1) := by decide +kernel
theorem dX11_blade_45 : decode cX11_blade 45 = .ok (.aload_n 1, 1) := by decide +kernel
theorem dX11_blade_46 : decode cX11_blade 46 = .ok (.getfield 138, 3) := by decide +kernel
theorem dX11_blade_49 : decode cX11_blade 49 = .ok (.invokevirtual 139, 3) := by decide +kernel
theorem dX11_blade_52 : decode cX11_blade 52 = .ok (.ireturn, 1) := by decide +kernel
theorem hcX11_blade : yX11_blade.cls ≠ "java/lang/invoke/MethodHandle" ∧ yX11_blade.cls ≠ "java/lang/invoke/VarHandle" ∧ (parseMethodDescriptor yX11_blade.desc).map (fun d => d.parameters.length) = some 0 := ⟨by decide +kernel, by decide +kernel, by decide +kernel⟩
def fX11_blade (La : sg_L) (s0 : sg_M) (Q : Int → sg_L → sg_M → Prop) : Prop := ∀ (q1 : Nat) (La2 : sg_L), La2 = sg_pu La 21 q1 → ∀ s3 : sg_M, s3 = sg_nw s0 La.1 21 → ∀ o4 : Int, o4 = (La.1 : Int) → fX1_init La2 s3 o4 (fun La13 s14 => fX9_open s14 500 (fun s20 => fX1_readFrom s20 o4 (fun s22 => (((s22 3 6) ≠ 0 → fX11_closeText s22 (s22 o4 4) (fun u27 s29 => Q u27 La13 s29)) ∧ ((s22 3 6) = 0 → ∀ s31 : sg_M, s31 = sg_up s22 4 0 o4 → fX11_closeText s31 (s31 o4 4) (fun u34 s36 => Q u34 La13 s36))))))
set_option maxHeartbeats 4000000 in
set_option maxRecDepth 100000 in
theorem CX11_blade {l : Launch} {G : sg_G} {La : sg_L} {s0 : sg_M} (hst : sg_St La) {Q : Int → sg_L → sg_M → Prop} (hf : fX11_blade La s0 Q) : sg_C l G yX11_blade cX11_blade 2 (some .int) 10 5 247 La s0 [sg_r 0] (sg_BI La Q) := by
  refine sg_body (by decide +kernel) (Nat.le_of_ble_eq_true rfl) ?_
  intro p e s m args below meth c F hnm
  unfold fX11_blade at hf
  show sg_W p l e (sg_rm 10 5 247) s m args below meth c (MQ below (sg_Q (some .int) G La s.heap.size (sg_BI La Q)) args s 5 247 (sg_A La s.heap.size)) 2 G (sg_A La s.heap.size) La s0 0 0 0 [(0, sg_r 0)] []
  refine gy_new F (kd := 21) (T := TX1) (by decide) rfl sg_lay_RX1 tyX1_ok kw_152 kw_153 kw_94 ns_X1 nf_X1 nr_X1 (by decide) (by decide) (List.forall_mem_cons.mpr ⟨(Or.inl (so_0 hst).2.1), (fun _ h => absurd h List.not_mem_nil)⟩) (fun _ h => absurd h List.not_mem_nil) dX11_blade_0 (fun q1 La2 s3 o4 e5 e6 e7 t8 hX9 => ?_)
  have hf := hf q1 La2 e5 s3 e6 o4 e7
  have hn10 : La.1 ≤ o4.toNat := by rw [e7, Int.toNat_natCast]; exact (sg_X.rf : sg_X La La).1
  have hst11 := hst.X hX9
  have hX12 := sg_X.tr (sg_X.rf) hX9
  refine gw_dup F rfl dX11_blade_3 ?_
  refine gk_BV F (gc_IN F (S := [sg_r o4]) (As := []) (CX1_init t8 hf) t8.1 kw_156 kw_94 kw_154 kw_155 rfl hcX1_init ⟨by decide, by decide⟩ rfl rfl (Nat.le_of_ble_eq_true rfl) ⟨by decide, by decide⟩ dX11_blade_4) (List.forall_mem_cons.mpr ⟨(Or.inl (so_0 hst11).2.1), (fun _ h => absurd h List.not_mem_nil)⟩) (List.forall_mem_cons.mpr ⟨(Or.inl t8.2.1), (fun _ h => absurd h List.not_mem_nil)⟩) (fun La13 s14 hX15 hf => ?_)
  have t16 := (sg_O_sealed t8).X hX15
  have hst17 := (sg_St_sx hst11 t8 ⟨by decide, by decide, by decide⟩).X hX15
  have hX18 := (sg_X_sx (hX12) hn10).tr hX15
  refine gw_astore_n F rfl t16.1 (by decide) rfl dX11_blade_7 ?_
  refine gw_aload_n F 1 rfl rfl (by decide) dX11_blade_8 ?_
  refine gw_get7 F (so_0 hst17) (by decide) rfl sg_lay_RX11 (j := 1) (by decide) (o1 := 3) (by first | rfl | omega) rfl (host := "") (.inl kw_327) dX11_blade_9 (fun h19 => ?_)
  refine gw_sipush F rfl dX11_blade_12 ?_
  refine gk_HV F (gc_V F (S := []) (As := [sg_i 500]) (T := TX9) (N := 8) (CX9_open hst17 (by decide) hf) (so_3 hst17) (by decide) rfl kw_364 kw_92 kw_361 kw_362 kw_363 hcX9_open ⟨by decide, by decide⟩ rfl rfl (Nat.le_of_ble_eq_true rfl) ⟨by decide, by decide⟩ dX11_blade_15) (fun s20 hf => ?_)
  refine gw_aload_n F 0 rfl rfl t16.1 dX11_blade_18 ?_
  refine gw_aload_n F 1 rfl rfl (by decide) dX11_blade_19 ?_
  refine gw_get7 F (so_0 hst17) (by decide) rfl sg_lay_RX11 (j := 1) (by decide) (o1 := 3) (by first | rfl | omega) rfl (host := "") (.inl kw_327) dX11_blade_20 (fun h21 => ?_)
  refine gk_HV F (gc_V F (S := []) (As := [sg_r 3]) (T := TX1) (N := 7) (CX1_readFrom hst17 t16 hf) t16 (by decide) rfl kw_388 kw_94 kw_385 kw_386 kw_387 hcX1_readFrom ⟨by decide, by decide⟩ rfl rfl (Nat.le_of_ble_eq_true rfl) ⟨by decide, by decide⟩ dX11_blade_23) (fun s22 hf => ?_)
  refine gw_aload_n F 1 rfl rfl (by decide) dX11_blade_26 ?_
  refine gw_get7 F (so_0 hst17) (by decide) rfl sg_lay_RX11 (j := 1) (by decide) (o1 := 3) (by first | rfl | omega) rfl (host := "") (.inl kw_327) dX11_blade_27 (fun h23 => ?_)
  refine gw_get0 F (so_3 hst17) (by decide) rfl sg_lay_RX9 (j := 6) (by decide) rfl (.inr kw_145) dX11_blade_30 (fun h24 => ?_)
  refine gw_if_ne F (tgt := 44) dX11_blade_33 (by decide) h24 (fun c25 => ?_) (fun c25 => ?_)
  · have hf := hf.1 c25
    refine gw_aload_n F 1 rfl rfl (by decide) dX11_blade_44 ?_
    refine gw_aload_n F 0 rfl rfl t16.1 dX11_blade_45 ?_
    refine gw_get0 F t16 (by decide) rfl sg_lay_RX1 (j := 4) (by decide) rfl (.inr kw_165) dX11_blade_46 (fun h26 => ?_)
    refine gk_HI F (gc_V F (S := []) (As := [sg_i (s22 o4 4)]) (T := TX11) (N := 19) (CX11_closeText hst17 h26 hf) (so_0 hst17) (by decide) rfl kw_487 kw_90 kw_485 kw_486 kw_2 hcX11_closeText ⟨by decide, by decide⟩ rfl rfl (Nat.le_of_ble_eq_true rfl) ⟨by decide, by decide⟩ dX11_blade_49) (fun u27 s29 h28 hf => ?_)
    exact gr_BI F h28 hf (hX18) (by decide) (by decide) dX11_blade_52
  · have hf := hf.2 c25
    refine gw_aload_n F 1 rfl rfl (by decide) dX11_blade_36 ?_
    refine gw_get7 F (so_0 hst17) (by decide) rfl sg_lay_RX11 (j := 2) (by decide) (o1 := 4) (by first | rfl | omega) rfl (host := "") (.inl kw_328) dX11_blade_37 (fun h30 => ?_)
    refine gw_aload_n F 0 rfl rfl t16.1 dX11_blade_40 ?_
    obtain ⟨s31, e32⟩ : ∃ z : sg_M, z = sg_up s22 4 0 o4 := ⟨_, rfl⟩
    have hf := hf s31 e32
    refine gw_put4 F (so_4 hst17) (by decide) rfl sg_lay_RX7 (j := 0) (by decide) t16.1 t16 e32 tyX7_ok nmX7 rfl (tyX7_ok 0 (by decide)) rfl (.inr kw_234) dX11_blade_41 ?_
    refine gw_aload_n F 1 rfl rfl (by decide) dX11_blade_44 ?_
    refine gw_aload_n F 0 rfl rfl t16.1 dX11_blade_45 ?_
    refine gw_get0 F t16 (by decide) rfl sg_lay_RX1 (j := 4) (by decide) rfl (.inr kw_165) dX11_blade_46 (fun h33 => ?_)
    refine gk_HI F (gc_V F (S := []) (As := [sg_i (s31 o4 4)]) (T := TX11) (N := 19) (CX11_closeText hst17 h33 hf) (so_0 hst17) (by decide) rfl kw_487 kw_90 kw_485 kw_486 kw_2 hcX11_closeText ⟨by decide, by decide⟩ rfl rfl (Nat.le_of_ble_eq_true rfl) ⟨by decide, by decide⟩ dX11_blade_49) (fun u34 s36 h35 hf => ?_)
    exact gr_BI F h35 hf (hX18) (by decide) (by decide) dX11_blade_52

theorem dX5_compares_0 : decode cX5_compares 0 = .ok (.aload_n 0, 1) := by decide +kernel
theorem dX5_compares_1 : decode cX5_compares 1 = .ok (.getfield 23, 3) := by decide +kernel
theorem dX5_compares_4 : decode cX5_compares 4 = .ok (.iload_n 2, 1) := by decide +kernel
theorem dX5_compares_5 : decode cX5_compares 5 = .ok (.invokevirtual 115, 3) := by decide +kernel
theorem dX5_compares_8 : decode cX5_compares 8 = .ok (.istore_n 3, 1) := by decide +kernel
theorem dX5_compares_9 : decode cX5_compares 9 = .ok (.aload_n 0, 1) := by decide +kernel
theorem dX5_compares_10 : decode cX5_compares 10 = .ok (.getfield 20, 3) := by decide +kernel
theorem dX5_compares_13 : decode cX5_compares 13 = .ok (.iload_n 2, 1) := by decide +kernel
theorem dX5_compares_14 : decode cX5_compares 14 = .ok (.invokevirtual 115, 3) := by decide +kernel
theorem dX5_compares_17 : decode cX5_compares 17 = .ok (.bipush 60, 2) := by decide +kernel
theorem dX5_compares_19 : decode cX5_compares 19 = .ok (.if_icmp .ne 14, 3) := by decide +kernel
theorem dX5_compares_22 : decode cX5_compares 22 = .ok (.iload_n 1, 1) := by decide +kernel
theorem dX5_compares_23 : decode cX5_compares 23 = .ok (.iload_n 3, 1) := by decide +kernel
theorem dX5_compares_24 : decode cX5_compares 24 = .ok (.if_icmp .ge 7, 3) := by decide +kernel
theorem dX5_compares_27 : decode cX5_compares 27 = .ok (.iconst 1, 1) := by decide +kernel
theorem dX5_compares_28 : decode cX5_compares 28 = .ok (.goto 4, 3) := by decide +kernel
theorem dX5_compares_31 : decode cX5_compares 31 = .ok (.iconst 0, 1) := by decide +kernel
theorem dX5_compares_32 : decode cX5_compares 32 = .ok (.ireturn, 1) := by decide +kernel
theorem dX5_compares_33 : decode cX5_compares 33 = .ok (.aload_n 0, 1) := by decide +kernel
theorem dX5_compares_34 : decode cX5_compares 34 = .ok (.getfield 20, 3) := by decide +kernel
theorem dX5_compares_37 : decode cX5_compares 37 = .ok (.iload_n 2, 1) := by decide +kernel
theorem dX5_compares_38 : decode cX5_compares 38 = .ok (.invokevirtual 115, 3) := by decide +kernel
theorem dX5_compares_41 : decode cX5_compares 41 = .ok (.bipush 62, 2) := by decide +kernel
theorem dX5_compares_43 : decode cX5_compares 43 = .ok (.if_icmp .ne 16, 3) := by decide +kernel
theorem dX5_compares_46 : decode cX5_compares 46 = .ok (.iload_n 1, 1) := by decide +kernel
theorem dX5_compares_47 : decode cX5_compares 47 = .ok (.iload_n 3, 1) := by decide +kernel
theorem dX5_compares_48 : decode cX5_compares 48 = .ok (.if_icmp .le 7, 3) := by decide +kernel
theorem dX5_compares_51 : decode cX5_compares 51 = .ok (.iconst 1, 1) := by decide +kernel
theorem dX5_compares_52 : decode cX5_compares 52 = .ok (.goto 17, 3) := by decide +kernel
theorem dX5_compares_55 : decode cX5_compares 55 = .ok (.iconst 0, 1) := by decide +kernel
theorem dX5_compares_56 : decode cX5_compares 56 = .ok (.goto 13, 3) := by decide +kernel
theorem dX5_compares_59 : decode cX5_compares 59 = .ok (.iload_n 1, 1) := by decide +kernel
theorem dX5_compares_60 : decode cX5_compares 60 = .ok (.iload_n 3, 1) := by decide +kernel
theorem dX5_compares_61 : decode cX5_compares 61 = .ok (.if_icmp .ne 7, 3) := by decide +kernel
theorem dX5_compares_64 : decode cX5_compares 64 = .ok (.iconst 1, 1) := by decide +kernel
theorem dX5_compares_65 : decode cX5_compares 65 = .ok (.goto 4, 3) := by decide +kernel
theorem dX5_compares_68 : decode cX5_compares 68 = .ok (.iconst 0, 1) := by decide +kernel
theorem dX5_compares_69 : decode cX5_compares 69 = .ok (.ireturn, 1) := by decide +kernel
theorem hcX5_compares : yX5_compares.cls ≠ "java/lang/invoke/MethodHandle" ∧ yX5_compares.cls ≠ "java/lang/invoke/VarHandle" ∧ (parseMethodDescriptor yX5_compares.desc).map (fun d => d.parameters.length) = some 2 := ⟨by decide +kernel, by decide +kernel, by decide +kernel⟩
def fX5_compares (La : sg_L) (s0 : sg_M) (o : Int) (x1 : Int) (x2 : Int) (Q : Int → Prop) : Prop := fX4_at La s0 (o + 5) x2 (fun u2 => fX4_at La s0 (o + 3) x2 (fun u5 => ((u5 ≠ 60 → fX4_at La s0 (o + 3) x2 (fun u9 => ((u9 ≠ 62 → ((x1 ≠ u2 → Q 0) ∧ (x1 = u2 → Q 1))) ∧ (u9 = 62 → ((x1 ≤ u2 → Q 0) ∧ (¬ (x1 ≤ u2) → Q 1)))))) ∧ (u5 = 60 → ((u2 ≤ x1 → Q 0) ∧ (¬ (u2 ≤ x1) → Q 1))))))
set_option maxHeartbeats 4000000 in
set_option maxRecDepth 100000 in
theorem CX5_compares {l : Launch} {G : sg_G} {La : sg_L} {s0 : sg_M} {o : Int} (to : sg_O La o 5) {x1 : Int} (r1 : sg_R x1) {x2 : Int} (r2 : sg_R x2) {Q : Int → Prop} (hf : fX5_compares La s0 o x1 x2 Q) : sg_C l G yX5_compares cX5_compares 4 (some .boolean) 2 0 0 La s0 [sg_r o, sg_i x1, sg_i x2] (sg_PZ La s0 Q) := by
  refine sg_body (by decide +kernel) (Nat.le_of_ble_eq_true rfl) ?_
  intro p e s m args below meth c F hnm
  unfold fX5_compares at hf
  show sg_W p l e (sg_rm 2 0 0) s m args below meth c (MQ below (sg_Q (some .boolean) G La s.heap.size (sg_PZ La s0 Q)) args s 0 0 (sg_A La s.heap.size)) 4 G (sg_A La s.heap.size) La s0 0 0 0 [(0, sg_r o), (1, sg_i x1), (2, sg_i x2)] []
  refine gw_aload_n F 0 rfl rfl to.1 dX5_compares_0 ?_
  refine gw_get3 F to (by decide) rfl sg_lay_RX5 (j := 2) (by decide) (o1 := (o + 5)) (by first | rfl | omega) rfl (host := "") (.inl kw_209) dX5_compares_1 (fun h1 => ?_)
  refine gw_iload_n F 2 rfl rfl dX5_compares_4 ?_
  refine gk_PI F (gc_V F (S := []) (As := [sg_i x2]) (T := TX4) (N := 3) (CX4_at (sg_O_of h1 (by decide)) r2 hf) (sg_O_of h1 (by decide)) (by decide) rfl kw_546 kw_97 kw_847 kw_544 kw_545 hcX4_at ⟨by decide, by decide⟩ rfl rfl (Nat.le_of_ble_eq_true rfl) ⟨by decide, by decide⟩ dX5_compares_5) (fun u2 h3 hf => ?_)
  refine gw_istore_n F rfl (by decide) rfl dX5_compares_8 ?_
  refine gw_aload_n F 1 rfl rfl to.1 dX5_compares_9 ?_
  refine gw_get3 F to (by decide) rfl sg_lay_RX5 (j := 1) (by decide) (o1 := (o + 3)) (by first | rfl | omega) rfl (host := "") (.inl kw_208) dX5_compares_10 (fun h4 => ?_)
  refine gw_iload_n F 3 rfl rfl dX5_compares_13 ?_
  refine gk_PI F (gc_V F (S := []) (As := [sg_i x2]) (T := TX4) (N := 3) (CX4_at (sg_O_of h4 (by decide)) r2 hf) (sg_O_of h4 (by decide)) (by decide) rfl kw_546 kw_97 kw_847 kw_544 kw_545 hcX4_at ⟨by decide, by decide⟩ rfl rfl (Nat.le_of_ble_eq_true rfl) ⟨by decide, by decide⟩ dX5_compares_14) (fun u5 h6 hf => ?_)
  refine gw_bipush F rfl dX5_compares_17 ?_
  refine gw_icmp_ne F (tgt := 33) dX5_compares_19 (by decide) h6 (by decide) (fun c7 => ?_) (fun c7 => ?_)
  · have hf := hf.1 c7
    refine gw_aload_n F 1 rfl rfl to.1 dX5_compares_33 ?_
    refine gw_get3 F to (by decide) rfl sg_lay_RX5 (j := 1) (by decide) (o1 := (o + 3)) (by first | rfl | omega) rfl (host := "") (.inl kw_208) dX5_compares_34 (fun h8 => ?_)
    refine gw_iload_n F 3 rfl rfl dX5_compares_37 ?_
    refine gk_PI F (gc_V F (S := []) (As := [sg_i x2]) (T := TX4) (N := 3) (CX4_at (sg_O_of h8 (by decide)) r2 hf) (sg_O_of h8 (by decide)) (by decide) rfl kw_546 kw_97 kw_847 kw_544 kw_545 hcX4_at ⟨by decide, by decide⟩ rfl rfl (Nat.le_of_ble_eq_true rfl) ⟨by decide, by decide⟩ dX5_compares_38) (fun u9 h10 hf => ?_)
    refine gw_bipush F rfl dX5_compares_41 ?_
    refine gw_icmp_ne F (tgt := 59) dX5_compares_43 (by decide) h10 (by decide) (fun c11 => ?_) (fun c11 => ?_)
    · have hf := hf.1 c11
      refine gw_iload_n F 2 rfl rfl dX5_compares_59 ?_
      refine gw_iload_n F 0 rfl rfl dX5_compares_60 ?_
      refine gw_icmp_ne F (tgt := 68) dX5_compares_61 (by decide) r1 h3 (fun c12 => ?_) (fun c12 => ?_)
      · have hf := hf.1 c12
        refine gw_iconst F dX5_compares_68 ?_
        exact gr_PZ F (by decide) hf (by decide) (by decide) dX5_compares_69
      · have hf := hf.2 c12
        refine gw_iconst F dX5_compares_64 ?_
        refine gw_goto F (tgt := 69) dX5_compares_65 (by decide) ?_
        exact gr_PZ F (by decide) hf (by decide) (by decide) dX5_compares_69
    · have hf := hf.2 c11
      refine gw_iload_n F 2 rfl rfl dX5_compares_46 ?_
      refine gw_iload_n F 0 rfl rfl dX5_compares_47 ?_
      refine gw_icmp_le F (tgt := 55) dX5_compares_48 (by decide) r1 h3 (fun c13 => ?_) (fun c13 => ?_)
      · have hf := hf.1 c13
        refine gw_iconst F dX5_compares_55 ?_
        refine gw_goto F (tgt := 69) dX5_compares_56 (by decide) ?_
        exact gr_PZ F (by decide) hf (by decide) (by decide) dX5_compares_69
      · have hf := hf.2 c13
        refine gw_iconst F dX5_compares_51 ?_
        refine gw_goto F (tgt := 69) dX5_compares_52 (by decide) ?_
        exact gr_PZ F (by decide) hf (by decide) (by decide) dX5_compares_69
  · have hf := hf.2 c7
    refine gw_iload_n F 2 rfl rfl dX5_compares_22 ?_
    refine gw_iload_n F 0 rfl rfl dX5_compares_23 ?_
    refine gw_icmp_ge F (tgt := 31) dX5_compares_24 (by decide) r1 h3 (fun c14 => ?_) (fun c14 => ?_)
    · have hf := hf.1 c14
      refine gw_iconst F dX5_compares_31 ?_
      exact gr_PZ F (by decide) hf (by decide) (by decide) dX5_compares_32
    · have hf := hf.2 c14
      refine gw_iconst F dX5_compares_27 ?_
      refine gw_goto F (tgt := 32) dX5_compares_28 (by decide) ?_
      exact gr_PZ F (by decide) hf (by decide) (by decide) dX5_compares_32

theorem dX11_rangeOfTrial_0 : decode cX11_rangeOfTrial 0 = .ok (.sipush 2000, 3) := by decide +kernel
theorem dX11_rangeOfTrial_3 : decode cX11_rangeOfTrial 3 = .ok (.istore_n 1, 1) := by decide +kernel
theorem dX11_rangeOfTrial_4 : decode cX11_rangeOfTrial 4 = .ok (.iconst 0, 1) := by decide +kernel
theorem dX11_rangeOfTrial_5 : decode cX11_rangeOfTrial 5 = .ok (.istore_n 2, 1) := by decide +kernel
theorem dX11_rangeOfTrial_6 : decode cX11_rangeOfTrial 6 = .ok (.iconst 0, 1) := by decide +kernel
theorem dX11_rangeOfTrial_7 : decode cX11_rangeOfTrial 7 = .ok (.istore_n 3, 1) := by decide +kernel
theorem dX11_rangeOfTrial_8 : decode cX11_rangeOfTrial 8 = .ok (.iload_n 3, 1) := by decide +kernel
theorem dX11_rangeOfTrial_9 : decode cX11_rangeOfTrial 9 = .ok (.aload_n 0, 1) := by decide +kernel
theorem dX11_rangeOfTrial_10 : decode cX11_rangeOfTrial 10 = .ok (.getfield 39, 3) := by decide +kernel
theorem dX11_rangeOfTrial_13 : decode cX11_rangeOfTrial 13 = .ok (.getfield 237, 3) := by decide +kernel
theorem dX11_rangeOfTrial_16 : decode cX11_rangeOfTrial 16 = .ok (.getfield 241, 3) := by decide +kernel
theorem dX11_rangeOfTrial_19 : decode cX11_rangeOfTrial 19 = .ok (.if_icmp .ge 93, 3) := by decide +kernel
theorem dX11_rangeOfTrial_22 : decode cX11_rangeOfTrial 22 = .ok (.aload_n 0, 1) := by decide +kernel
theorem dX11_rangeOfTrial_23 : decode cX11_rangeOfTrial 23 = .ok (.aload_n 0, 1) := by decide +kernel
theorem dX11_rangeOfTrial_24 : decode cX11_rangeOfTrial 24 = .ok (.getfield 47, 3) := by decide +kernel
theorem dX11_rangeOfTrial_27 : decode cX11_rangeOfTrial 27 = .ok (.aload_n 0, 1) := by decide +kernel
theorem dX11_rangeOfTrial_28 : decode cX11_rangeOfTrial 28 = .ok (.getfield 39, 3) := by decide +kernel
theorem dX11_rangeOfTrial_31 : decode cX11_rangeOfTrial 31 = .ok (.getfield 237, 3) := by decide +kernel
theorem dX11_rangeOfTrial_34 : decode cX11_rangeOfTrial 34 = .ok (.getfield 352, 3) := by decide +kernel
theorem dX11_rangeOfTrial_37 : decode cX11_rangeOfTrial 37 = .ok (.iload_n 3, 1) := by decide +kernel
theorem dX11_rangeOfTrial_38 : decode cX11_rangeOfTrial 38 = .ok (.invokevirtual 182, 3) := by decide +kernel
theorem dX11_rangeOfTrial_41 : decode cX11_rangeOfTrial 41 = .ok (.aload_n 0, 1) := by decide +kernel
theorem dX11_rangeOfTrial_42 : decode cX11_rangeOfTrial 42 = .ok (.getfield 39, 3) := by decide +kernel
theorem dX11_rangeOfTrial_45 : decode cX11_rangeOfTrial 45 = .ok (.getfield 237, 3) := by decide +kernel
theorem dX11_rangeOfTrial_48 : decode cX11_rangeOfTrial 48 = .ok (.getfield 355, 3) := by decide +kernel
theorem dX11_rangeOfTrial_51 : decode cX11_rangeOfTrial 51 = .ok (.iload_n 3, 1) := by decide +kernel
theorem dX11_rangeOfTrial_52 : decode cX11_rangeOfTrial 52 = .ok (.invokevirtual 182, 3) := by decide +kernel
theorem dX11_rangeOfTrial_55 : decode cX11_rangeOfTrial 55 = .ok (.invokevirtual 225, 3) := by decide +kernel
theorem dX11_rangeOfTrial_58 : decode cX11_rangeOfTrial 58 = .ok (.aload_n 0, 1) := by decide +kernel
theorem dX11_rangeOfTrial_59 : decode cX11_rangeOfTrial 59 = .ok (.getfield 54, 3) := by decide +kernel
theorem dX11_rangeOfTrial_62 : decode cX11_rangeOfTrial 62 = .ok (.getfield 175, 3) := by decide +kernel
theorem dX11_rangeOfTrial_65 : decode cX11_rangeOfTrial 65 = .ok (.iconst (-1), 1) := by decide +kernel
theorem dX11_rangeOfTrial_66 : decode cX11_rangeOfTrial 66 = .ok (.if_icmp .eq 6, 3) := by decide +kernel
theorem dX11_rangeOfTrial_69 : decode cX11_rangeOfTrial 69 = .ok (.bipush (-2), 2) := by decide +kernel
theorem dX11_rangeOfTrial_71 : decode cX11_rangeOfTrial 71 = .ok (.ireturn, 1) := by decide +kernel
theorem dX11_rangeOfTrial_72 : decode cX11_rangeOfTrial 72 = .ok (.aload_n 0, 1) := by decide +kernel
theorem dX11_rangeOfTrial_73 : decode cX11_rangeOfTrial 73 = .ok (.getfield 54, 3) := by decide +kernel
theorem dX11_rangeOfTrial_76 : decode cX11_rangeOfTrial 76 = .ok (.getfield 228, 3) := by decide +kernel
theorem dX11_rangeOfTrial_79 : decode cX11_rangeOfTrial 79 = .ok (.ifCond .le 27, 3) := by decide +kernel
theorem dX11_rangeOfTrial_82 : decode cX11_rangeOfTrial 82 = .ok (.iload_n 1, 1) := by decide +kernel
theorem dX11_rangeOfTrial_83 : decode cX11_rangeOfTrial 83 = .ok (.aload_n 0, 1) := by decide +kernel
theorem dX11_rangeOfTrial_84 : decode cX11_rangeOfTrial 84 = .ok (.getfield 54, 3) := by decide +kernel
theorem dX11_rangeOfTrial_87 : decode cX11_rangeOfTrial 87 = .ok (.getfield 228, 3) := by decide +kernel
theorem dX11_rangeOfTrial_90 : decode cX11_rangeOfTrial 90 = .ok (.invokestatic 297, 3) := by decide +kernel
theorem dX11_rangeOfTrial_93 : decode cX11_rangeOfTrial 93 = .ok (.istore_n 1, 1) := by decide +kernel
theorem dX11_rangeOfTrial_94 : decode cX11_rangeOfTrial 94 = .ok (.iload_n 2, 1) := by decide +kernel
theorem dX11_rangeOfTrial_95 : decode cX11_rangeOfTrial 95 = .ok (.aload_n 0, 1) := by decide +kernel
theorem dX11_rangeOfTrial_96 : decode cX11_rangeOfTrial 96 = .ok (.getfield 54, 3) := by decide +kernel
theorem dX11_rangeOfTrial_99 : decode cX11_rangeOfTrial 99 = .ok (.getfield 228, 3) := by decide +kernel
theorem dX11_rangeOfTrial_102 : decode cX11_rangeOfTrial 102 = .ok (.invokestatic 291, 3) := by decide +kernel
theorem dX11_rangeOfTrial_105 : decode cX11_rangeOfTrial 105 = .ok (.istore_n 2, 1) := by decide +kernel
theorem dX11_rangeOfTrial_106 : decode cX11_rangeOfTrial 106 = .ok (.iinc 3 1, 3) := by decide +kernel
theorem dX11_rangeOfTrial_109 : decode cX11_rangeOfTrial 109 = .ok (.goto (-101), 3) := by decide +kernel
theorem dX11_rangeOfTrial_112 : decode cX11_rangeOfTrial 112 = .ok (.iload_n 2, 1) := by decide +kernel
theorem dX11_rangeOfTrial_113 : decode cX11_rangeOfTrial 113 = .ok (.ifCond .ne 7, 3) := by decide +kernel
theorem dX11_rangeOfTrial_116 : decode cX11_rangeOfTrial 116 = .ok (.iconst (-1), 1) := by decide +kernel
theorem dX11_rangeOfTrial_117 : decode cX11_rangeOfTrial 117 = .ok (.goto 6, 3) := by decide +kernel
theorem dX11_rangeOfTrial_120 : decode cX11_rangeOfTrial 120 = .ok (.iload_n 2, 1) := by decide +kernel
theorem dX11_rangeOfTrial_121 : decode cX11_rangeOfTrial 121 = .ok (.iload_n 1, 1) := by decide +kernel
theorem dX11_rangeOfTrial_122 : decode cX11_rangeOfTrial 122 = .ok (.isub, 1) := by decide +kernel
theorem dX11_rangeOfTrial_123 : decode cX11_rangeOfTrial 123 = .ok (.ireturn, 1) := by decide +kernel
theorem hcX11_rangeOfTrial : yX11_rangeOfTrial.cls ≠ "java/lang/invoke/MethodHandle" ∧ yX11_rangeOfTrial.cls ≠ "java/lang/invoke/VarHandle" ∧ (parseMethodDescriptor yX11_rangeOfTrial.desc).map (fun d => d.parameters.length) = some 0 := ⟨by decide +kernel, by decide +kernel, by decide +kernel⟩
def fX11_rangeOfTrial_j106 (x3_8 : Int) (s16 : sg_M) (k8 : sg_M → Int → Int → Int → Prop) (x1_106 : Int) (x2_106 : Int) : Prop := sg_R (x3_8 + 1) ∧ k8 s16 x1_106 x2_106 (x3_8 + 1)
def fX11_rangeOfTrial_L8 (La : sg_L) (Q : Int → sg_M → Prop) (k112 : sg_M → Int → Int → Prop) : Nat → sg_M → Int → Int → Int → Prop
  | 0, _, _, _, _ => False
  | n_8 + 1, s_8, x1_8, x2_8, x3_8 => (((s_8 20 2) ≤ x3_8 → k112 s_8 x1_8 x2_8) ∧ (¬ ((s_8 20 2) ≤ x3_8) → fX4_at La s_8 21 x3_8 (fun u9 => fX4_at La s_8 23 x3_8 (fun u14 => fX11_listenTo La s_8 27 u9 u14 (fun s16 => (((s16 32 5) = (-1) → (((s16 32 7) ≤ 0 → (fX11_rangeOfTrial_j106 x3_8 s16 (fX11_rangeOfTrial_L8 La Q k112 n_8)) x1_8 x2_8) ∧ (¬ ((s16 32 7) ≤ 0) → (fX11_rangeOfTrial_j106 x3_8 s16 (fX11_rangeOfTrial_L8 La Q k112 n_8)) (sg_min x1_8 (s16 32 7)) (sg_max x2_8 (s16 32 7))))) ∧ (¬ ((s16 32 5) = (-1)) → Q (-2) s16)))))))
def fX11_rangeOfTrial (La : sg_L) (s0 : sg_M) (Q : Int → sg_M → Prop) : Prop := (∃ n28 : Nat, fX11_rangeOfTrial_L8 La Q (fun s_112e8 x1_112e8 x2_112e8 => ((x2_112e8 ≠ 0 → sg_R (x2_112e8 - x1_112e8) ∧ Q (x2_112e8 - x1_112e8) s_112e8) ∧ (x2_112e8 = 0 → Q (-1) s_112e8))) n28 s0 2000 0 0)
set_option maxHeartbeats 4000000 in
set_option maxRecDepth 100000 in
theorem CX11_rangeOfTrial {l : Launch} {G : sg_G} {La : sg_L} {s0 : sg_M} (hst : sg_St La) {Q : Int → sg_M → Prop} (hf : fX11_rangeOfTrial La s0 Q) : sg_C l G yX11_rangeOfTrial cX11_rangeOfTrial 4 (some .int) 6 0 0 La s0 [sg_r 0] (sg_HI La Q) := by
  refine sg_body (by decide +kernel) (Nat.le_of_ble_eq_true rfl) ?_
  intro p e s m args below meth c F hnm
  unfold fX11_rangeOfTrial at hf
  show sg_W p l e (sg_rm 6 0 0) s m args below meth c (MQ below (sg_Q (some .int) G La s.heap.size (sg_HI La Q)) args s 0 0 (sg_A La s.heap.size)) 4 G (sg_A La s.heap.size) La s0 0 0 0 [(0, sg_r 0)] []
  refine gw_sipush F rfl dX11_rangeOfTrial_0 ?_
  refine gw_istore_n F rfl (by decide) rfl dX11_rangeOfTrial_3 ?_
  refine gw_iconst F dX11_rangeOfTrial_4 ?_
  refine gw_istore_n F rfl (by decide) rfl dX11_rangeOfTrial_5 ?_
  refine gw_iconst F dX11_rangeOfTrial_6 ?_
  refine gw_istore_n F rfl (by decide) rfl dX11_rangeOfTrial_7 ?_
  have L8 : ∀ (k112 : sg_M → Int → Int → Prop) (hk112 : ∀ (s_112e8 : sg_M) (x1_112e8 : Int) (x2_112e8 : Int), sg_R x1_112e8 → sg_R x2_112e8 → k112 s_112e8 x1_112e8 x2_112e8 → sg_W p l e (sg_rm 6 0 0) s m args below meth c (MQ below (sg_Q (some .int) G La s.heap.size (sg_HI La Q)) args s 0 0 (sg_A La s.heap.size)) 4 G (sg_A La s.heap.size) La s_112e8 0 0 112 [(1, sg_i x1_112e8), (2, sg_i x2_112e8)] []), ∀ n_8 : Nat, ∀ (s_8 : sg_M) (x1_8 : Int) (x2_8 : Int) (x3_8 : Int), sg_R x1_8 → sg_R x2_8 → sg_R x3_8 → fX11_rangeOfTrial_L8 La Q k112 n_8 s_8 x1_8 x2_8 x3_8 → sg_W p l e (sg_rm 6 0 0) s m args below meth c (MQ below (sg_Q (some .int) G La s.heap.size (sg_HI La Q)) args s 0 0 (sg_A La s.heap.size)) 4 G (sg_A La s.heap.size) La s_8 0 0 8 [(0, sg_r 0), (1, sg_i x1_8), (2, sg_i x2_8), (3, sg_i x3_8)] [] := by
    intro k112 hk112 n_8
    induction n_8 with
    | zero => intro s_8 x1_8 x2_8 x3_8 r1_8 r2_8 r3_8 hf; exact hf.elim
    | succ n_8 ih =>
      intro s_8 x1_8 x2_8 x3_8 r1_8 r2_8 r3_8 hf
      unfold fX11_rangeOfTrial_L8 at hf
      refine gw_iload_n F 3 rfl rfl dX11_rangeOfTrial_8 ?_
      refine gw_aload_n F 0 rfl rfl (by decide) dX11_rangeOfTrial_9 ?_
      refine gw_get7 F (so_0 hst) (by decide) rfl sg_lay_RX11 (j := 2) (by decide) (o1 := 4) (by first | rfl | omega) rfl (host := "") (.inl kw_328) dX11_rangeOfTrial_10 (fun h1 => ?_)
      refine gw_get7 F (so_4 hst) (by decide) rfl sg_lay_RX7 (j := 3) (by decide) (o1 := 20) (by first | rfl | omega) rfl (.inr kw_240) dX11_rangeOfTrial_13 (fun h2 => ?_)
      refine gw_get0 F (so_20 hst) (by decide) rfl sg_lay_RX2 (j := 2) (by decide) rfl (.inr kw_230) dX11_rangeOfTrial_16 (fun h3 => ?_)
      refine gw_icmp_ge F (tgt := 112) dX11_rangeOfTrial_19 (by decide) r3_8 h3 (fun c4 => ?_) (fun c4 => ?_)
      · have hf := hf.1 c4
        refine gw_sub [1, 2] rfl ?_
        exact hk112 s_8 x1_8 x2_8 r1_8 r2_8 hf
      · have hf := hf.2 c4
        refine gw_aload_n F 0 rfl rfl (by decide) dX11_rangeOfTrial_22 ?_
        refine gw_aload_n F 0 rfl rfl (by decide) dX11_rangeOfTrial_23 ?_
        refine gw_get7 F (so_0 hst) (by decide) rfl sg_lay_RX11 (j := 4) (by decide) (o1 := 27) (by first | rfl | omega) rfl (host := "") (.inl kw_330) dX11_rangeOfTrial_24 (fun h5 => ?_)
        refine gw_aload_n F 0 rfl rfl (by decide) dX11_rangeOfTrial_27 ?_
        refine gw_get7 F (so_0 hst) (by decide) rfl sg_lay_RX11 (j := 2) (by decide) (o1 := 4) (by first | rfl | omega) rfl (host := "") (.inl kw_328) dX11_rangeOfTrial_28 (fun h6 => ?_)
        refine gw_get7 F (so_4 hst) (by decide) rfl sg_lay_RX7 (j := 3) (by decide) (o1 := 20) (by first | rfl | omega) rfl (.inr kw_240) dX11_rangeOfTrial_31 (fun h7 => ?_)
        refine gw_get3 F (so_20 hst) (by decide) rfl sg_lay_RX2 (j := 0) (by decide) (o1 := 21) (by first | rfl | omega) rfl (.inr kw_225) dX11_rangeOfTrial_34 (fun h8 => ?_)
        refine gw_iload_n F 3 rfl rfl dX11_rangeOfTrial_37 ?_
        refine gk_PI F (gc_V F (S := [sg_r 27, sg_r 0]) (As := [sg_i x3_8]) (T := TX4) (N := 3) (CX4_at (so_21 hst) r3_8 hf) (so_21 hst) (by decide) rfl kw_546 kw_97 kw_543 kw_544 kw_545 hcX4_at ⟨by decide, by decide⟩ rfl rfl (Nat.le_of_ble_eq_true rfl) ⟨by decide, by decide⟩ dX11_rangeOfTrial_38) (fun u9 h10 hf => ?_)
        refine gw_aload_n F 0 rfl rfl (by decide) dX11_rangeOfTrial_41 ?_
        refine gw_get7 F (so_0 hst) (by decide) rfl sg_lay_RX11 (j := 2) (by decide) (o1 := 4) (by first | rfl | omega) rfl (host := "") (.inl kw_328) dX11_rangeOfTrial_42 (fun h11 => ?_)
        refine gw_get7 F (so_4 hst) (by decide) rfl sg_lay_RX7 (j := 3) (by decide) (o1 := 20) (by first | rfl | omega) rfl (.inr kw_240) dX11_rangeOfTrial_45 (fun h12 => ?_)
        refine gw_get3 F (so_20 hst) (by decide) rfl sg_lay_RX2 (j := 1) (by decide) (o1 := 23) (by first | rfl | omega) rfl (.inr kw_227) dX11_rangeOfTrial_48 (fun h13 => ?_)
        refine gw_iload_n F 3 rfl rfl dX11_rangeOfTrial_51 ?_
        refine gk_PI F (gc_V F (S := [sg_i u9, sg_r 27, sg_r 0]) (As := [sg_i x3_8]) (T := TX4) (N := 3) (CX4_at (so_23 hst) r3_8 hf) (so_23 hst) (by decide) rfl kw_546 kw_97 kw_543 kw_544 kw_545 hcX4_at ⟨by decide, by decide⟩ rfl rfl (Nat.le_of_ble_eq_true rfl) ⟨by decide, by decide⟩ dX11_rangeOfTrial_52) (fun u14 h15 hf => ?_)
        refine gk_HV F (gc_V F (S := []) (As := [sg_r 27, sg_i u9, sg_i u14]) (T := TX11) (N := 19) (CX11_listenTo hst (so_27 hst) h10 h15 hf) (so_0 hst) (by decide) rfl kw_655 kw_90 kw_653 kw_654 kw_20 hcX11_listenTo ⟨by decide, by decide⟩ rfl rfl (Nat.le_of_ble_eq_true rfl) ⟨by decide, by decide⟩ dX11_rangeOfTrial_55) (fun s16 hf => ?_)
        refine gw_aload_n F 0 rfl rfl (by decide) dX11_rangeOfTrial_58 ?_
        refine gw_get7 F (so_0 hst) (by decide) rfl sg_lay_RX11 (j := 5) (by decide) (o1 := 32) (by first | rfl | omega) rfl (host := "") (.inl kw_331) dX11_rangeOfTrial_59 (fun h17 => ?_)
        refine gw_get0 F (so_32 hst) (by decide) rfl sg_lay_RX0 (j := 5) (by decide) rfl (.inr kw_260) dX11_rangeOfTrial_62 (fun h18 => ?_)
        refine gw_iconst F dX11_rangeOfTrial_65 ?_
        refine gw_icmp_eq F (tgt := 72) dX11_rangeOfTrial_66 (by decide) h18 (by decide) (fun c19 => ?_) (fun c19 => ?_)
        · have hf := hf.1 c19
          refine gw_aload_n F 0 rfl rfl (by decide) dX11_rangeOfTrial_72 ?_
          refine gw_get7 F (so_0 hst) (by decide) rfl sg_lay_RX11 (j := 5) (by decide) (o1 := 32) (by first | rfl | omega) rfl (host := "") (.inl kw_331) dX11_rangeOfTrial_73 (fun h20 => ?_)
          refine gw_get0 F (so_32 hst) (by decide) rfl sg_lay_RX0 (j := 7) (by decide) rfl (.inr kw_266) dX11_rangeOfTrial_76 (fun h21 => ?_)
          have J106 : ∀ (x1_106 : Int) (x2_106 : Int), sg_R x1_106 → sg_R x2_106 → (fX11_rangeOfTrial_j106 x3_8 s16 (fX11_rangeOfTrial_L8 La Q k112 n_8)) x1_106 x2_106 → sg_W p l e (sg_rm 6 0 0) s m args below meth c (MQ below (sg_Q (some .int) G La s.heap.size (sg_HI La Q)) args s 0 0 (sg_A La s.heap.size)) 4 G (sg_A La s.heap.size) La s16 0 0 106 [(0, sg_r 0), (1, sg_i x1_106), (2, sg_i x2_106), (3, sg_i x3_8)] [] := by
            intro x1_106 x2_106 r1_106 r2_106 hf
            unfold fX11_rangeOfTrial_j106 at hf
            refine gw_iinc F (z := (x3_8 + 1)) 3 rfl (by omega) (by decide) rfl dX11_rangeOfTrial_106 ?_
            refine gw_goto F (tgt := 8) dX11_rangeOfTrial_109 (by decide) ?_
            obtain ⟨g22, hf⟩ := hf
            refine gw_sub [1, 2, 3, 0] rfl ?_
            exact ih s16 x1_106 x2_106 (x3_8 + 1) r1_106 r2_106 g22 hf
          refine gw_if_le F (tgt := 106) dX11_rangeOfTrial_79 (by decide) h21 (fun c23 => ?_) (fun c23 => ?_)
          · have hf := hf.1 c23
            refine gw_sub [0, 1, 2, 3] rfl ?_
            exact J106 x1_8 x2_8 r1_8 r2_8 hf
          · have hf := hf.2 c23
            refine gw_iload_n F 1 rfl rfl dX11_rangeOfTrial_82 ?_
            refine gw_aload_n F 0 rfl rfl (by decide) dX11_rangeOfTrial_83 ?_
            refine gw_get7 F (so_0 hst) (by decide) rfl sg_lay_RX11 (j := 5) (by decide) (o1 := 32) (by first | rfl | omega) rfl (host := "") (.inl kw_331) dX11_rangeOfTrial_84 (fun h24 => ?_)
            refine gw_get0 F (so_32 hst) (by decide) rfl sg_lay_RX0 (j := 7) (by decide) rfl (.inr kw_266) dX11_rangeOfTrial_87 (fun h25 => ?_)
            refine gw_min F r1_8 h25 rfl kw_522 kw_min1 kw_math kw_min2 (Nat.le_of_ble_eq_true rfl) (by decide) (by decide) (by decide) (by decide) dX11_rangeOfTrial_90 ?_
            refine gw_istore_n F rfl (by decide) rfl dX11_rangeOfTrial_93 ?_
            refine gw_iload_n F 2 rfl rfl dX11_rangeOfTrial_94 ?_
            refine gw_aload_n F 1 rfl rfl (by decide) dX11_rangeOfTrial_95 ?_
            refine gw_get7 F (so_0 hst) (by decide) rfl sg_lay_RX11 (j := 5) (by decide) (o1 := 32) (by first | rfl | omega) rfl (host := "") (.inl kw_331) dX11_rangeOfTrial_96 (fun h26 => ?_)
            refine gw_get0 F (so_32 hst) (by decide) rfl sg_lay_RX0 (j := 7) (by decide) rfl (.inr kw_266) dX11_rangeOfTrial_99 (fun h27 => ?_)
            refine gw_max F r2_8 h27 rfl kw_523 kw_max1 kw_math kw_max2 (Nat.le_of_ble_eq_true rfl) (by decide) (by decide) (by decide) (by decide) dX11_rangeOfTrial_102 ?_
            refine gw_istore_n F rfl (by decide) rfl dX11_rangeOfTrial_105 ?_
            refine gw_sub [2, 1, 0, 3] rfl ?_
            exact J106 (sg_min x1_8 (s16 32 7)) (sg_max x2_8 (s16 32 7)) (sg_min_R r1_8 h25) (sg_max_R r2_8 h27) hf
        · have hf := hf.2 c19
          refine gw_bipush F rfl dX11_rangeOfTrial_69 ?_
          exact gr_HI F (by decide) hf (by decide) (by decide) dX11_rangeOfTrial_71
  obtain ⟨n28, hf⟩ := hf
  refine gw_sub [3, 2, 1, 0] rfl ?_
  refine L8 _ (fun s_112e8 x1_112e8 x2_112e8 r1_112e8 r2_112e8 hf => ?_) n28 s0 2000 0 0 (by decide) (by decide) (by decide) hf
  refine gw_iload_n F 1 rfl rfl dX11_rangeOfTrial_112 ?_
  refine gw_if_ne F (tgt := 120) dX11_rangeOfTrial_113 (by decide) r2_112e8 (fun c29 => ?_) (fun c29 => ?_)
  · have hf := hf.1 c29
    refine gw_iload_n F 1 rfl rfl dX11_rangeOfTrial_120 ?_
    refine gw_iload_n F 0 rfl rfl dX11_rangeOfTrial_121 ?_
    refine gw_isub F rfl dX11_rangeOfTrial_122 ?_
    obtain ⟨g30, hf⟩ := hf
    exact gr_HI F g30 hf (by decide) (by decide) dX11_rangeOfTrial_123
  · have hf := hf.2 c29
    refine gw_iconst F dX11_rangeOfTrial_116 ?_
    refine gw_goto F (tgt := 123) dX11_rangeOfTrial_117 (by decide) ?_
    exact gr_HI F (by decide) hf (by decide) (by decide) dX11_rangeOfTrial_123

theorem dX11_form_0 : decode cX11_form 0 = .ok (.iload_n 1, 1) := by decide +kernel
theorem dX11_form_1 : decode cX11_form 1 = .ok (.iconst 1, 1) := by decide +kernel
theorem dX11_form_2 : decode cX11_form 2 = .ok (.if_icmp .lt 34, 3) := by decide +kernel
theorem dX11_form_5 : decode cX11_form 5 = .ok (.iload_n 2, 1) := by decide +kernel
theorem dX11_form_6 : decode cX11_form 6 = .ok (.bipush 20, 2) := by decide +kernel
theorem dX11_form_8 : decode cX11_form 8 = .ok (.if_icmp .gt 28, 3) := by decide +kernel
theorem dX11_form_11 : decode cX11_form 11 = .ok (.iload_n 1, 1) := by decide +kernel
theorem dX11_form_12 : decode cX11_form 12 = .ok (.iload_n 2, 1) := by decide +kernel
theorem dX11_form_13 : decode cX11_form 13 = .ok (.if_icmp .gt 23, 3) := by decide +kernel
theorem dX11_form_16 : decode cX11_form 16 = .ok (.iload_n 2, 1) := by decide +kernel
theorem dX11_form_17 : decode cX11_form 17 = .ok (.iload_n 1, 1) := by decide +kernel
theorem dX11_form_18 : decode cX11_form 18 = .ok (.isub, 1) := by decide +kernel
theorem dX11_form_19 : decode cX11_form 19 = .ok (.iconst 5, 1) := by decide +kernel
theorem dX11_form_20 : decode cX11_form 20 = .ok (.if_icmp .gt 16, 3) := by decide +kernel
theorem dX11_form_23 : decode cX11_form 23 = .ok (.aload_n 0, 1) := by decide +kernel
theorem dX11_form_24 : decode cX11_form 24 = .ok (.getfield 39, 3) := by decide +kernel
theorem dX11_form_27 : decode cX11_form 27 = .ok (.getfield 237, 3) := by decide +kernel
theorem dX11_form_30 : decode cX11_form 30 = .ok (.getfield 241, 3) := by decide +kernel
theorem dX11_form_33 : decode cX11_form 33 = .ok (.ifCond .ne 6, 3) := by decide +kernel
theorem dX11_form_36 : decode cX11_form 36 = .ok (.bipush (-2), 2) := by decide +kernel
theorem dX11_form_38 : decode cX11_form 38 = .ok (.ireturn, 1) := by decide +kernel
theorem dX11_form_39 : decode cX11_form 39 = .ok (.aload_n 0, 1) := by decide +kernel
theorem dX11_form_40 : decode cX11_form 40 = .ok (.getfield 47, 3) := by decide +kernel
theorem dX11_form_43 : decode cX11_form 43 = .ok (.aload_n 0, 1) := by decide +kernel
theorem dX11_form_44 : decode cX11_form 44 = .ok (.getfield 39, 3) := by decide +kernel
theorem dX11_form_47 : decode cX11_form 47 = .ok (.getfield 112, 3) := by decide +kernel
theorem dX11_form_50 : decode cX11_form 50 = .ok (.invokevirtual 312, 3) := by decide +kernel
theorem dX11_form_53 : decode cX11_form 53 = .ok (.iconst (-1), 1) := by decide +kernel
theorem dX11_form_54 : decode cX11_form 54 = .ok (.istore_n 3, 1) := by decide +kernel
theorem dX11_form_55 : decode cX11_form 55 = .ok (.bipush (-2), 2) := by decide +kernel
theorem dX11_form_57 : decode cX11_form 57 = .ok (.istore 4, 2) := by decide +kernel
theorem dX11_form_59 : decode cX11_form 59 = .ok (.iload_n 1, 1) := by decide +kernel
theorem dX11_form_60 : decode cX11_form 60 = .ok (.istore 5, 2) := by decide +kernel
theorem dX11_form_62 : decode cX11_form 62 = .ok (.iload 5, 2) := by decide +kernel
theorem dX11_form_64 : decode cX11_form 64 = .ok (.iload_n 2, 1) := by decide +kernel
theorem dX11_form_65 : decode cX11_form 65 = .ok (.if_icmp .gt 61, 3) := by decide +kernel
theorem dX11_form_68 : decode cX11_form 68 = .ok (.iload_n 1, 1) := by decide +kernel
theorem dX11_form_69 : decode cX11_form 69 = .ok (.istore 6, 2) := by decide +kernel
theorem dX11_form_71 : decode cX11_form 71 = .ok (.iload 6, 2) := by decide +kernel
theorem dX11_form_73 : decode cX11_form 73 = .ok (.iload_n 2, 1) := by decide +kernel
theorem dX11_form_74 : decode cX11_form 74 = .ok (.if_icmp .gt 46, 3) := by decide +kernel
theorem dX11_form_77 : decode cX11_form 77 = .ok (.aload_n 0, 1) := by decide +kernel
theorem dX11_form_78 : decode cX11_form 78 = .ok (.getfield 47, 3) := by decide +kernel
theorem dX11_form_81 : decode cX11_form 81 = .ok (.iload 5, 2) := by decide +kernel
theorem dX11_form_83 : decode cX11_form 83 = .ok (.iload 6, 2) := by decide +kernel
theorem dX11_form_85 : decode cX11_form 85 = .ok (.invokevirtual 316, 3) := by decide +kernel
theorem dX11_form_88 : decode cX11_form 88 = .ok (.aload_n 0, 1) := by decide +kernel
theorem dX11_form_89 : decode cX11_form 89 = .ok (.invokevirtual 319, 3) := by decide +kernel
theorem dX11_form_92 : decode cX11_form 92 = .ok (.istore 7, 2) := by decide +kernel
theorem dX11_form_94 : decode cX11_form 94 = .ok (.iload 7, 2) := by decide +kernel
theorem dX11_form_96 : decode cX11_form 96 = .ok (.iload 4, 2) := by decide +kernel
theorem dX11_form_98 : decode cX11_form 98 = .ok (.if_icmp .le 16, 3) := by decide +kernel
theorem dX11_form_101 : decode cX11_form 101 = .ok (.iload 7, 2) := by decide +kernel
theorem dX11_form_103 : decode cX11_form 103 = .ok (.istore 4, 2) := by decide +kernel
theorem dX11_form_105 : decode cX11_form 105 = .ok (.bipush 100, 2) := by decide +kernel
theorem dX11_form_107 : decode cX11_form 107 = .ok (.iload 5, 2) := by decide +kernel
theorem dX11_form_109 : decode cX11_form 109 = .ok (.imul, 1) := by decide +kernel
theorem dX11_form_110 : decode cX11_form 110 = .ok (.iload 6, 2) := by decide +kernel
theorem dX11_form_112 : decode cX11_form 112 = .ok (.iadd, 1) := by decide +kernel
theorem dX11_form_113 : decode cX11_form 113 = .ok (.istore_n 3, 1) := by decide +kernel
theorem dX11_form_114 : decode cX11_form 114 = .ok (.iinc 6 1, 3) := by decide +kernel
theorem dX11_form_117 : decode cX11_form 117 = .ok (.goto (-46), 3) := by decide +kernel
theorem dX11_form_120 : decode cX11_form 120 = .ok (.iinc 5 1, 3) := by decide +kernel
theorem dX11_form_123 : decode cX11_form 123 = .ok (.goto (-61), 3) := by decide +kernel
theorem dX11_form_126 : decode cX11_form 126 = .ok (.iload_n 3, 1) := by decide +kernel
theorem dX11_form_127 : decode cX11_form 127 = .ok (.ifCond .le 9, 3) := by decide +kernel
theorem dX11_form_130 : decode cX11_form 130 = .ok (.aload_n 0, 1) := by decide +kernel
theorem dX11_form_131 : decode cX11_form 131 = .ok (.iload 4, 2) := by decide +kernel
theorem dX11_form_133 : decode cX11_form 133 = .ok (.putfield 109, 3) := by decide +kernel
theorem dX11_form_136 : decode cX11_form 136 = .ok (.iload_n 3, 1) := by decide +kernel
theorem dX11_form_137 : decode cX11_form 137 = .ok (.ireturn, 1) := by decide +kernel
theorem hcX11_form : yX11_form.cls ≠ "java/lang/invoke/MethodHandle" ∧ yX11_form.cls ≠ "java/lang/invoke/VarHandle" ∧ (parseMethodDescriptor yX11_form.desc).map (fun d => d.parameters.length) = some 2 := ⟨by decide +kernel, by decide +kernel, by decide +kernel⟩
def fX11_form_j114 (x6_71 : Int) (s22 : sg_M) (k71 : sg_M → Int → Int → Int → Prop) (x3_114 : Int) (x4_114 : Int) : Prop := sg_R (x6_71 + 1) ∧ k71 s22 x3_114 x4_114 (x6_71 + 1)
def fX11_form_L71 (La : sg_L) (x2 : Int) (x5_62 : Int) (k120 : sg_M → Int → Int → Prop) : Nat → sg_M → Int → Int → Int → Prop
  | 0, _, _, _, _ => False
  | n_71 + 1, s_71, x3_71, x4_71, x6_71 => ((x2 < x6_71 → k120 s_71 x3_71 x4_71) ∧ (¬ (x2 < x6_71) → fX1_thicken s_71 27 x5_62 x6_71 (fun s19 => fX11_rangeOfTrial La s19 (fun u20 s22 => ((u20 ≤ x4_71 → (fX11_form_j114 x6_71 s22 (fX11_form_L71 La x2 x5_62 k120 n_71)) x3_71 x4_71) ∧ (¬ (u20 ≤ x4_71) → sg_R ((100 * x5_62) + x6_71) ∧ (fX11_form_j114 x6_71 s22 (fX11_form_L71 La x2 x5_62 k120 n_71)) ((100 * x5_62) + x6_71) u20))))))
def fX11_form_L62 (La : sg_L) (x1 : Int) (x2 : Int) (k126 : sg_M → Int → Int → Prop) : Nat → sg_M → Int → Int → Int → Prop
  | 0, _, _, _, _ => False
  | n_62 + 1, s_62, x3_62, x4_62, x5_62 => ((x2 < x5_62 → k126 s_62 x3_62 x4_62) ∧ (¬ (x2 < x5_62) → (∃ n26 : Nat, fX11_form_L71 La x2 x5_62 (fun s_120e71 x3_120e71 x4_120e71 => sg_R (x5_62 + 1) ∧ (fX11_form_L62 La x1 x2 k126 n_62) s_120e71 x3_120e71 x4_120e71 (x5_62 + 1)) n26 s_62 x3_62 x4_62 x1)))
def fX11_form (La : sg_L) (s0 : sg_M) (x1 : Int) (x2 : Int) (Q : Int → sg_M → Prop) : Prop := ((x1 < 1 → Q (-2) s0) ∧ (¬ (x1 < 1) → ((20 < x2 → Q (-2) s0) ∧ (¬ (20 < x2) → ((x2 < x1 → Q (-2) s0) ∧ (¬ (x2 < x1) → sg_R (x2 - x1) ∧ ((5 < (x2 - x1) → Q (-2) s0) ∧ (¬ (5 < (x2 - x1)) → (((s0 20 2) ≠ 0 → (0 ≤ (s0 4 0)) ∧ fX1_copyFrom s0 27 (s0 4 0) (fun s15 => (∃ n28 : Nat, fX11_form_L62 La x1 x2 (fun s_126e62 x3_126e62 x4_126e62 => ((x3_126e62 ≤ 0 → Q x3_126e62 s_126e62) ∧ (¬ (x3_126e62 ≤ 0) → ∀ s30 : sg_M, s30 = sg_up s_126e62 0 18 x4_126e62 → Q x3_126e62 s30))) n28 s15 (-1) (-2) x1))) ∧ ((s0 20 2) = 0 → Q (-2) s0))))))))))
set_option maxHeartbeats 4000000 in
set_option maxRecDepth 100000 in
theorem CX11_form {l : Launch} {G : sg_G} {La : sg_L} {s0 : sg_M} (hst : sg_St La) {x1 : Int} (r1 : sg_R x1) {x2 : Int} (r2 : sg_R x2) {Q : Int → sg_M → Prop} (hf : fX11_form La s0 x1 x2 Q) : sg_C l G yX11_form cX11_form 8 (some .int) 7 0 0 La s0 [sg_r 0, sg_i x1, sg_i x2] (sg_HI La Q) := by
  refine sg_body (by decide +kernel) (Nat.le_of_ble_eq_true rfl) ?_
  intro p e s m args below meth c F hnm
  unfold fX11_form at hf
  show sg_W p l e (sg_rm 7 0 0) s m args below meth c (MQ below (sg_Q (some .int) G La s.heap.size (sg_HI La Q)) args s 0 0 (sg_A La s.heap.size)) 8 G (sg_A La s.heap.size) La s0 0 0 0 [(0, sg_r 0), (1, sg_i x1), (2, sg_i x2)] []
  refine gw_iload_n F 1 rfl rfl dX11_form_0 ?_
  refine gw_iconst F dX11_form_1 ?_
  refine gw_icmp_lt F (tgt := 36) dX11_form_2 (by decide) r1 (by decide) (fun c1 => ?_) (fun c1 => ?_)
  · have hf := hf.1 c1
    refine gw_bipush F rfl dX11_form_36 ?_
    exact gr_HI F (by decide) hf (by decide) (by decide) dX11_form_38
  · have hf := hf.2 c1
    refine gw_iload_n F 2 rfl rfl dX11_form_5 ?_
    refine gw_bipush F rfl dX11_form_6 ?_
    refine gw_icmp_gt F (tgt := 36) dX11_form_8 (by decide) r2 (by decide) (fun c2 => ?_) (fun c2 => ?_)
    · have hf := hf.1 c2
      refine gw_bipush F rfl dX11_form_36 ?_
      exact gr_HI F (by decide) hf (by decide) (by decide) dX11_form_38
    · have hf := hf.2 c2
      refine gw_iload_n F 1 rfl rfl dX11_form_11 ?_
      refine gw_iload_n F 2 rfl rfl dX11_form_12 ?_
      refine gw_icmp_gt F (tgt := 36) dX11_form_13 (by decide) r1 r2 (fun c3 => ?_) (fun c3 => ?_)
      · have hf := hf.1 c3
        refine gw_bipush F rfl dX11_form_36 ?_
        exact gr_HI F (by decide) hf (by decide) (by decide) dX11_form_38
      · have hf := hf.2 c3
        refine gw_iload_n F 2 rfl rfl dX11_form_16 ?_
        refine gw_iload_n F 1 rfl rfl dX11_form_17 ?_
        refine gw_isub F rfl dX11_form_18 ?_
        refine gw_iconst F dX11_form_19 ?_
        obtain ⟨g4, hf⟩ := hf
        refine gw_icmp_gt F (tgt := 36) dX11_form_20 (by decide) g4 (by decide) (fun c5 => ?_) (fun c5 => ?_)
        · have hf := hf.1 c5
          refine gw_bipush F rfl dX11_form_36 ?_
          exact gr_HI F (by decide) hf (by decide) (by decide) dX11_form_38
        · have hf := hf.2 c5
          refine gw_aload_n F 0 rfl rfl (by decide) dX11_form_23 ?_
          refine gw_get7 F (so_0 hst) (by decide) rfl sg_lay_RX11 (j := 2) (by decide) (o1 := 4) (by first | rfl | omega) rfl (host := "") (.inl kw_328) dX11_form_24 (fun h6 => ?_)
          refine gw_get7 F (so_4 hst) (by decide) rfl sg_lay_RX7 (j := 3) (by decide) (o1 := 20) (by first | rfl | omega) rfl (.inr kw_240) dX11_form_27 (fun h7 => ?_)
          refine gw_get0 F (so_20 hst) (by decide) rfl sg_lay_RX2 (j := 2) (by decide) rfl (.inr kw_230) dX11_form_30 (fun h8 => ?_)
          refine gw_if_ne F (tgt := 39) dX11_form_33 (by decide) h8 (fun c9 => ?_) (fun c9 => ?_)
          · have hf := hf.1 c9
            refine gw_aload_n F 0 rfl rfl (by decide) dX11_form_39 ?_
            refine gw_get7 F (so_0 hst) (by decide) rfl sg_lay_RX11 (j := 4) (by decide) (o1 := 27) (by first | rfl | omega) rfl (host := "") (.inl kw_330) dX11_form_40 (fun h10 => ?_)
            refine gw_aload_n F 0 rfl rfl (by decide) dX11_form_43 ?_
            refine gw_get7 F (so_0 hst) (by decide) rfl sg_lay_RX11 (j := 2) (by decide) (o1 := 4) (by first | rfl | omega) rfl (host := "") (.inl kw_328) dX11_form_44 (fun h11 => ?_)
            refine gw_get4 F (so_4 hst) (by decide) rfl sg_lay_RX7 (j := 0) (by decide) rfl (.inr kw_234) dX11_form_47 (fun h12 => ?_)
            obtain ⟨g13, hf⟩ := hf
            have t14 := sg_nn h12 g13
            refine gk_HV F (gc_V F (S := []) (As := [sg_r (s0 4 0)]) (T := TX1) (N := 7) (CX1_copyFrom (so_27 hst) t14 hf) (so_27 hst) (by decide) rfl kw_776 kw_94 kw_773 kw_774 kw_775 hcX1_copyFrom ⟨by decide, by decide⟩ rfl rfl (Nat.le_of_ble_eq_true rfl) ⟨by decide, by decide⟩ dX11_form_50) (fun s15 hf => ?_)
            refine gw_iconst F dX11_form_53 ?_
            refine gw_istore_n F rfl (by decide) rfl dX11_form_54 ?_
            refine gw_bipush F rfl dX11_form_55 ?_
            refine gw_istore F (by decide) rfl dX11_form_57 ?_
            refine gw_iload_n F 3 rfl rfl dX11_form_59 ?_
            refine gw_istore F (by decide) rfl dX11_form_60 ?_
            have L62 : ∀ (k126 : sg_M → Int → Int → Prop) (hk126 : ∀ (s_126e62 : sg_M) (x3_126e62 : Int) (x4_126e62 : Int), sg_R x3_126e62 → sg_R x4_126e62 → k126 s_126e62 x3_126e62 x4_126e62 → sg_W p l e (sg_rm 7 0 0) s m args below meth c (MQ below (sg_Q (some .int) G La s.heap.size (sg_HI La Q)) args s 0 0 (sg_A La s.heap.size)) 8 G (sg_A La s.heap.size) La s_126e62 0 0 126 [(0, sg_r 0), (3, sg_i x3_126e62), (4, sg_i x4_126e62)] []), ∀ n_62 : Nat, ∀ (s_62 : sg_M) (x3_62 : Int) (x4_62 : Int) (x5_62 : Int), sg_R x3_62 → sg_R x4_62 → sg_R x5_62 → fX11_form_L62 La x1 x2 k126 n_62 s_62 x3_62 x4_62 x5_62 → sg_W p l e (sg_rm 7 0 0) s m args below meth c (MQ below (sg_Q (some .int) G La s.heap.size (sg_HI La Q)) args s 0 0 (sg_A La s.heap.size)) 8 G (sg_A La s.heap.size) La s_62 0 0 62 [(0, sg_r 0), (1, sg_i x1), (2, sg_i x2), (3, sg_i x3_62), (4, sg_i x4_62), (5, sg_i x5_62)] [] := by
              intro k126 hk126 n_62
              induction n_62 with
              | zero => intro s_62 x3_62 x4_62 x5_62 r3_62 r4_62 r5_62 hf; exact hf.elim
              | succ n_62 ih =>
                intro s_62 x3_62 x4_62 x5_62 r3_62 r4_62 r5_62 hf
                unfold fX11_form_L62 at hf
                refine gw_iload F 5 rfl dX11_form_62 ?_
                refine gw_iload_n F 2 rfl rfl dX11_form_64 ?_
                refine gw_icmp_gt F (tgt := 126) dX11_form_65 (by decide) r5_62 r2 (fun c16 => ?_) (fun c16 => ?_)
                · have hf := hf.1 c16
                  refine gw_sub [0, 3, 4] rfl ?_
                  exact hk126 s_62 x3_62 x4_62 r3_62 r4_62 hf
                · have hf := hf.2 c16
                  refine gw_iload_n F 1 rfl rfl dX11_form_68 ?_
                  refine gw_istore F (by decide) rfl dX11_form_69 ?_
                  have L71 : ∀ (k120 : sg_M → Int → Int → Prop) (hk120 : ∀ (s_120e71 : sg_M) (x3_120e71 : Int) (x4_120e71 : Int), sg_R x3_120e71 → sg_R x4_120e71 → k120 s_120e71 x3_120e71 x4_120e71 → sg_W p l e (sg_rm 7 0 0) s m args below meth c (MQ below (sg_Q (some .int) G La s.heap.size (sg_HI La Q)) args s 0 0 (sg_A La s.heap.size)) 8 G (sg_A La s.heap.size) La s_120e71 0 0 120 [(0, sg_r 0), (1, sg_i x1), (2, sg_i x2), (3, sg_i x3_120e71), (4, sg_i x4_120e71), (5, sg_i x5_62)] []), ∀ n_71 : Nat, ∀ (s_71 : sg_M) (x3_71 : Int) (x4_71 : Int) (x6_71 : Int), sg_R x3_71 → sg_R x4_71 → sg_R x6_71 → fX11_form_L71 La x2 x5_62 k120 n_71 s_71 x3_71 x4_71 x6_71 → sg_W p l e (sg_rm 7 0 0) s m args below meth c (MQ below (sg_Q (some .int) G La s.heap.size (sg_HI La Q)) args s 0 0 (sg_A La s.heap.size)) 8 G (sg_A La s.heap.size) La s_71 0 0 71 [(0, sg_r 0), (1, sg_i x1), (2, sg_i x2), (3, sg_i x3_71), (4, sg_i x4_71), (5, sg_i x5_62), (6, sg_i x6_71)] [] := by
                    intro k120 hk120 n_71
                    induction n_71 with
                    | zero => intro s_71 x3_71 x4_71 x6_71 r3_71 r4_71 r6_71 hf; exact hf.elim
                    | succ n_71 ih =>
                      intro s_71 x3_71 x4_71 x6_71 r3_71 r4_71 r6_71 hf
                      unfold fX11_form_L71 at hf
                      refine gw_iload F 6 rfl dX11_form_71 ?_
                      refine gw_iload_n F 2 rfl rfl dX11_form_73 ?_
                      refine gw_icmp_gt F (tgt := 120) dX11_form_74 (by decide) r6_71 r2 (fun c17 => ?_) (fun c17 => ?_)
                      · have hf := hf.1 c17
                        refine gw_sub [0, 1, 2, 3, 4, 5] rfl ?_
                        exact hk120 s_71 x3_71 x4_71 r3_71 r4_71 hf
                      · have hf := hf.2 c17
                        refine gw_aload_n F 0 rfl rfl (by decide) dX11_form_77 ?_
                        refine gw_get7 F (so_0 hst) (by decide) rfl sg_lay_RX11 (j := 4) (by decide) (o1 := 27) (by first | rfl | omega) rfl (host := "") (.inl kw_330) dX11_form_78 (fun h18 => ?_)
                        refine gw_iload F 5 rfl dX11_form_81 ?_
                        refine gw_iload F 6 rfl dX11_form_83 ?_
                        refine gk_HV F (gc_V F (S := []) (As := [sg_i x5_62, sg_i x6_71]) (T := TX1) (N := 7) (CX1_thicken (so_27 hst) r5_62 r6_71 hf) (so_27 hst) (by decide) rfl kw_780 kw_94 kw_777 kw_778 kw_779 hcX1_thicken ⟨by decide, by decide⟩ rfl rfl (Nat.le_of_ble_eq_true rfl) ⟨by decide, by decide⟩ dX11_form_85) (fun s19 hf => ?_)
                        refine gw_aload_n F 0 rfl rfl (by decide) dX11_form_88 ?_
                        refine gk_HI F (gc_V F (S := []) (As := []) (T := TX11) (N := 19) (CX11_rangeOfTrial hst hf) (so_0 hst) (by decide) rfl kw_783 kw_90 kw_781 kw_782 kw_30 hcX11_rangeOfTrial ⟨by decide, by decide⟩ rfl rfl (Nat.le_of_ble_eq_true rfl) ⟨by decide, by decide⟩ dX11_form_89) (fun u20 s22 h21 hf => ?_)
                        refine gw_istore F (by decide) rfl dX11_form_92 ?_
                        refine gw_iload F 0 rfl dX11_form_94 ?_
                        refine gw_iload F 5 rfl dX11_form_96 ?_
                        have J114 : ∀ (x3_114 : Int) (x4_114 : Int), sg_R x3_114 → sg_R x4_114 → (fX11_form_j114 x6_71 s22 (fX11_form_L71 La x2 x5_62 k120 n_71)) x3_114 x4_114 → sg_W p l e (sg_rm 7 0 0) s m args below meth c (MQ below (sg_Q (some .int) G La s.heap.size (sg_HI La Q)) args s 0 0 (sg_A La s.heap.size)) 8 G (sg_A La s.heap.size) La s22 0 0 114 [(0, sg_r 0), (1, sg_i x1), (2, sg_i x2), (3, sg_i x3_114), (4, sg_i x4_114), (5, sg_i x5_62), (6, sg_i x6_71)] [] := by
                          intro x3_114 x4_114 r3_114 r4_114 hf
                          unfold fX11_form_j114 at hf
                          refine gw_iinc F (z := (x6_71 + 1)) 6 rfl (by omega) (by decide) rfl dX11_form_114 ?_
                          refine gw_goto F (tgt := 71) dX11_form_117 (by decide) ?_
                          obtain ⟨g23, hf⟩ := hf
                          refine gw_sub [1, 2, 3, 4, 5, 6, 0] rfl ?_
                          exact ih s22 x3_114 x4_114 (x6_71 + 1) r3_114 r4_114 g23 hf
                        refine gw_icmp_le F (tgt := 114) dX11_form_98 (by decide) h21 r4_71 (fun c24 => ?_) (fun c24 => ?_)
                        · have hf := hf.1 c24
                          refine gw_sub [1, 2, 3, 4, 5, 6, 7] rfl ?_
                          exact J114 x3_71 x4_71 r3_71 r4_71 hf
                        · have hf := hf.2 c24
                          refine gw_iload F 0 rfl dX11_form_101 ?_
                          refine gw_istore F (by decide) rfl dX11_form_103 ?_
                          refine gw_bipush F rfl dX11_form_105 ?_
                          refine gw_iload F 6 rfl dX11_form_107 ?_
                          refine gw_imul F rfl dX11_form_109 ?_
                          refine gw_iload F 7 rfl dX11_form_110 ?_
                          refine gw_iadd F rfl dX11_form_112 ?_
                          refine gw_istore_n F rfl (by decide) rfl dX11_form_113 ?_
                          obtain ⟨g25, hf⟩ := hf
                          refine gw_sub [3, 4, 5, 0, 1, 6, 7] rfl ?_
                          exact J114 ((100 * x5_62) + x6_71) u20 g25 h21 hf
                  obtain ⟨n26, hf⟩ := hf
                  refine gw_sub [1, 2, 3, 4, 5, 6, 0] rfl ?_
                  refine L71 _ (fun s_120e71 x3_120e71 x4_120e71 r3_120e71 r4_120e71 hf => ?_) n26 s_62 x3_62 x4_62 x1 r3_62 r4_62 r1 hf
                  refine gw_iinc F (z := (x5_62 + 1)) 5 rfl (by omega) (by decide) rfl dX11_form_120 ?_
                  refine gw_goto F (tgt := 62) dX11_form_123 (by decide) ?_
                  obtain ⟨g27, hf⟩ := hf
                  refine gw_sub [1, 2, 3, 4, 5, 0] rfl ?_
                  exact ih s_120e71 x3_120e71 x4_120e71 (x5_62 + 1) r3_120e71 r4_120e71 g27 hf
            obtain ⟨n28, hf⟩ := hf
            refine gw_sub [3, 4, 5, 2, 1, 0] rfl ?_
            refine L62 _ (fun s_126e62 x3_126e62 x4_126e62 r3_126e62 r4_126e62 hf => ?_) n28 s15 (-1) (-2) x1 (by decide) (by decide) r1 hf
            refine gw_iload_n F 1 rfl rfl dX11_form_126 ?_
            refine gw_if_le F (tgt := 136) dX11_form_127 (by decide) r3_126e62 (fun c29 => ?_) (fun c29 => ?_)
            · have hf := hf.1 c29
              refine gw_iload_n F 1 rfl rfl dX11_form_136 ?_
              exact gr_HI F r3_126e62 hf (by decide) (by decide) dX11_form_137
            · have hf := hf.2 c29
              refine gw_aload_n F 0 rfl rfl (by decide) dX11_form_130 ?_
              refine gw_iload F 2 rfl dX11_form_131 ?_
              obtain ⟨s30, e31⟩ : ∃ z : sg_M, z = sg_up s_126e62 0 18 x4_126e62 := ⟨_, rfl⟩
              have hf := hf s30 e31
              refine gw_put0 F (so_0 hst) (by decide) rfl sg_lay_RX11 (j := 18) (by decide) r4_126e62 e31 tyX11_ok nmX11 rfl (tyX11_ok 18 (by decide)) rfl (host := "") (.inl kw_344) dX11_form_133 ?_
              refine gw_iload_n F 1 rfl rfl dX11_form_136 ?_
              exact gr_HI F r3_126e62 hf (by decide) (by decide) dX11_form_137
          · have hf := hf.2 c9
            refine gw_bipush F rfl dX11_form_36 ?_
            exact gr_HI F (by decide) hf (by decide) (by decide) dX11_form_38

theorem dX1_strain_0 : decode cX1_strain 0 = .ok (.aload_n 0, 1) := by decide +kernel
theorem dX1_strain_1 : decode cX1_strain 1 = .ok (.iload_n 3, 1) := by decide +kernel
theorem dX1_strain_2 : decode cX1_strain 2 = .ok (.invokevirtual 38, 3) := by decide +kernel
theorem dX1_strain_5 : decode cX1_strain 5 = .ok (.ifCond .eq 23, 3) := by decide +kernel
theorem dX1_strain_8 : decode cX1_strain 8 = .ok (.aload_n 0, 1) := by decide +kernel
theorem dX1_strain_9 : decode cX1_strain 9 = .ok (.iload_n 1, 1) := by decide +kernel
theorem dX1_strain_10 : decode cX1_strain 10 = .ok (.iload_n 2, 1) := by decide +kernel
theorem dX1_strain_11 : decode cX1_strain 11 = .ok (.iload_n 3, 1) := by decide +kernel
theorem dX1_strain_12 : decode cX1_strain 12 = .ok (.invokevirtual 50, 3) := by decide +kernel
theorem dX1_strain_15 : decode cX1_strain 15 = .ok (.invokestatic 54, 3) := by decide +kernel
theorem dX1_strain_18 : decode cX1_strain 18 = .ok (.aload_n 0, 1) := by decide +kernel
theorem dX1_strain_19 : decode cX1_strain 19 = .ok (.getfield 15, 3) := by decide +kernel
theorem dX1_strain_22 : decode cX1_strain 22 = .ok (.iload_n 3, 1) := by decide +kernel
theorem dX1_strain_23 : decode cX1_strain 23 = .ok (.iaload, 1) := by decide +kernel
theorem dX1_strain_24 : decode cX1_strain 24 = .ok (.imul, 1) := by decide +kernel
theorem dX1_strain_25 : decode cX1_strain 25 = .ok (.goto 4, 3) := by decide +kernel
theorem dX1_strain_28 : decode cX1_strain 28 = .ok (.iconst 0, 1) := by decide +kernel
theorem dX1_strain_29 : decode cX1_strain 29 = .ok (.ireturn, 1) := by decide +kernel
theorem hcX1_strain : yX1_strain.cls ≠ "java/lang/invoke/MethodHandle" ∧ yX1_strain.cls ≠ "java/lang/invoke/VarHandle" ∧ (parseMethodDescriptor yX1_strain.desc).map (fun d => d.parameters.length) = some 3 := ⟨by decide +kernel, by decide +kernel, by decide +kernel⟩
def fX1_strain (s0 : sg_M) (o : Int) (x1 : Int) (x2 : Int) (x3 : Int) (Q : Int → Prop) : Prop := fX1_has s0 o x3 (fun u1 => ((u1 = 0 → Q 0) ∧ (¬ (u1 = 0) → fX1_curve s0 o x1 x2 x3 (fun u4 => (0 ≤ x3 ∧ x3 < 60) ∧ sg_R ((sg_abs u4) * (s0 (o + 2) x3)) ∧ Q ((sg_abs u4) * (s0 (o + 2) x3))))))
set_option maxHeartbeats 4000000 in
set_option maxRecDepth 100000 in
theorem CX1_strain {l : Launch} {G : sg_G} {La : sg_L} {s0 : sg_M} {o : Int} (to : sg_O La o 1) {x1 : Int} (r1 : sg_R x1) {x2 : Int} (r2 : sg_R x2) {x3 : Int} (r3 : sg_R x3) {Q : Int → Prop} (hf : fX1_strain s0 o x1 x2 x3 Q) : sg_C l G yX1_strain cX1_strain 4 (some .int) 4 0 0 La s0 [sg_r o, sg_i x1, sg_i x2, sg_i x3] (sg_PI La s0 Q) := by
  refine sg_body (by decide +kernel) (Nat.le_of_ble_eq_true rfl) ?_
  intro p e s m args below meth c F hnm
  unfold fX1_strain at hf
  show sg_W p l e (sg_rm 4 0 0) s m args below meth c (MQ below (sg_Q (some .int) G La s.heap.size (sg_PI La s0 Q)) args s 0 0 (sg_A La s.heap.size)) 4 G (sg_A La s.heap.size) La s0 0 0 0 [(0, sg_r o), (1, sg_i x1), (2, sg_i x2), (3, sg_i x3)] []
  refine gw_aload_n F 0 rfl rfl to.1 dX1_strain_0 ?_
  refine gw_iload_n F 3 rfl rfl dX1_strain_1 ?_
  refine gk_PZ F (gc_V F (S := []) (As := [sg_i x3]) (T := TX1) (N := 7) (CX1_has to r3 hf) to (by decide) rfl kw_518 kw_94 kw_515 kw_516 kw_517 hcX1_has ⟨by decide, by decide⟩ rfl rfl (Nat.le_of_ble_eq_true rfl) ⟨by decide, by decide⟩ dX1_strain_2) (fun u1 h2 hf => ?_)
  refine gw_if_eq F (tgt := 28) dX1_strain_5 (by decide) (sg_B_R h2) (fun c3 => ?_) (fun c3 => ?_)
  · have hf := hf.1 c3
    refine gw_iconst F dX1_strain_28 ?_
    exact gr_PI F (by decide) hf (by decide) (by decide) dX1_strain_29
  · have hf := hf.2 c3
    refine gw_aload_n F 0 rfl rfl to.1 dX1_strain_8 ?_
    refine gw_iload_n F 1 rfl rfl dX1_strain_9 ?_
    refine gw_iload_n F 2 rfl rfl dX1_strain_10 ?_
    refine gw_iload_n F 3 rfl rfl dX1_strain_11 ?_
    refine gk_PI F (gc_V F (S := []) (As := [sg_i x1, sg_i x2, sg_i x3]) (T := TX1) (N := 7) (CX1_curve to r1 r2 r3 hf) to (by decide) rfl kw_511 kw_94 kw_942 kw_509 kw_510 hcX1_curve ⟨by decide, by decide⟩ rfl rfl (Nat.le_of_ble_eq_true rfl) ⟨by decide, by decide⟩ dX1_strain_12) (fun u4 h5 hf => ?_)
    refine gw_abs F h5 rfl kw_943 kw_abs1 kw_math kw_abs2 (Nat.le_of_ble_eq_true rfl) (by decide) (by decide) (by decide) (by decide) dX1_strain_15 ?_
    refine gw_aload_n F 0 rfl rfl to.1 dX1_strain_18 ?_
    refine gw_get3 F to (by decide) rfl sg_lay_RX1 (j := 1) (by decide) (o1 := (o + 2)) (by first | rfl | omega) rfl (host := "") (.inl kw_159) dX1_strain_19 (fun h6 => ?_)
    refine gw_iload_n F 3 rfl rfl dX1_strain_22 ?_
    obtain ⟨⟨b70, b71⟩, hf⟩ := hf
    refine gw_iald F (sg_AN_of (sg_O_of h6 (by decide)) (by decide) (by decide) (by decide)) b70 b71 dX1_strain_23 (fun h8 => ?_)
    refine gw_imul F rfl dX1_strain_24 ?_
    refine gw_goto F (tgt := 29) dX1_strain_25 (by decide) ?_
    obtain ⟨g9, hf⟩ := hf
    exact gr_PI F g9 hf (by decide) (by decide) dX1_strain_29

theorem dX5_isSo_0 : decode cX5_isSo 0 = .ok (.aload_n 0, 1) := by decide +kernel
theorem dX5_isSo_1 : decode cX5_isSo 1 = .ok (.getfield 16, 3) := by decide +kernel
theorem dX5_isSo_4 : decode cX5_isSo 4 = .ok (.iload_n 1, 1) := by decide +kernel
theorem dX5_isSo_5 : decode cX5_isSo 5 = .ok (.invokevirtual 115, 3) := by decide +kernel
theorem dX5_isSo_8 : decode cX5_isSo 8 = .ok (.tableswitch 135 0 7 #[48, 58, 68, 78, 88, 101, 108, 121], 48) := by decide +kernel
theorem dX5_isSo_56 : decode cX5_isSo 56 = .ok (.aload_n 0, 1) := by decide +kernel
theorem dX5_isSo_57 : decode cX5_isSo 57 = .ok (.aload_n 2, 1) := by decide +kernel
theorem dX5_isSo_58 : decode cX5_isSo 58 = .ok (.getfield 123, 3) := by decide +kernel
theorem dX5_isSo_61 : decode cX5_isSo 61 = .ok (.iload_n 1, 1) := by decide +kernel
theorem dX5_isSo_62 : decode cX5_isSo 62 = .ok (.invokevirtual 128, 3) := by decide +kernel
theorem dX5_isSo_65 : decode cX5_isSo 65 = .ok (.ireturn, 1) := by decide +kernel
theorem dX5_isSo_66 : decode cX5_isSo 66 = .ok (.aload_n 0, 1) := by decide +kernel
theorem dX5_isSo_67 : decode cX5_isSo 67 = .ok (.aload_n 2, 1) := by decide +kernel
theorem dX5_isSo_68 : decode cX5_isSo 68 = .ok (.getfield 132, 3) := by decide +kernel
theorem dX5_isSo_71 : decode cX5_isSo 71 = .ok (.iload_n 1, 1) := by decide +kernel
theorem dX5_isSo_72 : decode cX5_isSo 72 = .ok (.invokevirtual 128, 3) := by decide +kernel
theorem dX5_isSo_75 : decode cX5_isSo 75 = .ok (.ireturn, 1) := by decide +kernel
theorem dX5_isSo_76 : decode cX5_isSo 76 = .ok (.aload_n 0, 1) := by decide +kernel
theorem dX5_isSo_77 : decode cX5_isSo 77 = .ok (.aload_n 2, 1) := by decide +kernel
theorem dX5_isSo_78 : decode cX5_isSo 78 = .ok (.getfield 135, 3) := by decide +kernel
theorem dX5_isSo_81 : decode cX5_isSo 81 = .ok (.iload_n 1, 1) := by decide +kernel
theorem dX5_isSo_82 : decode cX5_isSo 82 = .ok (.invokevirtual 128, 3) := by decide +kernel
theorem dX5_isSo_85 : decode cX5_isSo 85 = .ok (.ireturn, 1) := by decide +kernel
theorem dX5_isSo_86 : decode cX5_isSo 86 = .ok (.aload_n 0, 1) := by decide +kernel
theorem dX5_isSo_87 : decode cX5_isSo 87 = .ok (.aload_n 2, 1) := by decide +kernel
theorem dX5_isSo_88 : decode cX5_isSo 88 = .ok (.getfield 138, 3) := by decide +kernel
theorem dX5_isSo_91 : decode cX5_isSo 91 = .ok (.iload_n 1, 1) := by decide +kernel
theorem dX5_isSo_92 : decode cX5_isSo 92 = .ok (.invokevirtual 128, 3) := by decide +kernel
theorem dX5_isSo_95 : decode cX5_isSo 95 = .ok (.ireturn, 1) := by decide +kernel
theorem dX5_isSo_96 : decode cX5_isSo 96 = .ok (.aload_n 0, 1) := by decide +kernel
theorem dX5_isSo_97 : decode cX5_isSo 97 = .ok (.aload_n 2, 1) := by decide +kernel
theorem dX5_isSo_98 : decode cX5_isSo 98 = .ok (.getfield 141, 3) := by decide +kernel
theorem dX5_isSo_101 : decode cX5_isSo 101 = .ok (.getfield 112, 3) := by decide +kernel
theorem dX5_isSo_104 : decode cX5_isSo 104 = .ok (.iload_n 1, 1) := by decide +kernel
theorem dX5_isSo_105 : decode cX5_isSo 105 = .ok (.invokevirtual 128, 3) := by decide +kernel
theorem dX5_isSo_108 : decode cX5_isSo 108 = .ok (.ireturn, 1) := by decide +kernel
theorem dX5_isSo_109 : decode cX5_isSo 109 = .ok (.aload_n 0, 1) := by decide +kernel
theorem dX5_isSo_110 : decode cX5_isSo 110 = .ok (.iload_n 3, 1) := by decide +kernel
theorem dX5_isSo_111 : decode cX5_isSo 111 = .ok (.iload_n 1, 1) := by decide +kernel
theorem dX5_isSo_112 : decode cX5_isSo 112 = .ok (.invokevirtual 128, 3) := by decide +kernel
theorem dX5_isSo_115 : decode cX5_isSo 115 = .ok (.ireturn, 1) := by decide +kernel
theorem dX5_isSo_116 : decode cX5_isSo 116 = .ok (.aload_n 2, 1) := by decide +kernel
theorem dX5_isSo_117 : decode cX5_isSo 117 = .ok (.getfield 123, 3) := by decide +kernel
theorem dX5_isSo_120 : decode cX5_isSo 120 = .ok (.ifCond .le 7, 3) := by decide +kernel
theorem dX5_isSo_123 : decode cX5_isSo 123 = .ok (.iconst 1, 1) := by decide +kernel
theorem dX5_isSo_124 : decode cX5_isSo 124 = .ok (.goto 4, 3) := by decide +kernel
theorem dX5_isSo_127 : decode cX5_isSo 127 = .ok (.iconst 0, 1) := by decide +kernel
theorem dX5_isSo_128 : decode cX5_isSo 128 = .ok (.ireturn, 1) := by decide +kernel
theorem dX5_isSo_129 : decode cX5_isSo 129 = .ok (.aload_n 2, 1) := by decide +kernel
theorem dX5_isSo_130 : decode cX5_isSo 130 = .ok (.getfield 143, 3) := by decide +kernel
theorem dX5_isSo_133 : decode cX5_isSo 133 = .ok (.iconst (-1), 1) := by decide +kernel
theorem dX5_isSo_134 : decode cX5_isSo 134 = .ok (.if_icmp .eq 7, 3) := by decide +kernel
theorem dX5_isSo_137 : decode cX5_isSo 137 = .ok (.iconst 1, 1) := by decide +kernel
theorem dX5_isSo_138 : decode cX5_isSo 138 = .ok (.goto 4, 3) := by decide +kernel
theorem dX5_isSo_141 : decode cX5_isSo 141 = .ok (.iconst 0, 1) := by decide +kernel
theorem dX5_isSo_142 : decode cX5_isSo 142 = .ok (.ireturn, 1) := by decide +kernel
theorem dX5_isSo_143 : decode cX5_isSo 143 = .ok (.aload_n 2, 1) := by decide +kernel
theorem dX5_isSo_144 : decode cX5_isSo 144 = .ok (.getfield 146, 3) := by decide +kernel
theorem dX5_isSo_147 : decode cX5_isSo 147 = .ok (.ireturn, 1) := by decide +kernel
theorem hcX5_isSo : yX5_isSo.cls ≠ "java/lang/invoke/MethodHandle" ∧ yX5_isSo.cls ≠ "java/lang/invoke/VarHandle" ∧ (parseMethodDescriptor yX5_isSo.desc).map (fun d => d.parameters.length) = some 3 := ⟨by decide +kernel, by decide +kernel, by decide +kernel⟩
def fX5_isSo (La : sg_L) (s0 : sg_M) (o : Int) (x1 : Int) (x3 : Int) (Q : Int → Prop) : Prop := fX4_at La s0 (o + 1) x1 (fun u2 => ((u2 < 0 ∨ 7 < u2 → Q (s0 32 10)) ∧ (u2 = 0 → fX5_compares La s0 o (s0 32 7) x1 (fun u7 => Q u7)) ∧ (u2 = 1 → fX5_compares La s0 o (s0 32 8) x1 (fun u10 => Q u10)) ∧ (u2 = 2 → fX5_compares La s0 o (s0 32 9) x1 (fun u13 => Q u13)) ∧ (u2 = 3 → fX5_compares La s0 o (s0 32 6) x1 (fun u16 => Q u16)) ∧ (u2 = 4 → fX5_compares La s0 o (s0 35 1) x1 (fun u20 => Q u20)) ∧ (u2 = 5 → fX5_compares La s0 o x3 x1 (fun u22 => Q u22)) ∧ (u2 = 6 → (((s0 32 7) ≤ 0 → Q 0) ∧ (¬ ((s0 32 7) ≤ 0) → Q 1))) ∧ (u2 = 7 → (((s0 32 5) = (-1) → Q 0) ∧ (¬ ((s0 32 5) = (-1)) → Q 1)))))
set_option maxHeartbeats 4000000 in
set_option maxRecDepth 100000 in
theorem CX5_isSo {l : Launch} {G : sg_G} {La : sg_L} {s0 : sg_M} (hst : sg_St La) {o : Int} (to : sg_O La o 5) {x1 : Int} (r1 : sg_R x1) {x3 : Int} (r3 : sg_R x3) {Q : Int → Prop} (hf : fX5_isSo La s0 o x1 x3 Q) : sg_C l G yX5_isSo cX5_isSo 4 (some .boolean) 3 0 0 La s0 [sg_r o, sg_i x1, sg_r 32, sg_i x3] (sg_PZ La s0 Q) := by
  refine sg_body (by decide +kernel) (Nat.le_of_ble_eq_true rfl) ?_
  intro p e s m args below meth c F hnm
  unfold fX5_isSo at hf
  show sg_W p l e (sg_rm 3 0 0) s m args below meth c (MQ below (sg_Q (some .boolean) G La s.heap.size (sg_PZ La s0 Q)) args s 0 0 (sg_A La s.heap.size)) 4 G (sg_A La s.heap.size) La s0 0 0 0 [(0, sg_r o), (1, sg_i x1), (2, sg_r 32), (3, sg_i x3)] []
  refine gw_aload_n F 0 rfl rfl to.1 dX5_isSo_0 ?_
  refine gw_get3 F to (by decide) rfl sg_lay_RX5 (j := 0) (by decide) (o1 := (o + 1)) (by first | rfl | omega) rfl (host := "") (.inl kw_207) dX5_isSo_1 (fun h1 => ?_)
  refine gw_iload_n F 1 rfl rfl dX5_isSo_4 ?_
  refine gk_PI F (gc_V F (S := []) (As := [sg_i x1]) (T := TX4) (N := 3) (CX4_at (sg_O_of h1 (by decide)) r1 hf) (sg_O_of h1 (by decide)) (by decide) rfl kw_546 kw_97 kw_847 kw_544 kw_545 hcX4_at ⟨by decide, by decide⟩ rfl rfl (Nat.le_of_ble_eq_true rfl) ⟨by decide, by decide⟩ dX5_isSo_5) (fun u2 h3 hf => ?_)
  refine gw_switch F dX5_isSo_8 h3 (td := 143) (by decide) (fun c4 => ?_) (fun i hi1 hi2 => ?_)
  · have hf := hf.1 c4
    refine gw_aload_n F 2 rfl rfl (by decide) dX5_isSo_143 ?_
    refine gw_get1 F (so_32 hst) (by decide) rfl sg_lay_RX0 (j := 10) (by decide) rfl (.inr kw_274) dX5_isSo_144 (fun h5 => ?_)
    exact gr_PZ F h5 hf (by decide) (by decide) dX5_isSo_147
  · rcases (show i = 0 ∨ i = 1 ∨ i = 2 ∨ i = 3 ∨ i = 4 ∨ i = 5 ∨ i = 6 ∨ i = 7 by omega) with rfl | rfl | rfl | rfl | rfl | rfl | rfl | rfl
    · have hf := hf.2.1 (by omega)
      refine ⟨48, 56, rfl, by decide, ?_⟩
      refine gw_aload_n F 0 rfl rfl to.1 dX5_isSo_56 ?_
      refine gw_aload_n F 2 rfl rfl (by decide) dX5_isSo_57 ?_
      refine gw_get0 F (so_32 hst) (by decide) rfl sg_lay_RX0 (j := 7) (by decide) rfl (.inr kw_265) dX5_isSo_58 (fun h6 => ?_)
      refine gw_iload_n F 1 rfl rfl dX5_isSo_61 ?_
      refine gk_PZ F (gc_V F (S := []) (As := [sg_i (s0 32 7), sg_i x1]) (T := TX5) (N := 4) (CX5_compares to h6 r1 hf) to (by decide) rfl kw_853 kw_96 kw_851 kw_852 kw_37 hcX5_compares ⟨by decide, by decide⟩ rfl rfl (Nat.le_of_ble_eq_true rfl) ⟨by decide, by decide⟩ dX5_isSo_62) (fun u7 h8 hf => ?_)
      exact gr_PZ F h8 hf (by decide) (by decide) dX5_isSo_65
    · have hf := hf.2.2.1 (by omega)
      refine ⟨58, 66, rfl, by decide, ?_⟩
      refine gw_aload_n F 0 rfl rfl to.1 dX5_isSo_66 ?_
      refine gw_aload_n F 2 rfl rfl (by decide) dX5_isSo_67 ?_
      refine gw_get0 F (so_32 hst) (by decide) rfl sg_lay_RX0 (j := 8) (by decide) rfl (.inr kw_268) dX5_isSo_68 (fun h9 => ?_)
      refine gw_iload_n F 1 rfl rfl dX5_isSo_71 ?_
      refine gk_PZ F (gc_V F (S := []) (As := [sg_i (s0 32 8), sg_i x1]) (T := TX5) (N := 4) (CX5_compares to h9 r1 hf) to (by decide) rfl kw_853 kw_96 kw_851 kw_852 kw_37 hcX5_compares ⟨by decide, by decide⟩ rfl rfl (Nat.le_of_ble_eq_true rfl) ⟨by decide, by decide⟩ dX5_isSo_72) (fun u10 h11 hf => ?_)
      exact gr_PZ F h11 hf (by decide) (by decide) dX5_isSo_75
    · have hf := hf.2.2.2.1 (by omega)
      refine ⟨68, 76, rfl, by decide, ?_⟩
      refine gw_aload_n F 0 rfl rfl to.1 dX5_isSo_76 ?_
      refine gw_aload_n F 2 rfl rfl (by decide) dX5_isSo_77 ?_
      refine gw_get0 F (so_32 hst) (by decide) rfl sg_lay_RX0 (j := 9) (by decide) rfl (.inr kw_271) dX5_isSo_78 (fun h12 => ?_)
      refine gw_iload_n F 1 rfl rfl dX5_isSo_81 ?_
      refine gk_PZ F (gc_V F (S := []) (As := [sg_i (s0 32 9), sg_i x1]) (T := TX5) (N := 4) (CX5_compares to h12 r1 hf) to (by decide) rfl kw_853 kw_96 kw_851 kw_852 kw_37 hcX5_compares ⟨by decide, by decide⟩ rfl rfl (Nat.le_of_ble_eq_true rfl) ⟨by decide, by decide⟩ dX5_isSo_82) (fun u13 h14 hf => ?_)
      exact gr_PZ F h14 hf (by decide) (by decide) dX5_isSo_85
    · have hf := hf.2.2.2.2.1 (by omega)
      refine ⟨78, 86, rfl, by decide, ?_⟩
      refine gw_aload_n F 0 rfl rfl to.1 dX5_isSo_86 ?_
      refine gw_aload_n F 2 rfl rfl (by decide) dX5_isSo_87 ?_
      refine gw_get0 F (so_32 hst) (by decide) rfl sg_lay_RX0 (j := 6) (by decide) rfl (.inr kw_263) dX5_isSo_88 (fun h15 => ?_)
      refine gw_iload_n F 1 rfl rfl dX5_isSo_91 ?_
      refine gk_PZ F (gc_V F (S := []) (As := [sg_i (s0 32 6), sg_i x1]) (T := TX5) (N := 4) (CX5_compares to h15 r1 hf) to (by decide) rfl kw_853 kw_96 kw_851 kw_852 kw_37 hcX5_compares ⟨by decide, by decide⟩ rfl rfl (Nat.le_of_ble_eq_true rfl) ⟨by decide, by decide⟩ dX5_isSo_92) (fun u16 h17 hf => ?_)
      exact gr_PZ F h17 hf (by decide) (by decide) dX5_isSo_95
    · have hf := hf.2.2.2.2.2.1 (by omega)
      refine ⟨88, 96, rfl, by decide, ?_⟩
      refine gw_aload_n F 0 rfl rfl to.1 dX5_isSo_96 ?_
      refine gw_aload_n F 2 rfl rfl (by decide) dX5_isSo_97 ?_
      refine gw_get3 F (so_32 hst) (by decide) rfl sg_lay_RX0 (j := 2) (by decide) (o1 := 35) (by first | rfl | omega) rfl (.inr kw_256) dX5_isSo_98 (fun h18 => ?_)
      refine gw_get0 F (so_35 hst) (by decide) rfl sg_lay_RX4 (j := 1) (by decide) rfl (.inr kw_203) dX5_isSo_101 (fun h19 => ?_)
      refine gw_iload_n F 1 rfl rfl dX5_isSo_104 ?_
      refine gk_PZ F (gc_V F (S := []) (As := [sg_i (s0 35 1), sg_i x1]) (T := TX5) (N := 4) (CX5_compares to h19 r1 hf) to (by decide) rfl kw_853 kw_96 kw_851 kw_852 kw_37 hcX5_compares ⟨by decide, by decide⟩ rfl rfl (Nat.le_of_ble_eq_true rfl) ⟨by decide, by decide⟩ dX5_isSo_105) (fun u20 h21 hf => ?_)
      exact gr_PZ F h21 hf (by decide) (by decide) dX5_isSo_108
    · have hf := hf.2.2.2.2.2.2.1 (by omega)
      refine ⟨101, 109, rfl, by decide, ?_⟩
      refine gw_aload_n F 0 rfl rfl to.1 dX5_isSo_109 ?_
      refine gw_iload_n F 3 rfl rfl dX5_isSo_110 ?_
      refine gw_iload_n F 1 rfl rfl dX5_isSo_111 ?_
      refine gk_PZ F (gc_V F (S := []) (As := [sg_i x3, sg_i x1]) (T := TX5) (N := 4) (CX5_compares to r3 r1 hf) to (by decide) rfl kw_853 kw_96 kw_851 kw_852 kw_37 hcX5_compares ⟨by decide, by decide⟩ rfl rfl (Nat.le_of_ble_eq_true rfl) ⟨by decide, by decide⟩ dX5_isSo_112) (fun u22 h23 hf => ?_)
      exact gr_PZ F h23 hf (by decide) (by decide) dX5_isSo_115
    · have hf := hf.2.2.2.2.2.2.2.1 (by omega)
      refine ⟨108, 116, rfl, by decide, ?_⟩
      refine gw_aload_n F 2 rfl rfl (by decide) dX5_isSo_116 ?_
      refine gw_get0 F (so_32 hst) (by decide) rfl sg_lay_RX0 (j := 7) (by decide) rfl (.inr kw_265) dX5_isSo_117 (fun h24 => ?_)
      refine gw_if_le F (tgt := 127) dX5_isSo_120 (by decide) h24 (fun c25 => ?_) (fun c25 => ?_)
      · have hf := hf.1 c25
        refine gw_iconst F dX5_isSo_127 ?_
        exact gr_PZ F (by decide) hf (by decide) (by decide) dX5_isSo_128
      · have hf := hf.2 c25
        refine gw_iconst F dX5_isSo_123 ?_
        refine gw_goto F (tgt := 128) dX5_isSo_124 (by decide) ?_
        exact gr_PZ F (by decide) hf (by decide) (by decide) dX5_isSo_128
    · have hf := hf.2.2.2.2.2.2.2.2 (by omega)
      refine ⟨121, 129, rfl, by decide, ?_⟩
      refine gw_aload_n F 2 rfl rfl (by decide) dX5_isSo_129 ?_
      refine gw_get0 F (so_32 hst) (by decide) rfl sg_lay_RX0 (j := 5) (by decide) rfl (.inr kw_261) dX5_isSo_130 (fun h26 => ?_)
      refine gw_iconst F dX5_isSo_133 ?_
      refine gw_icmp_eq F (tgt := 141) dX5_isSo_134 (by decide) h26 (by decide) (fun c27 => ?_) (fun c27 => ?_)
      · have hf := hf.1 c27
        refine gw_iconst F dX5_isSo_141 ?_
        exact gr_PZ F (by decide) hf (by decide) (by decide) dX5_isSo_142
      · have hf := hf.2 c27
        refine gw_iconst F dX5_isSo_137 ?_
        refine gw_goto F (tgt := 142) dX5_isSo_138 (by decide) ?_
        exact gr_PZ F (by decide) hf (by decide) (by decide) dX5_isSo_142

theorem dX11_take_0 : decode cX11_take 0 = .ok (.iload_n 1, 1) := by decide +kernel
theorem dX11_take_1 : decode cX11_take 1 = .ok (.ifCond .lt 20, 3) := by decide +kernel
theorem dX11_take_4 : decode cX11_take 4 = .ok (.iload_n 1, 1) := by decide +kernel
theorem dX11_take_5 : decode cX11_take 5 = .ok (.iconst 4, 1) := by decide +kernel
theorem dX11_take_6 : decode cX11_take 6 = .ok (.if_icmp .ge 15, 3) := by decide +kernel
theorem dX11_take_9 : decode cX11_take 9 = .ok (.aload_n 0, 1) := by decide +kernel
theorem dX11_take_10 : decode cX11_take 10 = .ok (.getfield 39, 3) := by decide +kernel
theorem dX11_take_13 : decode cX11_take 13 = .ok (.getfield 300, 3) := by decide +kernel
theorem dX11_take_16 : decode cX11_take 16 = .ok (.iload_n 1, 1) := by decide +kernel
theorem dX11_take_17 : decode cX11_take 17 = .ok (.aaload, 1) := by decide +kernel
theorem dX11_take_18 : decode cX11_take 18 = .ok (.ifnonnull 5, 3) := by decide +kernel
theorem dX11_take_21 : decode cX11_take 21 = .ok (.iconst 0, 1) := by decide +kernel
theorem dX11_take_22 : decode cX11_take 22 = .ok (.ireturn, 1) := by decide +kernel
theorem dX11_take_23 : decode cX11_take 23 = .ok (.aload_n 0, 1) := by decide +kernel
theorem dX11_take_24 : decode cX11_take 24 = .ok (.getfield 39, 3) := by decide +kernel
theorem dX11_take_27 : decode cX11_take 27 = .ok (.aload_n 0, 1) := by decide +kernel
theorem dX11_take_28 : decode cX11_take 28 = .ok (.getfield 39, 3) := by decide +kernel
theorem dX11_take_31 : decode cX11_take 31 = .ok (.getfield 300, 3) := by decide +kernel
theorem dX11_take_34 : decode cX11_take 34 = .ok (.iload_n 1, 1) := by decide +kernel
theorem dX11_take_35 : decode cX11_take 35 = .ok (.aaload, 1) := by decide +kernel
theorem dX11_take_36 : decode cX11_take 36 = .ok (.putfield 112, 3) := by decide +kernel
theorem dX11_take_39 : decode cX11_take 39 = .ok (.aload_n 0, 1) := by decide +kernel
theorem dX11_take_40 : decode cX11_take 40 = .ok (.invokevirtual 248, 3) := by decide +kernel
theorem dX11_take_43 : decode cX11_take 43 = .ok (.iconst 1, 1) := by decide +kernel
theorem dX11_take_44 : decode cX11_take 44 = .ok (.ireturn, 1) := by decide +kernel
theorem hcX11_take : yX11_take.cls ≠ "java/lang/invoke/MethodHandle" ∧ yX11_take.cls ≠ "java/lang/invoke/VarHandle" ∧ (parseMethodDescriptor yX11_take.desc).map (fun d => d.parameters.length) = some 1 := ⟨by decide +kernel, by decide +kernel, by decide +kernel⟩
def fX11_take (s0 : sg_M) (x1 : Int) (Q : Int → sg_M → Prop) : Prop := ((x1 < 0 → Q 0 s0) ∧ (¬ (x1 < 0) → ((4 ≤ x1 → Q 0 s0) ∧ (¬ (4 ≤ x1) → (0 ≤ x1 ∧ x1 < 4) ∧ ((0 ≤ (s0 25 x1) → (0 ≤ x1 ∧ x1 < 4) ∧ (0 ≤ (s0 25 x1)) ∧ ∀ s16 : sg_M, s16 = sg_up s0 4 0 (s0 25 x1) → fX11_forgetAnswers s16 (fun s18 => Q 1 s18)) ∧ ((s0 25 x1) < 0 → Q 0 s0))))))
set_option maxHeartbeats 4000000 in
set_option maxRecDepth 100000 in
theorem CX11_take {l : Launch} {G : sg_G} {La : sg_L} {s0 : sg_M} (hst : sg_St La) {x1 : Int} (r1 : sg_R x1) {Q : Int → sg_M → Prop} (hf : fX11_take s0 x1 Q) : sg_C l G yX11_take cX11_take 2 (some .boolean) 2 0 0 La s0 [sg_r 0, sg_i x1] (sg_HZ La Q) := by
  refine sg_body (by decide +kernel) (Nat.le_of_ble_eq_true rfl) ?_
  intro p e s m args below meth c F hnm
  unfold fX11_take at hf
  show sg_W p l e (sg_rm 2 0 0) s m args below meth c (MQ below (sg_Q (some .boolean) G La s.heap.size (sg_HZ La Q)) args s 0 0 (sg_A La s.heap.size)) 2 G (sg_A La s.heap.size) La s0 0 0 0 [(0, sg_r 0), (1, sg_i x1)] []
  refine gw_iload_n F 1 rfl rfl dX11_take_0 ?_
  refine gw_if_lt F (tgt := 21) dX11_take_1 (by decide) r1 (fun c1 => ?_) (fun c1 => ?_)
  · have hf := hf.1 c1
    refine gw_iconst F dX11_take_21 ?_
    exact gr_HZ F (by decide) hf (by decide) (by decide) dX11_take_22
  · have hf := hf.2 c1
    refine gw_iload_n F 1 rfl rfl dX11_take_4 ?_
    refine gw_iconst F dX11_take_5 ?_
    refine gw_icmp_ge F (tgt := 21) dX11_take_6 (by decide) r1 (by decide) (fun c2 => ?_) (fun c2 => ?_)
    · have hf := hf.1 c2
      refine gw_iconst F dX11_take_21 ?_
      exact gr_HZ F (by decide) hf (by decide) (by decide) dX11_take_22
    · have hf := hf.2 c2
      refine gw_aload_n F 0 rfl rfl (by decide) dX11_take_9 ?_
      refine gw_get7 F (so_0 hst) (by decide) rfl sg_lay_RX11 (j := 2) (by decide) (o1 := 4) (by first | rfl | omega) rfl (host := "") (.inl kw_328) dX11_take_10 (fun h3 => ?_)
      refine gw_get7 F (so_4 hst) (by decide) rfl sg_lay_RX7 (j := 4) (by decide) (o1 := 25) (by first | rfl | omega) rfl (.inr kw_242) dX11_take_13 (fun h4 => ?_)
      refine gw_iload_n F 1 rfl rfl dX11_take_16 ?_
      obtain ⟨⟨b50, b51⟩, hf⟩ := hf
      refine gw_aaldB F (n := 4) (so_25 hst) (by decide) (by decide) (by decide) b50 b51 dX11_take_17 (fun h6 => ?_)
      refine gw_ifnonnull F (tgt := 23) dX11_take_18 (by decide) (fun c7 => ?_) (fun c7 => ?_)
      · have hf := hf.1 c7
        have t8 := sg_nn h6 c7
        refine gw_aload_n F 0 rfl rfl (by decide) dX11_take_23 ?_
        refine gw_get7 F (so_0 hst) (by decide) rfl sg_lay_RX11 (j := 2) (by decide) (o1 := 4) (by first | rfl | omega) rfl (host := "") (.inl kw_328) dX11_take_24 (fun h9 => ?_)
        refine gw_aload_n F 0 rfl rfl (by decide) dX11_take_27 ?_
        refine gw_get7 F (so_0 hst) (by decide) rfl sg_lay_RX11 (j := 2) (by decide) (o1 := 4) (by first | rfl | omega) rfl (host := "") (.inl kw_328) dX11_take_28 (fun h10 => ?_)
        refine gw_get7 F (so_4 hst) (by decide) rfl sg_lay_RX7 (j := 4) (by decide) (o1 := 25) (by first | rfl | omega) rfl (.inr kw_242) dX11_take_31 (fun h11 => ?_)
        refine gw_iload_n F 1 rfl rfl dX11_take_34 ?_
        obtain ⟨⟨b120, b121⟩, hf⟩ := hf
        refine gw_aaldB F (n := 4) (so_25 hst) (by decide) (by decide) (by decide) b120 b121 dX11_take_35 (fun h13 => ?_)
        obtain ⟨g14, hf⟩ := hf
        have t15 := sg_nn h13 g14
        obtain ⟨s16, e17⟩ : ∃ z : sg_M, z = sg_up s0 4 0 (s0 25 x1) := ⟨_, rfl⟩
        have hf := hf s16 e17
        refine gw_put4 F (so_4 hst) (by decide) rfl sg_lay_RX7 (j := 0) (by decide) t15.1 t15 e17 tyX7_ok nmX7 rfl (tyX7_ok 0 (by decide)) rfl (.inr kw_234) dX11_take_36 ?_
        refine gw_aload_n F 0 rfl rfl (by decide) dX11_take_39 ?_
        refine gk_HV F (gc_V F (S := []) (As := []) (T := TX11) (N := 19) (CX11_forgetAnswers hst hf) (so_0 hst) (by decide) rfl kw_490 kw_90 kw_488 kw_489 kw_3 hcX11_forgetAnswers ⟨by decide, by decide⟩ rfl rfl (Nat.le_of_ble_eq_true rfl) ⟨by decide, by decide⟩ dX11_take_40) (fun s18 hf => ?_)
        refine gw_iconst F dX11_take_43 ?_
        exact gr_HZ F (by decide) hf (by decide) (by decide) dX11_take_44
      · have hf := hf.2 c7
        refine gw_iconst F dX11_take_21 ?_
        exact gr_HZ F (by decide) hf (by decide) (by decide) dX11_take_22

theorem dX11_breaks_0 : decode cX11_breaks 0 = .ok (.iload_n 1, 1) := by decide +kernel
theorem dX11_breaks_1 : decode cX11_breaks 1 = .ok (.iload_n 2, 1) := by decide +kernel
theorem dX11_breaks_2 : decode cX11_breaks 2 = .ok (.invokestatic 158, 3) := by decide +kernel
theorem dX11_breaks_5 : decode cX11_breaks 5 = .ok (.ifCond .ne 6, 3) := by decide +kernel
theorem dX11_breaks_8 : decode cX11_breaks 8 = .ok (.bipush (-2), 2) := by decide +kernel
theorem dX11_breaks_10 : decode cX11_breaks 10 = .ok (.ireturn, 1) := by decide +kernel
theorem dX11_breaks_11 : decode cX11_breaks 11 = .ok (.aload_n 0, 1) := by decide +kernel
theorem dX11_breaks_12 : decode cX11_breaks 12 = .ok (.getfield 54, 3) := by decide +kernel
theorem dX11_breaks_15 : decode cX11_breaks 15 = .ok (.aload_n 0, 1) := by decide +kernel
theorem dX11_breaks_16 : decode cX11_breaks 16 = .ok (.getfield 39, 3) := by decide +kernel
theorem dX11_breaks_19 : decode cX11_breaks 19 = .ok (.getfield 112, 3) := by decide +kernel
theorem dX11_breaks_22 : decode cX11_breaks 22 = .ok (.iload_n 1, 1) := by decide +kernel
theorem dX11_breaks_23 : decode cX11_breaks 23 = .ok (.iload_n 2, 1) := by decide +kernel
theorem dX11_breaks_24 : decode cX11_breaks 24 = .ok (.invokevirtual 171, 3) := by decide +kernel
theorem dX11_breaks_27 : decode cX11_breaks 27 = .ok (.aload_n 0, 1) := by decide +kernel
theorem dX11_breaks_28 : decode cX11_breaks 28 = .ok (.getfield 54, 3) := by decide +kernel
theorem dX11_breaks_31 : decode cX11_breaks 31 = .ok (.getfield 175, 3) := by decide +kernel
theorem dX11_breaks_34 : decode cX11_breaks 34 = .ok (.ireturn, 1) := by decide +kernel
theorem hcX11_breaks : yX11_breaks.cls ≠ "java/lang/invoke/MethodHandle" ∧ yX11_breaks.cls ≠ "java/lang/invoke/VarHandle" ∧ (parseMethodDescriptor yX11_breaks.desc).map (fun d => d.parameters.length) = some 2 := ⟨by decide +kernel, by decide +kernel, by decide +kernel⟩
def fX11_breaks (La : sg_L) (s0 : sg_M) (x1 : Int) (x2 : Int) (Q : Int → sg_M → Prop) : Prop := fX11_isBend x1 x2 (fun u1 => ((u1 ≠ 0 → (0 ≤ (s0 4 0)) ∧ fX0_bendTo La s0 (s0 4 0) x1 x2 (fun s9 => Q (s9 32 5) s9)) ∧ (u1 = 0 → Q (-2) s0)))
set_option maxHeartbeats 4000000 in
set_option maxRecDepth 100000 in
theorem CX11_breaks {l : Launch} {G : sg_G} {La : sg_L} {s0 : sg_M} (hst : sg_St La) {x1 : Int} (r1 : sg_R x1) {x2 : Int} (r2 : sg_R x2) {Q : Int → sg_M → Prop} (hf : fX11_breaks La s0 x1 x2 Q) : sg_C l G yX11_breaks cX11_breaks 3 (some .int) 5 0 0 La s0 [sg_r 0, sg_i x1, sg_i x2] (sg_HI La Q) := by
  refine sg_body (by decide +kernel) (Nat.le_of_ble_eq_true rfl) ?_
  intro p e s m args below meth c F hnm
  unfold fX11_breaks at hf
  show sg_W p l e (sg_rm 5 0 0) s m args below meth c (MQ below (sg_Q (some .int) G La s.heap.size (sg_HI La Q)) args s 0 0 (sg_A La s.heap.size)) 3 G (sg_A La s.heap.size) La s0 0 0 0 [(0, sg_r 0), (1, sg_i x1), (2, sg_i x2)] []
  refine gw_iload_n F 1 rfl rfl dX11_breaks_0 ?_
  refine gw_iload_n F 2 rfl rfl dX11_breaks_1 ?_
  refine gk_PZ F (gc_S F (S := []) (As := [sg_i x1, sg_i x2]) (CX11_isBend r1 r2 hf) kw_502 kw_90 kw_500 kw_501 hcX11_isBend ⟨by decide, by decide⟩ rfl rfl (Nat.le_of_ble_eq_true rfl) ⟨by decide, by decide⟩ dX11_breaks_2) (fun u1 h2 hf => ?_)
  refine gw_if_ne F (tgt := 11) dX11_breaks_5 (by decide) (sg_B_R h2) (fun c3 => ?_) (fun c3 => ?_)
  · have hf := hf.1 c3
    refine gw_aload_n F 0 rfl rfl (by decide) dX11_breaks_11 ?_
    refine gw_get7 F (so_0 hst) (by decide) rfl sg_lay_RX11 (j := 5) (by decide) (o1 := 32) (by first | rfl | omega) rfl (host := "") (.inl kw_331) dX11_breaks_12 (fun h4 => ?_)
    refine gw_aload_n F 0 rfl rfl (by decide) dX11_breaks_15 ?_
    refine gw_get7 F (so_0 hst) (by decide) rfl sg_lay_RX11 (j := 2) (by decide) (o1 := 4) (by first | rfl | omega) rfl (host := "") (.inl kw_328) dX11_breaks_16 (fun h5 => ?_)
    refine gw_get4 F (so_4 hst) (by decide) rfl sg_lay_RX7 (j := 0) (by decide) rfl (.inr kw_234) dX11_breaks_19 (fun h6 => ?_)
    refine gw_iload_n F 1 rfl rfl dX11_breaks_22 ?_
    refine gw_iload_n F 2 rfl rfl dX11_breaks_23 ?_
    obtain ⟨g7, hf⟩ := hf
    have t8 := sg_nn h6 g7
    refine gk_HV F (gc_V F (S := []) (As := [sg_r (s0 4 0), sg_i x1, sg_i x2]) (T := TX0) (N := 11) (CX0_bendTo hst t8 r1 r2 hf) (so_32 hst) (by decide) rfl kw_506 kw_100 kw_503 kw_504 kw_505 hcX0_bendTo ⟨by decide, by decide⟩ rfl rfl (Nat.le_of_ble_eq_true rfl) ⟨by decide, by decide⟩ dX11_breaks_24) (fun s9 hf => ?_)
    refine gw_aload_n F 0 rfl rfl (by decide) dX11_breaks_27 ?_
    refine gw_get7 F (so_0 hst) (by decide) rfl sg_lay_RX11 (j := 5) (by decide) (o1 := 32) (by first | rfl | omega) rfl (host := "") (.inl kw_331) dX11_breaks_28 (fun h10 => ?_)
    refine gw_get0 F (so_32 hst) (by decide) rfl sg_lay_RX0 (j := 5) (by decide) rfl (.inr kw_260) dX11_breaks_31 (fun h11 => ?_)
    exact gr_HI F h11 hf (by decide) (by decide) dX11_breaks_34
  · have hf := hf.2 c3
    refine gw_bipush F rfl dX11_breaks_8 ?_
    exact gr_HI F (by decide) hf (by decide) (by decide) dX11_breaks_10

theorem dX11_readAt_0 : decode cX11_readAt 0 = .ok (.aload_n 0, 1) := by decide +kernel
theorem dX11_readAt_1 : decode cX11_readAt 1 = .ok (.getfield 83, 3) := by decide +kernel
theorem dX11_readAt_4 : decode cX11_readAt 4 = .ok (.iload_n 1, 1) := by decide +kernel
theorem dX11_readAt_5 : decode cX11_readAt 5 = .ok (.invokevirtual 182, 3) := by decide +kernel
theorem dX11_readAt_8 : decode cX11_readAt 8 = .ok (.ireturn, 1) := by decide +kernel
theorem hcX11_readAt : yX11_readAt.cls ≠ "java/lang/invoke/MethodHandle" ∧ yX11_readAt.cls ≠ "java/lang/invoke/VarHandle" ∧ (parseMethodDescriptor yX11_readAt.desc).map (fun d => d.parameters.length) = some 1 := ⟨by decide +kernel, by decide +kernel, by decide +kernel⟩
def fX11_readAt (La : sg_L) (s0 : sg_M) (x1 : Int) (Q : Int → Prop) : Prop := fX4_at La s0 52 x1 (fun u2 => Q u2)
set_option maxHeartbeats 4000000 in
set_option maxRecDepth 100000 in
theorem CX11_readAt {l : Launch} {G : sg_G} {La : sg_L} {s0 : sg_M} (hst : sg_St La) {x1 : Int} (r1 : sg_R x1) {Q : Int → Prop} (hf : fX11_readAt La s0 x1 Q) : sg_C l G yX11_readAt cX11_readAt 2 (some .int) 2 0 0 La s0 [sg_r 0, sg_i x1] (sg_PI La s0 Q) := by
  refine sg_body (by decide +kernel) (Nat.le_of_ble_eq_true rfl) ?_
  intro p e s m args below meth c F hnm
  unfold fX11_readAt at hf
  show sg_W p l e (sg_rm 2 0 0) s m args below meth c (MQ below (sg_Q (some .int) G La s.heap.size (sg_PI La s0 Q)) args s 0 0 (sg_A La s.heap.size)) 2 G (sg_A La s.heap.size) La s0 0 0 0 [(0, sg_r 0), (1, sg_i x1)] []
  refine gw_aload_n F 0 rfl rfl (by decide) dX11_readAt_0 ?_
  refine gw_get7 F (so_0 hst) (by decide) rfl sg_lay_RX11 (j := 10) (by decide) (o1 := 52) (by first | rfl | omega) rfl (host := "") (.inl kw_336) dX11_readAt_1 (fun h1 => ?_)
  refine gw_iload_n F 1 rfl rfl dX11_readAt_4 ?_
  refine gk_PI F (gc_V F (S := []) (As := [sg_i x1]) (T := TX4) (N := 3) (CX4_at (so_52 hst) r1 hf) (so_52 hst) (by decide) rfl kw_546 kw_97 kw_543 kw_544 kw_545 hcX4_at ⟨by decide, by decide⟩ rfl rfl (Nat.le_of_ble_eq_true rfl) ⟨by decide, by decide⟩ dX11_readAt_5) (fun u2 h3 hf => ?_)
  exact gr_PI F h3 hf (by decide) (by decide) dX11_readAt_8

theorem dX11_keep_0 : decode cX11_keep 0 = .ok (.iload_n 1, 1) := by decide +kernel
theorem dX11_keep_1 : decode cX11_keep 1 = .ok (.ifCond .lt 8, 3) := by decide +kernel
theorem dX11_keep_4 : decode cX11_keep 4 = .ok (.iload_n 1, 1) := by decide +kernel
theorem dX11_keep_5 : decode cX11_keep 5 = .ok (.iconst 4, 1) := by decide +kernel
theorem dX11_keep_6 : decode cX11_keep 6 = .ok (.if_icmp .lt 5, 3) := by decide +kernel
theorem dX11_keep_9 : decode cX11_keep 9 = .ok (.iconst 0, 1) := by decide +kernel
theorem dX11_keep_10 : decode cX11_keep 10 = .ok (.ireturn, 1) := by decide +kernel
theorem dX11_keep_11 : decode cX11_keep 11 = .ok (.aload_n 0, 1) := by decide +kernel
theorem dX11_keep_12 : decode cX11_keep 12 = .ok (.getfield 39, 3) := by decide +kernel
theorem dX11_keep_15 : decode cX11_keep 15 = .ok (.getfield 300, 3) := by decide +kernel
theorem dX11_keep_18 : decode cX11_keep 18 = .ok (.iload_n 1, 1) := by decide +kernel
theorem dX11_keep_19 : decode cX11_keep 19 = .ok (.aload_n 0, 1) := by decide +kernel
theorem dX11_keep_20 : decode cX11_keep 20 = .ok (.getfield 39, 3) := by decide +kernel
theorem dX11_keep_23 : decode cX11_keep 23 = .ok (.getfield 112, 3) := by decide +kernel
theorem dX11_keep_26 : decode cX11_keep 26 = .ok (.aastore, 1) := by decide +kernel
theorem dX11_keep_27 : decode cX11_keep 27 = .ok (.iconst 1, 1) := by decide +kernel
theorem dX11_keep_28 : decode cX11_keep 28 = .ok (.ireturn, 1) := by decide +kernel
theorem hcX11_keep : yX11_keep.cls ≠ "java/lang/invoke/MethodHandle" ∧ yX11_keep.cls ≠ "java/lang/invoke/VarHandle" ∧ (parseMethodDescriptor yX11_keep.desc).map (fun d => d.parameters.length) = some 1 := ⟨by decide +kernel, by decide +kernel, by decide +kernel⟩
def fX11_keep (s0 : sg_M) (x1 : Int) (Q : Int → sg_M → Prop) : Prop := ((x1 < 0 → Q 0 s0) ∧ (¬ (x1 < 0) → ((x1 < 4 → (0 ≤ x1 ∧ x1 < 4) ∧ ∀ s8 : sg_M, s8 = sg_up s0 25 x1 (s0 4 0) → Q 1 s8) ∧ (¬ (x1 < 4) → Q 0 s0))))
set_option maxHeartbeats 4000000 in
set_option maxRecDepth 100000 in
theorem CX11_keep {l : Launch} {G : sg_G} {La : sg_L} {s0 : sg_M} (hst : sg_St La) {x1 : Int} (r1 : sg_R x1) {Q : Int → sg_M → Prop} (hf : fX11_keep s0 x1 Q) : sg_C l G yX11_keep cX11_keep 2 (some .boolean) 1 0 0 La s0 [sg_r 0, sg_i x1] (sg_HZ La Q) := by
  refine sg_body (by decide +kernel) (Nat.le_of_ble_eq_true rfl) ?_
  intro p e s m args below meth c F hnm
  unfold fX11_keep at hf
  show sg_W p l e (sg_rm 1 0 0) s m args below meth c (MQ below (sg_Q (some .boolean) G La s.heap.size (sg_HZ La Q)) args s 0 0 (sg_A La s.heap.size)) 2 G (sg_A La s.heap.size) La s0 0 0 0 [(0, sg_r 0), (1, sg_i x1)] []
  refine gw_iload_n F 1 rfl rfl dX11_keep_0 ?_
  refine gw_if_lt F (tgt := 9) dX11_keep_1 (by decide) r1 (fun c1 => ?_) (fun c1 => ?_)
  · have hf := hf.1 c1
    refine gw_iconst F dX11_keep_9 ?_
    exact gr_HZ F (by decide) hf (by decide) (by decide) dX11_keep_10
  · have hf := hf.2 c1
    refine gw_iload_n F 1 rfl rfl dX11_keep_4 ?_
    refine gw_iconst F dX11_keep_5 ?_
    refine gw_icmp_lt F (tgt := 11) dX11_keep_6 (by decide) r1 (by decide) (fun c2 => ?_) (fun c2 => ?_)
    · have hf := hf.1 c2
      refine gw_aload_n F 0 rfl rfl (by decide) dX11_keep_11 ?_
      refine gw_get7 F (so_0 hst) (by decide) rfl sg_lay_RX11 (j := 2) (by decide) (o1 := 4) (by first | rfl | omega) rfl (host := "") (.inl kw_328) dX11_keep_12 (fun h3 => ?_)
      refine gw_get7 F (so_4 hst) (by decide) rfl sg_lay_RX7 (j := 4) (by decide) (o1 := 25) (by first | rfl | omega) rfl (.inr kw_242) dX11_keep_15 (fun h4 => ?_)
      refine gw_iload_n F 1 rfl rfl dX11_keep_18 ?_
      refine gw_aload_n F 0 rfl rfl (by decide) dX11_keep_19 ?_
      refine gw_get7 F (so_0 hst) (by decide) rfl sg_lay_RX11 (j := 2) (by decide) (o1 := 4) (by first | rfl | omega) rfl (host := "") (.inl kw_328) dX11_keep_20 (fun h5 => ?_)
      refine gw_get4 F (so_4 hst) (by decide) rfl sg_lay_RX7 (j := 0) (by decide) rfl (.inr kw_234) dX11_keep_23 (fun h6 => ?_)
      obtain ⟨⟨b70, b71⟩, hf⟩ := hf
      obtain ⟨s8, e9⟩ : ∃ z : sg_M, z = sg_up s0 25 x1 (s0 4 0) := ⟨_, rfl⟩
      have hf := hf s8 e9
      refine gw_aastBN F (n := 4) (so_25 hst) (by decide) (by decide) (by decide) b70 b71 h6 e9 dX11_keep_26 ?_
      refine gw_iconst F dX11_keep_27 ?_
      exact gr_HZ F (by decide) hf (by decide) (by decide) dX11_keep_28
    · have hf := hf.2 c2
      refine gw_iconst F dX11_keep_9 ?_
      exact gr_HZ F (by decide) hf (by decide) (by decide) dX11_keep_10

theorem dX11_end_0 : decode cX11_end 0 = .ok (.iload_n 1, 1) := by decide +kernel
theorem dX11_end_1 : decode cX11_end 1 = .ok (.ifCond .lt 14, 3) := by decide +kernel
theorem dX11_end_4 : decode cX11_end 4 = .ok (.iload_n 1, 1) := by decide +kernel
theorem dX11_end_5 : decode cX11_end 5 = .ok (.aload_n 0, 1) := by decide +kernel
theorem dX11_end_6 : decode cX11_end 6 = .ok (.getfield 10, 3) := by decide +kernel
theorem dX11_end_9 : decode cX11_end 9 = .ok (.getfield 122, 3) := by decide +kernel
theorem dX11_end_12 : decode cX11_end 12 = .ok (.if_icmp .le 5, 3) := by decide +kernel
theorem dX11_end_15 : decode cX11_end 15 = .ok (.iconst 0, 1) := by decide +kernel
theorem dX11_end_16 : decode cX11_end 16 = .ok (.ireturn, 1) := by decide +kernel
theorem dX11_end_17 : decode cX11_end 17 = .ok (.aload_n 0, 1) := by decide +kernel
theorem dX11_end_18 : decode cX11_end 18 = .ok (.getfield 10, 3) := by decide +kernel
theorem dX11_end_21 : decode cX11_end 21 = .ok (.iload_n 1, 1) := by decide +kernel
theorem dX11_end_22 : decode cX11_end 22 = .ok (.putfield 122, 3) := by decide +kernel
theorem dX11_end_25 : decode cX11_end 25 = .ok (.iconst 1, 1) := by decide +kernel
theorem dX11_end_26 : decode cX11_end 26 = .ok (.ireturn, 1) := by decide +kernel
theorem hcX11_end : yX11_end.cls ≠ "java/lang/invoke/MethodHandle" ∧ yX11_end.cls ≠ "java/lang/invoke/VarHandle" ∧ (parseMethodDescriptor yX11_end.desc).map (fun d => d.parameters.length) = some 1 := ⟨by decide +kernel, by decide +kernel, by decide +kernel⟩
def fX11_end (s0 : sg_M) (x1 : Int) (Q : Int → sg_M → Prop) : Prop := ((x1 < 0 → Q 0 s0) ∧ (¬ (x1 < 0) → ((x1 ≤ (s0 1 1) → ∀ s6 : sg_M, s6 = sg_up s0 1 1 x1 → Q 1 s6) ∧ (¬ (x1 ≤ (s0 1 1)) → Q 0 s0))))
set_option maxHeartbeats 4000000 in
set_option maxRecDepth 100000 in
theorem CX11_end {l : Launch} {G : sg_G} {La : sg_L} {s0 : sg_M} (hst : sg_St La) {x1 : Int} (r1 : sg_R x1) {Q : Int → sg_M → Prop} (hf : fX11_end s0 x1 Q) : sg_C l G yX11_end cX11_end 2 (some .boolean) 1 0 0 La s0 [sg_r 0, sg_i x1] (sg_HZ La Q) := by
  refine sg_body (by decide +kernel) (Nat.le_of_ble_eq_true rfl) ?_
  intro p e s m args below meth c F hnm
  unfold fX11_end at hf
  show sg_W p l e (sg_rm 1 0 0) s m args below meth c (MQ below (sg_Q (some .boolean) G La s.heap.size (sg_HZ La Q)) args s 0 0 (sg_A La s.heap.size)) 2 G (sg_A La s.heap.size) La s0 0 0 0 [(0, sg_r 0), (1, sg_i x1)] []
  refine gw_iload_n F 1 rfl rfl dX11_end_0 ?_
  refine gw_if_lt F (tgt := 15) dX11_end_1 (by decide) r1 (fun c1 => ?_) (fun c1 => ?_)
  · have hf := hf.1 c1
    refine gw_iconst F dX11_end_15 ?_
    exact gr_HZ F (by decide) hf (by decide) (by decide) dX11_end_16
  · have hf := hf.2 c1
    refine gw_iload_n F 1 rfl rfl dX11_end_4 ?_
    refine gw_aload_n F 0 rfl rfl (by decide) dX11_end_5 ?_
    refine gw_get7 F (so_0 hst) (by decide) rfl sg_lay_RX11 (j := 0) (by decide) (o1 := 1) (by first | rfl | omega) rfl (host := "") (.inl kw_326) dX11_end_6 (fun h2 => ?_)
    refine gw_get0 F (so_1 hst) (by decide) rfl sg_lay_RX8 (j := 1) (by decide) rfl (.inr kw_128) dX11_end_9 (fun h3 => ?_)
    refine gw_icmp_le F (tgt := 17) dX11_end_12 (by decide) r1 h3 (fun c4 => ?_) (fun c4 => ?_)
    · have hf := hf.1 c4
      refine gw_aload_n F 0 rfl rfl (by decide) dX11_end_17 ?_
      refine gw_get7 F (so_0 hst) (by decide) rfl sg_lay_RX11 (j := 0) (by decide) (o1 := 1) (by first | rfl | omega) rfl (host := "") (.inl kw_326) dX11_end_18 (fun h5 => ?_)
      refine gw_iload_n F 1 rfl rfl dX11_end_21 ?_
      obtain ⟨s6, e7⟩ : ∃ z : sg_M, z = sg_up s0 1 1 x1 := ⟨_, rfl⟩
      have hf := hf s6 e7
      refine gw_put0 F (so_1 hst) (by decide) rfl sg_lay_RX8 (j := 1) (by decide) r1 e7 tyX8_ok nmX8 rfl (tyX8_ok 1 (by decide)) rfl (.inr kw_128) dX11_end_22 ?_
      refine gw_iconst F dX11_end_25 ?_
      exact gr_HZ F (by decide) hf (by decide) (by decide) dX11_end_26
    · have hf := hf.2 c4
      refine gw_iconst F dX11_end_15 ?_
      exact gr_HZ F (by decide) hf (by decide) (by decide) dX11_end_16

theorem dX8_append_0 : decode cX8_append 0 = .ok (.bipush 24, 2) := by decide +kernel
theorem dX8_append_2 : decode cX8_append 2 = .ok (.istore_n 2, 1) := by decide +kernel
theorem dX8_append_3 : decode cX8_append 3 = .ok (.iload_n 2, 1) := by decide +kernel
theorem dX8_append_4 : decode cX8_append 4 = .ok (.ifCond .lt 54, 3) := by decide +kernel
theorem dX8_append_7 : decode cX8_append 7 = .ok (.aload_n 0, 1) := by decide +kernel
theorem dX8_append_8 : decode cX8_append 8 = .ok (.getfield 15, 3) := by decide +kernel
theorem dX8_append_11 : decode cX8_append 11 = .ok (.ifCond .lt 41, 3) := by decide +kernel
theorem dX8_append_14 : decode cX8_append 14 = .ok (.aload_n 0, 1) := by decide +kernel
theorem dX8_append_15 : decode cX8_append 15 = .ok (.getfield 15, 3) := by decide +kernel
theorem dX8_append_18 : decode cX8_append 18 = .ok (.aload_n 0, 1) := by decide +kernel
theorem dX8_append_19 : decode cX8_append 19 = .ok (.getfield 9, 3) := by decide +kernel
theorem dX8_append_22 : decode cX8_append 22 = .ok (.arraylength, 1) := by decide +kernel
theorem dX8_append_23 : decode cX8_append 23 = .ok (.if_icmp .ge 29, 3) := by decide +kernel
theorem dX8_append_26 : decode cX8_append 26 = .ok (.aload_n 0, 1) := by decide +kernel
theorem dX8_append_27 : decode cX8_append 27 = .ok (.getfield 9, 3) := by decide +kernel
theorem dX8_append_30 : decode cX8_append 30 = .ok (.aload_n 0, 1) := by decide +kernel
theorem dX8_append_31 : decode cX8_append 31 = .ok (.getfield 15, 3) := by decide +kernel
theorem dX8_append_34 : decode cX8_append 34 = .ok (.iload_n 1, 1) := by decide +kernel
theorem dX8_append_35 : decode cX8_append 35 = .ok (.iload_n 2, 1) := by decide +kernel
theorem dX8_append_36 : decode cX8_append 36 = .ok (.iushr, 1) := by decide +kernel
theorem dX8_append_37 : decode cX8_append 37 = .ok (.sipush 255, 3) := by decide +kernel
theorem dX8_append_40 : decode cX8_append 40 = .ok (.iand, 1) := by decide +kernel
theorem dX8_append_41 : decode cX8_append 41 = .ok (.iastore, 1) := by decide +kernel
theorem dX8_append_42 : decode cX8_append 42 = .ok (.aload_n 0, 1) := by decide +kernel
theorem dX8_append_43 : decode cX8_append 43 = .ok (.dup, 1) := by decide +kernel
theorem dX8_append_44 : decode cX8_append 44 = .ok (.getfield 15, 3) := by decide +kernel
theorem dX8_append_47 : decode cX8_append 47 = .ok (.iconst 1, 1) := by decide +kernel
theorem dX8_append_48 : decode cX8_append 48 = .ok (.iadd, 1) := by decide +kernel
theorem dX8_append_49 : decode cX8_append 49 = .ok (.putfield 15, 3) := by decide +kernel
theorem dX8_append_52 : decode cX8_append 52 = .ok (.iinc 2 (-8), 3) := by decide +kernel
theorem dX8_append_55 : decode cX8_append 55 = .ok (.goto (-52), 3) := by decide +kernel
theorem dX8_append_58 : decode cX8_append 58 = .ok (.return_, 1) := by decide +kernel
theorem hcX8_append : yX8_append.cls ≠ "java/lang/invoke/MethodHandle" ∧ yX8_append.cls ≠ "java/lang/invoke/VarHandle" ∧ (parseMethodDescriptor yX8_append.desc).map (fun d => d.parameters.length) = some 1 := ⟨by decide +kernel, by decide +kernel, by decide +kernel⟩
def fX8_append_j52 (x2_3 : Int) (k3 : sg_M → Int → Prop) (s_52 : sg_M) : Prop := sg_R (x2_3 - 8) ∧ k3 s_52 (x2_3 - 8)
def fX8_append_L3 (x1 : Int) (Q : sg_M → Prop) : Nat → sg_M → Int → Prop
  | 0, _, _ => False
  | n_3 + 1, s_3, x2_3 => ((x2_3 < 0 → Q s_3) ∧ (¬ (x2_3 < 0) → (((s_3 1 1) < 0 → (fX8_append_j52 x2_3 (fX8_append_L3 x1 Q n_3)) s_3) ∧ (¬ ((s_3 1 1) < 0) → sg_R 540 ∧ ((540 ≤ (s_3 1 1) → (fX8_append_j52 x2_3 (fX8_append_L3 x1 Q n_3)) s_3) ∧ (¬ (540 ≤ (s_3 1 1)) → (0 ≤ (s_3 1 1) ∧ (s_3 1 1) < 540) ∧ ∀ s12 : sg_M, s12 = sg_up s_3 2 (s_3 1 1) (sg_and (sg_ushr x1 x2_3) 255) → sg_R ((s12 1 1) + 1) ∧ ∀ s16 : sg_M, s16 = sg_up s12 1 1 ((s12 1 1) + 1) → (fX8_append_j52 x2_3 (fX8_append_L3 x1 Q n_3)) s16))))))
def fX8_append (s0 : sg_M) (x1 : Int) (Q : sg_M → Prop) : Prop := (∃ n18 : Nat, fX8_append_L3 x1 Q n18 s0 24)
set_option maxHeartbeats 4000000 in
set_option maxRecDepth 100000 in
theorem CX8_append {l : Launch} {G : sg_G} {La : sg_L} {s0 : sg_M} (hst : sg_St La) {x1 : Int} (r1 : sg_R x1) {Q : sg_M → Prop} (hf : fX8_append s0 x1 Q) : sg_C l G yX8_append cX8_append 3 (none) 1 0 0 La s0 [sg_r 1, sg_i x1] (sg_HV La Q) := by
  refine sg_body (by decide +kernel) (Nat.le_of_ble_eq_true rfl) ?_
  intro p e s m args below meth c F hnm
  unfold fX8_append at hf
  show sg_W p l e (sg_rm 1 0 0) s m args below meth c (MQ below (sg_Q (none) G La s.heap.size (sg_HV La Q)) args s 0 0 (sg_A La s.heap.size)) 3 G (sg_A La s.heap.size) La s0 0 0 0 [(0, sg_r 1), (1, sg_i x1)] []
  refine gw_bipush F rfl dX8_append_0 ?_
  refine gw_istore_n F rfl (by decide) rfl dX8_append_2 ?_
  have L3 : ∀ n_3 : Nat, ∀ (s_3 : sg_M) (x2_3 : Int), sg_R x2_3 → fX8_append_L3 x1 Q n_3 s_3 x2_3 → sg_W p l e (sg_rm 1 0 0) s m args below meth c (MQ below (sg_Q (none) G La s.heap.size (sg_HV La Q)) args s 0 0 (sg_A La s.heap.size)) 3 G (sg_A La s.heap.size) La s_3 0 0 3 [(0, sg_r 1), (1, sg_i x1), (2, sg_i x2_3)] [] := by
    intro n_3
    induction n_3 with
    | zero => intro s_3 x2_3 r2_3 hf; exact hf.elim
    | succ n_3 ih =>
      intro s_3 x2_3 r2_3 hf
      unfold fX8_append_L3 at hf
      refine gw_iload_n F 2 rfl rfl dX8_append_3 ?_
      refine gw_if_lt F (tgt := 58) dX8_append_4 (by decide) r2_3 (fun c1 => ?_) (fun c1 => ?_)
      · have hf := hf.1 c1
        exact gr_HV F hf (by decide) (by decide) dX8_append_58
      · have hf := hf.2 c1
        refine gw_aload_n F 0 rfl rfl (by decide) dX8_append_7 ?_
        refine gw_get0 F (so_1 hst) (by decide) rfl sg_lay_RX8 (j := 1) (by decide) rfl (host := "") (.inl kw_127) dX8_append_8 (fun h2 => ?_)
        have J52 : ∀ (s_52 : sg_M), (fX8_append_j52 x2_3 (fX8_append_L3 x1 Q n_3)) s_52 → sg_W p l e (sg_rm 1 0 0) s m args below meth c (MQ below (sg_Q (none) G La s.heap.size (sg_HV La Q)) args s 0 0 (sg_A La s.heap.size)) 3 G (sg_A La s.heap.size) La s_52 0 0 52 [(0, sg_r 1), (1, sg_i x1), (2, sg_i x2_3)] [] := by
          intro s_52 hf
          unfold fX8_append_j52 at hf
          refine gw_iinc F (z := (x2_3 - 8)) 2 rfl (by omega) (by decide) rfl dX8_append_52 ?_
          refine gw_goto F (tgt := 3) dX8_append_55 (by decide) ?_
          obtain ⟨g3, hf⟩ := hf
          refine gw_sub [1, 2, 0] rfl ?_
          exact ih s_52 (x2_3 - 8) g3 hf
        refine gw_if_lt F (tgt := 52) dX8_append_11 (by decide) h2 (fun c4 => ?_) (fun c4 => ?_)
        · have hf := hf.1 c4
          refine gw_sub [0, 1, 2] rfl ?_
          exact J52 s_3 hf
        · have hf := hf.2 c4
          refine gw_aload_n F 0 rfl rfl (by decide) dX8_append_14 ?_
          refine gw_get0 F (so_1 hst) (by decide) rfl sg_lay_RX8 (j := 1) (by decide) rfl (host := "") (.inl kw_127) dX8_append_15 (fun h5 => ?_)
          refine gw_aload_n F 0 rfl rfl (by decide) dX8_append_18 ?_
          refine gw_get3 F (so_1 hst) (by decide) rfl sg_lay_RX8 (j := 0) (by decide) (o1 := 2) (by first | rfl | omega) rfl (host := "") (.inl kw_126) dX8_append_19 (fun h6 => ?_)
          refine gw_alen F (sa_2 hst) dX8_append_22 ?_
          obtain ⟨g7, hf⟩ := hf
          refine gw_icmp_ge F (tgt := 52) dX8_append_23 (by decide) h5 g7 (fun c8 => ?_) (fun c8 => ?_)
          · have hf := hf.1 c8
            refine gw_sub [0, 1, 2] rfl ?_
            exact J52 s_3 hf
          · have hf := hf.2 c8
            refine gw_aload_n F 0 rfl rfl (by decide) dX8_append_26 ?_
            refine gw_get3 F (so_1 hst) (by decide) rfl sg_lay_RX8 (j := 0) (by decide) (o1 := 2) (by first | rfl | omega) rfl (host := "") (.inl kw_126) dX8_append_27 (fun h9 => ?_)
            refine gw_aload_n F 0 rfl rfl (by decide) dX8_append_30 ?_
            refine gw_get0 F (so_1 hst) (by decide) rfl sg_lay_RX8 (j := 1) (by decide) rfl (host := "") (.inl kw_127) dX8_append_31 (fun h10 => ?_)
            refine gw_iload_n F 1 rfl rfl dX8_append_34 ?_
            refine gw_iload_n F 2 rfl rfl dX8_append_35 ?_
            refine gw_iushr F rfl dX8_append_36 ?_
            refine gw_sipush F rfl dX8_append_37 ?_
            refine gw_iand F rfl dX8_append_40 ?_
            obtain ⟨⟨b110, b111⟩, hf⟩ := hf
            obtain ⟨s12, e13⟩ : ∃ z : sg_M, z = sg_up s_3 2 (s_3 1 1) (sg_and (sg_ushr x1 x2_3) 255) := ⟨_, rfl⟩
            have hf := hf s12 e13
            refine gw_iast F (sa_2 hst) b110 b111 (sg_and_R _ _) e13 dX8_append_41 ?_
            refine gw_aload_n F 0 rfl rfl (by decide) dX8_append_42 ?_
            refine gw_dup F rfl dX8_append_43 ?_
            refine gw_get0 F (so_1 hst) (by decide) rfl sg_lay_RX8 (j := 1) (by decide) rfl (host := "") (.inl kw_127) dX8_append_44 (fun h14 => ?_)
            refine gw_iconst F dX8_append_47 ?_
            refine gw_iadd F rfl dX8_append_48 ?_
            obtain ⟨g15, hf⟩ := hf
            obtain ⟨s16, e17⟩ : ∃ z : sg_M, z = sg_up s12 1 1 ((s12 1 1) + 1) := ⟨_, rfl⟩
            have hf := hf s16 e17
            refine gw_put0 F (so_1 hst) (by decide) rfl sg_lay_RX8 (j := 1) (by decide) g15 e17 tyX8_ok nmX8 rfl (tyX8_ok 1 (by decide)) rfl (host := "") (.inl kw_127) dX8_append_49 ?_
            refine gw_sub [0, 1, 2] rfl ?_
            exact J52 s16 hf
  obtain ⟨n18, hf⟩ := hf
  refine gw_sub [1, 2, 0] rfl ?_
  refine L3   n18 s0 24 (by decide) hf

theorem dX11_feed_0 : decode cX11_feed 0 = .ok (.aload_n 0, 1) := by decide +kernel
theorem dX11_feed_1 : decode cX11_feed 1 = .ok (.getfield 10, 3) := by decide +kernel
theorem dX11_feed_4 : decode cX11_feed 4 = .ok (.getfield 122, 3) := by decide +kernel
theorem dX11_feed_7 : decode cX11_feed 7 = .ok (.bipush 20, 2) := by decide +kernel
theorem dX11_feed_9 : decode cX11_feed 9 = .ok (.iadd, 1) := by decide +kernel
theorem dX11_feed_10 : decode cX11_feed 10 = .ok (.sipush 540, 3) := by decide +kernel
theorem dX11_feed_13 : decode cX11_feed 13 = .ok (.if_icmp .le 5, 3) := by decide +kernel
theorem dX11_feed_16 : decode cX11_feed 16 = .ok (.iconst (-1), 1) := by decide +kernel
theorem dX11_feed_17 : decode cX11_feed 17 = .ok (.ireturn, 1) := by decide +kernel
theorem dX11_feed_18 : decode cX11_feed 18 = .ok (.aload_n 0, 1) := by decide +kernel
theorem dX11_feed_19 : decode cX11_feed 19 = .ok (.getfield 10, 3) := by decide +kernel
theorem dX11_feed_22 : decode cX11_feed 22 = .ok (.iload_n 1, 1) := by decide +kernel
theorem dX11_feed_23 : decode cX11_feed 23 = .ok (.invokevirtual 125, 3) := by decide +kernel
theorem dX11_feed_26 : decode cX11_feed 26 = .ok (.aload_n 0, 1) := by decide +kernel
theorem dX11_feed_27 : decode cX11_feed 27 = .ok (.getfield 10, 3) := by decide +kernel
theorem dX11_feed_30 : decode cX11_feed 30 = .ok (.iload_n 2, 1) := by decide +kernel
theorem dX11_feed_31 : decode cX11_feed 31 = .ok (.invokevirtual 125, 3) := by decide +kernel
theorem dX11_feed_34 : decode cX11_feed 34 = .ok (.aload_n 0, 1) := by decide +kernel
theorem dX11_feed_35 : decode cX11_feed 35 = .ok (.getfield 10, 3) := by decide +kernel
theorem dX11_feed_38 : decode cX11_feed 38 = .ok (.iload_n 3, 1) := by decide +kernel
theorem dX11_feed_39 : decode cX11_feed 39 = .ok (.invokevirtual 125, 3) := by decide +kernel
theorem dX11_feed_42 : decode cX11_feed 42 = .ok (.aload_n 0, 1) := by decide +kernel
theorem dX11_feed_43 : decode cX11_feed 43 = .ok (.getfield 10, 3) := by decide +kernel
theorem dX11_feed_46 : decode cX11_feed 46 = .ok (.iload 4, 2) := by decide +kernel
theorem dX11_feed_48 : decode cX11_feed 48 = .ok (.invokevirtual 125, 3) := by decide +kernel
theorem dX11_feed_51 : decode cX11_feed 51 = .ok (.aload_n 0, 1) := by decide +kernel
theorem dX11_feed_52 : decode cX11_feed 52 = .ok (.getfield 10, 3) := by decide +kernel
theorem dX11_feed_55 : decode cX11_feed 55 = .ok (.iload 5, 2) := by decide +kernel
theorem dX11_feed_57 : decode cX11_feed 57 = .ok (.invokevirtual 125, 3) := by decide +kernel
theorem dX11_feed_60 : decode cX11_feed 60 = .ok (.aload_n 0, 1) := by decide +kernel
theorem dX11_feed_61 : decode cX11_feed 61 = .ok (.getfield 10, 3) := by decide +kernel
theorem dX11_feed_64 : decode cX11_feed 64 = .ok (.getfield 122, 3) := by decide +kernel
theorem dX11_feed_67 : decode cX11_feed 67 = .ok (.ireturn, 1) := by decide +kernel
theorem hcX11_feed : yX11_feed.cls ≠ "java/lang/invoke/MethodHandle" ∧ yX11_feed.cls ≠ "java/lang/invoke/VarHandle" ∧ (parseMethodDescriptor yX11_feed.desc).map (fun d => d.parameters.length) = some 5 := ⟨by decide +kernel, by decide +kernel, by decide +kernel⟩
def fX11_feed (s0 : sg_M) (x1 : Int) (x2 : Int) (x3 : Int) (x4 : Int) (x5 : Int) (Q : Int → sg_M → Prop) : Prop := sg_R ((s0 1 1) + 20) ∧ ((((s0 1 1) + 20) ≤ 540 → fX8_append s0 x1 (fun s6 => fX8_append s6 x2 (fun s8 => fX8_append s8 x3 (fun s10 => fX8_append s10 x4 (fun s12 => fX8_append s12 x5 (fun s14 => Q (s14 1 1) s14)))))) ∧ (¬ (((s0 1 1) + 20) ≤ 540) → Q (-1) s0))
set_option maxHeartbeats 4000000 in
set_option maxRecDepth 100000 in
theorem CX11_feed {l : Launch} {G : sg_G} {La : sg_L} {s0 : sg_M} (hst : sg_St La) {x1 : Int} (r1 : sg_R x1) {x2 : Int} (r2 : sg_R x2) {x3 : Int} (r3 : sg_R x3) {x4 : Int} (r4 : sg_R x4) {x5 : Int} (r5 : sg_R x5) {Q : Int → sg_M → Prop} (hf : fX11_feed s0 x1 x2 x3 x4 x5 Q) : sg_C l G yX11_feed cX11_feed 6 (some .int) 2 0 0 La s0 [sg_r 0, sg_i x1, sg_i x2, sg_i x3, sg_i x4, sg_i x5] (sg_HI La Q) := by
  refine sg_body (by decide +kernel) (Nat.le_of_ble_eq_true rfl) ?_
  intro p e s m args below meth c F hnm
  unfold fX11_feed at hf
  show sg_W p l e (sg_rm 2 0 0) s m args below meth c (MQ below (sg_Q (some .int) G La s.heap.size (sg_HI La Q)) args s 0 0 (sg_A La s.heap.size)) 6 G (sg_A La s.heap.size) La s0 0 0 0 [(0, sg_r 0), (1, sg_i x1), (2, sg_i x2), (3, sg_i x3), (4, sg_i x4), (5, sg_i x5)] []
  refine gw_aload_n F 0 rfl rfl (by decide) dX11_feed_0 ?_
  refine gw_get7 F (so_0 hst) (by decide) rfl sg_lay_RX11 (j := 0) (by decide) (o1 := 1) (by first | rfl | omega) rfl (host := "") (.inl kw_326) dX11_feed_1 (fun h1 => ?_)
  refine gw_get0 F (so_1 hst) (by decide) rfl sg_lay_RX8 (j := 1) (by decide) rfl (.inr kw_128) dX11_feed_4 (fun h2 => ?_)
  refine gw_bipush F rfl dX11_feed_7 ?_
  refine gw_iadd F rfl dX11_feed_9 ?_
  refine gw_sipush F rfl dX11_feed_10 ?_
  obtain ⟨g3, hf⟩ := hf
  refine gw_icmp_le F (tgt := 18) dX11_feed_13 (by decide) g3 (by decide) (fun c4 => ?_) (fun c4 => ?_)
  · have hf := hf.1 c4
    refine gw_aload_n F 0 rfl rfl (by decide) dX11_feed_18 ?_
    refine gw_get7 F (so_0 hst) (by decide) rfl sg_lay_RX11 (j := 0) (by decide) (o1 := 1) (by first | rfl | omega) rfl (host := "") (.inl kw_326) dX11_feed_19 (fun h5 => ?_)
    refine gw_iload_n F 1 rfl rfl dX11_feed_22 ?_
    refine gk_HV F (gc_V F (S := []) (As := [sg_i x1]) (T := TX8) (N := 2) (CX8_append hst r1 hf) (so_1 hst) (by decide) rfl kw_352 kw_91 kw_349 kw_350 kw_351 hcX8_append ⟨by decide, by decide⟩ rfl rfl (Nat.le_of_ble_eq_true rfl) ⟨by decide, by decide⟩ dX11_feed_23) (fun s6 hf => ?_)
    refine gw_aload_n F 0 rfl rfl (by decide) dX11_feed_26 ?_
    refine gw_get7 F (so_0 hst) (by decide) rfl sg_lay_RX11 (j := 0) (by decide) (o1 := 1) (by first | rfl | omega) rfl (host := "") (.inl kw_326) dX11_feed_27 (fun h7 => ?_)
    refine gw_iload_n F 2 rfl rfl dX11_feed_30 ?_
    refine gk_HV F (gc_V F (S := []) (As := [sg_i x2]) (T := TX8) (N := 2) (CX8_append hst r2 hf) (so_1 hst) (by decide) rfl kw_352 kw_91 kw_349 kw_350 kw_351 hcX8_append ⟨by decide, by decide⟩ rfl rfl (Nat.le_of_ble_eq_true rfl) ⟨by decide, by decide⟩ dX11_feed_31) (fun s8 hf => ?_)
    refine gw_aload_n F 0 rfl rfl (by decide) dX11_feed_34 ?_
    refine gw_get7 F (so_0 hst) (by decide) rfl sg_lay_RX11 (j := 0) (by decide) (o1 := 1) (by first | rfl | omega) rfl (host := "") (.inl kw_326) dX11_feed_35 (fun h9 => ?_)
    refine gw_iload_n F 3 rfl rfl dX11_feed_38 ?_
    refine gk_HV F (gc_V F (S := []) (As := [sg_i x3]) (T := TX8) (N := 2) (CX8_append hst r3 hf) (so_1 hst) (by decide) rfl kw_352 kw_91 kw_349 kw_350 kw_351 hcX8_append ⟨by decide, by decide⟩ rfl rfl (Nat.le_of_ble_eq_true rfl) ⟨by decide, by decide⟩ dX11_feed_39) (fun s10 hf => ?_)
    refine gw_aload_n F 0 rfl rfl (by decide) dX11_feed_42 ?_
    refine gw_get7 F (so_0 hst) (by decide) rfl sg_lay_RX11 (j := 0) (by decide) (o1 := 1) (by first | rfl | omega) rfl (host := "") (.inl kw_326) dX11_feed_43 (fun h11 => ?_)
    refine gw_iload F 4 rfl dX11_feed_46 ?_
    refine gk_HV F (gc_V F (S := []) (As := [sg_i x4]) (T := TX8) (N := 2) (CX8_append hst r4 hf) (so_1 hst) (by decide) rfl kw_352 kw_91 kw_349 kw_350 kw_351 hcX8_append ⟨by decide, by decide⟩ rfl rfl (Nat.le_of_ble_eq_true rfl) ⟨by decide, by decide⟩ dX11_feed_48) (fun s12 hf => ?_)
    refine gw_aload_n F 0 rfl rfl (by decide) dX11_feed_51 ?_
    refine gw_get7 F (so_0 hst) (by decide) rfl sg_lay_RX11 (j := 0) (by decide) (o1 := 1) (by first | rfl | omega) rfl (host := "") (.inl kw_326) dX11_feed_52 (fun h13 => ?_)
    refine gw_iload F 5 rfl dX11_feed_55 ?_
    refine gk_HV F (gc_V F (S := []) (As := [sg_i x5]) (T := TX8) (N := 2) (CX8_append hst r5 hf) (so_1 hst) (by decide) rfl kw_352 kw_91 kw_349 kw_350 kw_351 hcX8_append ⟨by decide, by decide⟩ rfl rfl (Nat.le_of_ble_eq_true rfl) ⟨by decide, by decide⟩ dX11_feed_57) (fun s14 hf => ?_)
    refine gw_aload_n F 0 rfl rfl (by decide) dX11_feed_60 ?_
    refine gw_get7 F (so_0 hst) (by decide) rfl sg_lay_RX11 (j := 0) (by decide) (o1 := 1) (by first | rfl | omega) rfl (host := "") (.inl kw_326) dX11_feed_61 (fun h15 => ?_)
    refine gw_get0 F (so_1 hst) (by decide) rfl sg_lay_RX8 (j := 1) (by decide) rfl (.inr kw_128) dX11_feed_64 (fun h16 => ?_)
    exact gr_HI F h16 hf (by decide) (by decide) dX11_feed_67
  · have hf := hf.2 c4
    refine gw_iconst F dX11_feed_16 ?_
    exact gr_HI F (by decide) hf (by decide) (by decide) dX11_feed_17

theorem dX3_move_0 : decode cX3_move 0 = .ok (.iload_n 3, 1) := by decide +kernel
theorem dX3_move_1 : decode cX3_move 1 = .ok (.iconst 1, 1) := by decide +kernel
theorem dX3_move_2 : decode cX3_move 2 = .ok (.if_icmp .ge 4, 3) := by decide +kernel
theorem dX3_move_5 : decode cX3_move 5 = .ok (.return_, 1) := by decide +kernel
theorem dX3_move_6 : decode cX3_move 6 = .ok (.iconst 1, 1) := by decide +kernel
theorem dX3_move_7 : decode cX3_move 7 = .ok (.istore 4, 2) := by decide +kernel
theorem dX3_move_9 : decode cX3_move 9 = .ok (.iload 4, 2) := by decide +kernel
theorem dX3_move_11 : decode cX3_move 11 = .ok (.iload_n 3, 1) := by decide +kernel
theorem dX3_move_12 : decode cX3_move 12 = .ok (.if_icmp .gt 45, 3) := by decide +kernel
theorem dX3_move_15 : decode cX3_move 15 = .ok (.aload_n 0, 1) := by decide +kernel
theorem dX3_move_16 : decode cX3_move 16 = .ok (.aload_n 0, 1) := by decide +kernel
theorem dX3_move_17 : decode cX3_move 17 = .ok (.getfield 22, 3) := by decide +kernel
theorem dX3_move_20 : decode cX3_move 20 = .ok (.iload_n 1, 1) := by decide +kernel
theorem dX3_move_21 : decode cX3_move 21 = .ok (.aload_n 0, 1) := by decide +kernel
theorem dX3_move_22 : decode cX3_move 22 = .ok (.getfield 22, 3) := by decide +kernel
theorem dX3_move_25 : decode cX3_move 25 = .ok (.isub, 1) := by decide +kernel
theorem dX3_move_26 : decode cX3_move 26 = .ok (.iload 4, 2) := by decide +kernel
theorem dX3_move_28 : decode cX3_move 28 = .ok (.imul, 1) := by decide +kernel
theorem dX3_move_29 : decode cX3_move 29 = .ok (.iload_n 3, 1) := by decide +kernel
theorem dX3_move_30 : decode cX3_move 30 = .ok (.idiv, 1) := by decide +kernel
theorem dX3_move_31 : decode cX3_move 31 = .ok (.iadd, 1) := by decide +kernel
theorem dX3_move_32 : decode cX3_move 32 = .ok (.aload_n 0, 1) := by decide +kernel
theorem dX3_move_33 : decode cX3_move 33 = .ok (.getfield 25, 3) := by decide +kernel
theorem dX3_move_36 : decode cX3_move 36 = .ok (.iload_n 2, 1) := by decide +kernel
theorem dX3_move_37 : decode cX3_move 37 = .ok (.aload_n 0, 1) := by decide +kernel
theorem dX3_move_38 : decode cX3_move 38 = .ok (.getfield 25, 3) := by decide +kernel
theorem dX3_move_41 : decode cX3_move 41 = .ok (.isub, 1) := by decide +kernel
theorem dX3_move_42 : decode cX3_move 42 = .ok (.iload 4, 2) := by decide +kernel
theorem dX3_move_44 : decode cX3_move 44 = .ok (.imul, 1) := by decide +kernel
theorem dX3_move_45 : decode cX3_move 45 = .ok (.iload_n 3, 1) := by decide +kernel
theorem dX3_move_46 : decode cX3_move 46 = .ok (.idiv, 1) := by decide +kernel
theorem dX3_move_47 : decode cX3_move 47 = .ok (.iadd, 1) := by decide +kernel
theorem dX3_move_48 : decode cX3_move 48 = .ok (.invokevirtual 86, 3) := by decide +kernel
theorem dX3_move_51 : decode cX3_move 51 = .ok (.iinc 4 1, 3) := by decide +kernel
theorem dX3_move_54 : decode cX3_move 54 = .ok (.goto (-45), 3) := by decide +kernel
theorem dX3_move_57 : decode cX3_move 57 = .ok (.aload_n 0, 1) := by decide +kernel
theorem dX3_move_58 : decode cX3_move 58 = .ok (.iload_n 1, 1) := by decide +kernel
theorem dX3_move_59 : decode cX3_move 59 = .ok (.putfield 22, 3) := by decide +kernel
theorem dX3_move_62 : decode cX3_move 62 = .ok (.aload_n 0, 1) := by decide +kernel
theorem dX3_move_63 : decode cX3_move 63 = .ok (.iload_n 2, 1) := by decide +kernel
theorem dX3_move_64 : decode cX3_move 64 = .ok (.putfield 25, 3) := by decide +kernel
theorem dX3_move_67 : decode cX3_move 67 = .ok (.return_, 1) := by decide +kernel
theorem hcX3_move : yX3_move.cls ≠ "java/lang/invoke/MethodHandle" ∧ yX3_move.cls ≠ "java/lang/invoke/VarHandle" ∧ (parseMethodDescriptor yX3_move.desc).map (fun d => d.parameters.length) = some 3 := ⟨by decide +kernel, by decide +kernel, by decide +kernel⟩
def fX3_move_L9 (o : Int) (x1 : Int) (x2 : Int) (x3 : Int) (Q : sg_M → Prop) : Nat → sg_M → Int → Prop
  | 0, _, _ => False
  | n_9 + 1, s_9, x4_9 => ((x3 < x4_9 → ∀ s3 : sg_M, s3 = sg_up s_9 o 3 x1 → ∀ s5 : sg_M, s5 = sg_up s3 o 4 x2 → Q s5) ∧ (¬ (x3 < x4_9) → sg_R ((x1 - (s_9 o 3)) * x4_9) ∧ (x3 ≠ 0) ∧ sg_R ((x2 - (s_9 o 4)) * x4_9) ∧ (x3 ≠ 0) ∧ sg_R ((s_9 o 3) + (Int.tdiv ((x1 - (s_9 o 3)) * x4_9) x3)) ∧ sg_R ((s_9 o 4) + (Int.tdiv ((x2 - (s_9 o 4)) * x4_9) x3)) ∧ fX3_pass s_9 o ((s_9 o 3) + (Int.tdiv ((x1 - (s_9 o 3)) * x4_9) x3)) ((s_9 o 4) + (Int.tdiv ((x2 - (s_9 o 4)) * x4_9) x3)) (fun s17 => sg_R (x4_9 + 1) ∧ (fX3_move_L9 o x1 x2 x3 Q n_9) s17 (x4_9 + 1))))
def fX3_move (s0 : sg_M) (o : Int) (x1 : Int) (x2 : Int) (x3 : Int) (Q : sg_M → Prop) : Prop := ((1 ≤ x3 → (∃ n19 : Nat, fX3_move_L9 o x1 x2 x3 Q n19 s0 1)) ∧ (¬ (1 ≤ x3) → Q s0))
set_option maxHeartbeats 4000000 in
set_option maxRecDepth 100000 in
theorem CX3_move {l : Launch} {G : sg_G} {La : sg_L} {s0 : sg_M} {o : Int} (to : sg_O La o 3) {x1 : Int} (r1 : sg_R x1) {x2 : Int} (r2 : sg_R x2) {x3 : Int} (r3 : sg_R x3) {Q : sg_M → Prop} (hf : fX3_move s0 o x1 x2 x3 Q) : sg_C l G yX3_move cX3_move 5 (none) 2 0 0 La s0 [sg_r o, sg_i x1, sg_i x2, sg_i x3] (sg_HV La Q) := by
  refine sg_body (by decide +kernel) (Nat.le_of_ble_eq_true rfl) ?_
  intro p e s m args below meth c F hnm
  unfold fX3_move at hf
  show sg_W p l e (sg_rm 2 0 0) s m args below meth c (MQ below (sg_Q (none) G La s.heap.size (sg_HV La Q)) args s 0 0 (sg_A La s.heap.size)) 5 G (sg_A La s.heap.size) La s0 0 0 0 [(0, sg_r o), (1, sg_i x1), (2, sg_i x2), (3, sg_i x3)] []
  refine gw_iload_n F 3 rfl rfl dX3_move_0 ?_
  refine gw_iconst F dX3_move_1 ?_
  refine gw_icmp_ge F (tgt := 6) dX3_move_2 (by decide) r3 (by decide) (fun c1 => ?_) (fun c1 => ?_)
  · have hf := hf.1 c1
    refine gw_iconst F dX3_move_6 ?_
    refine gw_istore F (by decide) rfl dX3_move_7 ?_
    have L9 : ∀ n_9 : Nat, ∀ (s_9 : sg_M) (x4_9 : Int), sg_R x4_9 → fX3_move_L9 o x1 x2 x3 Q n_9 s_9 x4_9 → sg_W p l e (sg_rm 2 0 0) s m args below meth c (MQ below (sg_Q (none) G La s.heap.size (sg_HV La Q)) args s 0 0 (sg_A La s.heap.size)) 5 G (sg_A La s.heap.size) La s_9 0 0 9 [(0, sg_r o), (1, sg_i x1), (2, sg_i x2), (3, sg_i x3), (4, sg_i x4_9)] [] := by
      intro n_9
      induction n_9 with
      | zero => intro s_9 x4_9 r4_9 hf; exact hf.elim
      | succ n_9 ih =>
        intro s_9 x4_9 r4_9 hf
        unfold fX3_move_L9 at hf
        refine gw_iload F 4 rfl dX3_move_9 ?_
        refine gw_iload_n F 3 rfl rfl dX3_move_11 ?_
        refine gw_icmp_gt F (tgt := 57) dX3_move_12 (by decide) r4_9 r3 (fun c2 => ?_) (fun c2 => ?_)
        · have hf := hf.1 c2
          refine gw_aload_n F 0 rfl rfl to.1 dX3_move_57 ?_
          refine gw_iload_n F 1 rfl rfl dX3_move_58 ?_
          obtain ⟨s3, e4⟩ : ∃ z : sg_M, z = sg_up s_9 o 3 x1 := ⟨_, rfl⟩
          have hf := hf s3 e4
          refine gw_put0 F to (by decide) rfl sg_lay_RX3 (j := 3) (by decide) r1 e4 tyX3_ok nmX3 rfl (tyX3_ok 3 (by decide)) rfl (host := "") (.inl kw_182) dX3_move_59 ?_
          refine gw_aload_n F 0 rfl rfl to.1 dX3_move_62 ?_
          refine gw_iload_n F 2 rfl rfl dX3_move_63 ?_
          obtain ⟨s5, e6⟩ : ∃ z : sg_M, z = sg_up s3 o 4 x2 := ⟨_, rfl⟩
          have hf := hf s5 e6
          refine gw_put0 F to (by decide) rfl sg_lay_RX3 (j := 4) (by decide) r2 e6 tyX3_ok nmX3 rfl (tyX3_ok 4 (by decide)) rfl (host := "") (.inl kw_183) dX3_move_64 ?_
          exact gr_HV F hf (by decide) (by decide) dX3_move_67
        · have hf := hf.2 c2
          refine gw_aload_n F 0 rfl rfl to.1 dX3_move_15 ?_
          refine gw_aload_n F 0 rfl rfl to.1 dX3_move_16 ?_
          refine gw_get0 F to (by decide) rfl sg_lay_RX3 (j := 3) (by decide) rfl (host := "") (.inl kw_182) dX3_move_17 (fun h7 => ?_)
          refine gw_iload_n F 1 rfl rfl dX3_move_20 ?_
          refine gw_aload_n F 0 rfl rfl to.1 dX3_move_21 ?_
          refine gw_get0 F to (by decide) rfl sg_lay_RX3 (j := 3) (by decide) rfl (host := "") (.inl kw_182) dX3_move_22 (fun h8 => ?_)
          refine gw_isub F rfl dX3_move_25 ?_
          refine gw_iload F 4 rfl dX3_move_26 ?_
          refine gw_imul F rfl dX3_move_28 ?_
          refine gw_iload_n F 3 rfl rfl dX3_move_29 ?_
          obtain ⟨g9, hf⟩ := hf
          obtain ⟨g10, hf⟩ := hf
          refine gw_idiv F g9 r3 g10 rfl dX3_move_30 ?_
          refine gw_iadd F rfl dX3_move_31 ?_
          refine gw_aload_n F 0 rfl rfl to.1 dX3_move_32 ?_
          refine gw_get0 F to (by decide) rfl sg_lay_RX3 (j := 4) (by decide) rfl (host := "") (.inl kw_183) dX3_move_33 (fun h11 => ?_)
          refine gw_iload_n F 2 rfl rfl dX3_move_36 ?_
          refine gw_aload_n F 0 rfl rfl to.1 dX3_move_37 ?_
          refine gw_get0 F to (by decide) rfl sg_lay_RX3 (j := 4) (by decide) rfl (host := "") (.inl kw_183) dX3_move_38 (fun h12 => ?_)
          refine gw_isub F rfl dX3_move_41 ?_
          refine gw_iload F 4 rfl dX3_move_42 ?_
          refine gw_imul F rfl dX3_move_44 ?_
          refine gw_iload_n F 3 rfl rfl dX3_move_45 ?_
          obtain ⟨g13, hf⟩ := hf
          obtain ⟨g14, hf⟩ := hf
          refine gw_idiv F g13 r3 g14 rfl dX3_move_46 ?_
          refine gw_iadd F rfl dX3_move_47 ?_
          obtain ⟨g15, hf⟩ := hf
          obtain ⟨g16, hf⟩ := hf
          refine gk_HV F (gc_V F (S := []) (As := [sg_i ((s_9 o 3) + (Int.tdiv ((x1 - (s_9 o 3)) * x4_9) x3)), sg_i ((s_9 o 4) + (Int.tdiv ((x2 - (s_9 o 4)) * x4_9) x3))]) (T := TX3) (N := 5) (CX3_pass to g15 g16 hf) to (by decide) rfl kw_629 kw_95 kw_627 kw_628 kw_17 hcX3_pass ⟨by decide, by decide⟩ rfl rfl (Nat.le_of_ble_eq_true rfl) ⟨by decide, by decide⟩ dX3_move_48) (fun s17 hf => ?_)
          refine gw_iinc F (z := (x4_9 + 1)) 4 rfl (by omega) (by decide) rfl dX3_move_51 ?_
          refine gw_goto F (tgt := 9) dX3_move_54 (by decide) ?_
          obtain ⟨g18, hf⟩ := hf
          refine gw_sub [1, 2, 3, 4, 0] rfl ?_
          exact ih s17 (x4_9 + 1) g18 hf
    obtain ⟨n19, hf⟩ := hf
    refine gw_sub [1, 2, 3, 4, 0] rfl ?_
    refine L9   n19 s0 1 (by decide) hf
  · have hf := hf.2 c1
    exact gr_HV F hf (by decide) (by decide) dX3_move_5

theorem dX3_readTicks_0 : decode cX3_readTicks 0 = .ok (.aload_n 1, 1) := by decide +kernel
theorem dX3_readTicks_1 : decode cX3_readTicks 1 = .ok (.iconst 1, 1) := by decide +kernel
theorem dX3_readTicks_2 : decode cX3_readTicks 2 = .ok (.bipush 99, 2) := by decide +kernel
theorem dX3_readTicks_4 : decode cX3_readTicks 4 = .ok (.sipush 200, 3) := by decide +kernel
theorem dX3_readTicks_7 : decode cX3_readTicks 7 = .ok (.aload_n 0, 1) := by decide +kernel
theorem dX3_readTicks_8 : decode cX3_readTicks 8 = .ok (.getfield 18, 3) := by decide +kernel
theorem dX3_readTicks_11 : decode cX3_readTicks 11 = .ok (.isub, 1) := by decide +kernel
theorem dX3_readTicks_12 : decode cX3_readTicks 12 = .ok (.invokevirtual 52, 3) := by decide +kernel
theorem dX3_readTicks_15 : decode cX3_readTicks 15 = .ok (.ireturn, 1) := by decide +kernel
theorem hcX3_readTicks : yX3_readTicks.cls ≠ "java/lang/invoke/MethodHandle" ∧ yX3_readTicks.cls ≠ "java/lang/invoke/VarHandle" ∧ (parseMethodDescriptor yX3_readTicks.desc).map (fun d => d.parameters.length) = some 1 := ⟨by decide +kernel, by decide +kernel, by decide +kernel⟩
def fX3_readTicks (s0 : sg_M) (o : Int) (Q : Int → sg_M → Prop) : Prop := sg_R (200 - (s0 o 2)) ∧ fX9_number s0 1 99 (200 - (s0 o 2)) (fun u3 s5 => Q u3 s5)
set_option maxHeartbeats 4000000 in
set_option maxRecDepth 100000 in
theorem CX3_readTicks {l : Launch} {G : sg_G} {La : sg_L} {s0 : sg_M} (hst : sg_St La) {o : Int} (to : sg_O La o 3) {Q : Int → sg_M → Prop} (hf : fX3_readTicks s0 o Q) : sg_C l G yX3_readTicks cX3_readTicks 2 (some .int) 4 0 0 La s0 [sg_r o, sg_r 3] (sg_HI La Q) := by
  refine sg_body (by decide +kernel) (Nat.le_of_ble_eq_true rfl) ?_
  intro p e s m args below meth c F hnm
  unfold fX3_readTicks at hf
  show sg_W p l e (sg_rm 4 0 0) s m args below meth c (MQ below (sg_Q (some .int) G La s.heap.size (sg_HI La Q)) args s 0 0 (sg_A La s.heap.size)) 2 G (sg_A La s.heap.size) La s0 0 0 0 [(0, sg_r o), (1, sg_r 3)] []
  refine gw_aload_n F 1 rfl rfl (by decide) dX3_readTicks_0 ?_
  refine gw_iconst F dX3_readTicks_1 ?_
  refine gw_bipush F rfl dX3_readTicks_2 ?_
  refine gw_sipush F rfl dX3_readTicks_4 ?_
  refine gw_aload_n F 0 rfl rfl to.1 dX3_readTicks_7 ?_
  refine gw_get0 F to (by decide) rfl sg_lay_RX3 (j := 2) (by decide) rfl (host := "") (.inl kw_180) dX3_readTicks_8 (fun h1 => ?_)
  refine gw_isub F rfl dX3_readTicks_11 ?_
  obtain ⟨g2, hf⟩ := hf
  refine gk_HI F (gc_V F (S := []) (As := [sg_i 1, sg_i 99, sg_i (200 - (s0 o 2))]) (T := TX9) (N := 8) (CX9_number hst (by decide) (by decide) g2 hf) (so_3 hst) (by decide) rfl kw_453 kw_92 kw_614 kw_451 kw_452 hcX9_number ⟨by decide, by decide⟩ rfl rfl (Nat.le_of_ble_eq_true rfl) ⟨by decide, by decide⟩ dX3_readTicks_12) (fun u3 s5 h4 hf => ?_)
  exact gr_HI F h4 hf (by decide) (by decide) dX3_readTicks_15

theorem dX3_shake_0 : decode cX3_shake 0 = .ok (.iconst 1, 1) := by decide +kernel
theorem dX3_shake_1 : decode cX3_shake 1 = .ok (.istore_n 3, 1) := by decide +kernel
theorem dX3_shake_2 : decode cX3_shake 2 = .ok (.iload_n 3, 1) := by decide +kernel
theorem dX3_shake_3 : decode cX3_shake 3 = .ok (.iload_n 2, 1) := by decide +kernel
theorem dX3_shake_4 : decode cX3_shake 4 = .ok (.if_icmp .gt 57, 3) := by decide +kernel
theorem dX3_shake_7 : decode cX3_shake 7 = .ok (.iconst 0, 1) := by decide +kernel
theorem dX3_shake_8 : decode cX3_shake 8 = .ok (.istore 4, 2) := by decide +kernel
theorem dX3_shake_10 : decode cX3_shake 10 = .ok (.iload_n 3, 1) := by decide +kernel
theorem dX3_shake_11 : decode cX3_shake 11 = .ok (.iconst 4, 1) := by decide +kernel
theorem dX3_shake_12 : decode cX3_shake 12 = .ok (.irem, 1) := by decide +kernel
theorem dX3_shake_13 : decode cX3_shake 13 = .ok (.iconst 1, 1) := by decide +kernel
theorem dX3_shake_14 : decode cX3_shake 14 = .ok (.if_icmp .ne 9, 3) := by decide +kernel
theorem dX3_shake_17 : decode cX3_shake 17 = .ok (.iload_n 1, 1) := by decide +kernel
theorem dX3_shake_18 : decode cX3_shake 18 = .ok (.istore 4, 2) := by decide +kernel
theorem dX3_shake_20 : decode cX3_shake 20 = .ok (.goto 14, 3) := by decide +kernel
theorem dX3_shake_23 : decode cX3_shake 23 = .ok (.iload_n 3, 1) := by decide +kernel
theorem dX3_shake_24 : decode cX3_shake 24 = .ok (.iconst 4, 1) := by decide +kernel
theorem dX3_shake_25 : decode cX3_shake 25 = .ok (.irem, 1) := by decide +kernel
theorem dX3_shake_26 : decode cX3_shake 26 = .ok (.iconst 3, 1) := by decide +kernel
theorem dX3_shake_27 : decode cX3_shake 27 = .ok (.if_icmp .ne 7, 3) := by decide +kernel
theorem dX3_shake_30 : decode cX3_shake 30 = .ok (.iload_n 1, 1) := by decide +kernel
theorem dX3_shake_31 : decode cX3_shake 31 = .ok (.ineg, 1) := by decide +kernel
theorem dX3_shake_32 : decode cX3_shake 32 = .ok (.istore 4, 2) := by decide +kernel
theorem dX3_shake_34 : decode cX3_shake 34 = .ok (.aload_n 0, 1) := by decide +kernel
theorem dX3_shake_35 : decode cX3_shake 35 = .ok (.aload_n 0, 1) := by decide +kernel
theorem dX3_shake_36 : decode cX3_shake 36 = .ok (.getfield 22, 3) := by decide +kernel
theorem dX3_shake_39 : decode cX3_shake 39 = .ok (.aload_n 0, 1) := by decide +kernel
theorem dX3_shake_40 : decode cX3_shake 40 = .ok (.getfield 25, 3) := by decide +kernel
theorem dX3_shake_43 : decode cX3_shake 43 = .ok (.iload 4, 2) := by decide +kernel
theorem dX3_shake_45 : decode cX3_shake 45 = .ok (.iadd, 1) := by decide +kernel
theorem dX3_shake_46 : decode cX3_shake 46 = .ok (.sipush 9999, 3) := by decide +kernel
theorem dX3_shake_49 : decode cX3_shake 49 = .ok (.invokestatic 89, 3) := by decide +kernel
theorem dX3_shake_52 : decode cX3_shake 52 = .ok (.invokevirtual 86, 3) := by decide +kernel
theorem dX3_shake_55 : decode cX3_shake 55 = .ok (.iinc 3 1, 3) := by decide +kernel
theorem dX3_shake_58 : decode cX3_shake 58 = .ok (.goto (-56), 3) := by decide +kernel
theorem dX3_shake_61 : decode cX3_shake 61 = .ok (.return_, 1) := by decide +kernel
theorem hcX3_shake : yX3_shake.cls ≠ "java/lang/invoke/MethodHandle" ∧ yX3_shake.cls ≠ "java/lang/invoke/VarHandle" ∧ (parseMethodDescriptor yX3_shake.desc).map (fun d => d.parameters.length) = some 2 := ⟨by decide +kernel, by decide +kernel, by decide +kernel⟩
def fX3_shake_j34 (o : Int) (s_2 : sg_M) (x3_2 : Int) (k2 : sg_M → Int → Prop) (x4_34 : Int) : Prop := sg_R ((s_2 o 4) + x4_34) ∧ fX11_within ((s_2 o 4) + x4_34) 9999 (fun u5 => fX3_pass s_2 o (s_2 o 3) u5 (fun s7 => sg_R (x3_2 + 1) ∧ k2 s7 (x3_2 + 1)))
def fX3_shake_L2 (o : Int) (x1 : Int) (x2 : Int) (Q : sg_M → Prop) : Nat → sg_M → Int → Prop
  | 0, _, _ => False
  | n_2 + 1, s_2, x3_2 => ((x2 < x3_2 → Q s_2) ∧ (¬ (x2 < x3_2) → sg_R (Int.tmod x3_2 4) ∧ (((Int.tmod x3_2 4) ≠ 1 → sg_R (Int.tmod x3_2 4) ∧ (((Int.tmod x3_2 4) ≠ 3 → (fX3_shake_j34 o s_2 x3_2 (fX3_shake_L2 o x1 x2 Q n_2)) 0) ∧ ((Int.tmod x3_2 4) = 3 → sg_R (-x1) ∧ (fX3_shake_j34 o s_2 x3_2 (fX3_shake_L2 o x1 x2 Q n_2)) (-x1)))) ∧ ((Int.tmod x3_2 4) = 1 → (fX3_shake_j34 o s_2 x3_2 (fX3_shake_L2 o x1 x2 Q n_2)) x1))))
def fX3_shake (s0 : sg_M) (o : Int) (x1 : Int) (x2 : Int) (Q : sg_M → Prop) : Prop := (∃ n14 : Nat, fX3_shake_L2 o x1 x2 Q n14 s0 1)
set_option maxHeartbeats 4000000 in
set_option maxRecDepth 100000 in
theorem CX3_shake {l : Launch} {G : sg_G} {La : sg_L} {s0 : sg_M} {o : Int} (to : sg_O La o 3) {x1 : Int} (r1 : sg_R x1) {x2 : Int} (r2 : sg_R x2) {Q : sg_M → Prop} (hf : fX3_shake s0 o x1 x2 Q) : sg_C l G yX3_shake cX3_shake 5 (none) 2 0 0 La s0 [sg_r o, sg_i x1, sg_i x2] (sg_HV La Q) := by
  refine sg_body (by decide +kernel) (Nat.le_of_ble_eq_true rfl) ?_
  intro p e s m args below meth c F hnm
  unfold fX3_shake at hf
  show sg_W p l e (sg_rm 2 0 0) s m args below meth c (MQ below (sg_Q (none) G La s.heap.size (sg_HV La Q)) args s 0 0 (sg_A La s.heap.size)) 5 G (sg_A La s.heap.size) La s0 0 0 0 [(0, sg_r o), (1, sg_i x1), (2, sg_i x2)] []
  refine gw_iconst F dX3_shake_0 ?_
  refine gw_istore_n F rfl (by decide) rfl dX3_shake_1 ?_
  have L2 : ∀ n_2 : Nat, ∀ (s_2 : sg_M) (x3_2 : Int), sg_R x3_2 → fX3_shake_L2 o x1 x2 Q n_2 s_2 x3_2 → sg_W p l e (sg_rm 2 0 0) s m args below meth c (MQ below (sg_Q (none) G La s.heap.size (sg_HV La Q)) args s 0 0 (sg_A La s.heap.size)) 5 G (sg_A La s.heap.size) La s_2 0 0 2 [(0, sg_r o), (1, sg_i x1), (2, sg_i x2), (3, sg_i x3_2)] [] := by
    intro n_2
    induction n_2 with
    | zero => intro s_2 x3_2 r3_2 hf; exact hf.elim
    | succ n_2 ih =>
      intro s_2 x3_2 r3_2 hf
      unfold fX3_shake_L2 at hf
      refine gw_iload_n F 3 rfl rfl dX3_shake_2 ?_
      refine gw_iload_n F 2 rfl rfl dX3_shake_3 ?_
      refine gw_icmp_gt F (tgt := 61) dX3_shake_4 (by decide) r3_2 r2 (fun c1 => ?_) (fun c1 => ?_)
      · have hf := hf.1 c1
        exact gr_HV F hf (by decide) (by decide) dX3_shake_61
      · have hf := hf.2 c1
        refine gw_iconst F dX3_shake_7 ?_
        refine gw_istore F (by decide) rfl dX3_shake_8 ?_
        refine gw_iload_n F 4 rfl rfl dX3_shake_10 ?_
        refine gw_iconst F dX3_shake_11 ?_
        refine gw_irem F r3_2 (by decide) (by decide) rfl dX3_shake_12 ?_
        refine gw_iconst F dX3_shake_13 ?_
        have J34 : ∀ (x4_34 : Int), sg_R x4_34 → (fX3_shake_j34 o s_2 x3_2 (fX3_shake_L2 o x1 x2 Q n_2)) x4_34 → sg_W p l e (sg_rm 2 0 0) s m args below meth c (MQ below (sg_Q (none) G La s.heap.size (sg_HV La Q)) args s 0 0 (sg_A La s.heap.size)) 5 G (sg_A La s.heap.size) La s_2 0 0 34 [(0, sg_r o), (1, sg_i x1), (2, sg_i x2), (3, sg_i x3_2), (4, sg_i x4_34)] [] := by
          intro x4_34 r4_34 hf
          unfold fX3_shake_j34 at hf
          refine gw_aload_n F 0 rfl rfl to.1 dX3_shake_34 ?_
          refine gw_aload_n F 0 rfl rfl to.1 dX3_shake_35 ?_
          refine gw_get0 F to (by decide) rfl sg_lay_RX3 (j := 3) (by decide) rfl (host := "") (.inl kw_182) dX3_shake_36 (fun h2 => ?_)
          refine gw_aload_n F 0 rfl rfl to.1 dX3_shake_39 ?_
          refine gw_get0 F to (by decide) rfl sg_lay_RX3 (j := 4) (by decide) rfl (host := "") (.inl kw_183) dX3_shake_40 (fun h3 => ?_)
          refine gw_iload F 4 rfl dX3_shake_43 ?_
          refine gw_iadd F rfl dX3_shake_45 ?_
          refine gw_sipush F rfl dX3_shake_46 ?_
          obtain ⟨g4, hf⟩ := hf
          refine gk_PI F (gc_SN F (S := [sg_i (s_2 o 3), sg_r o]) (As := [sg_i ((s_2 o 4) + x4_34), sg_i 9999]) (CX11_within g4 (by decide) hf) kw_521 kw_90 kw_633 kw_520 hcX11_within ⟨by decide, by decide⟩ rfl rfl (Nat.le_of_ble_eq_true rfl) ⟨by decide, by decide⟩ dX3_shake_49) (fun u5 h6 hf => ?_)
          refine gk_HV F (gc_V F (S := []) (As := [sg_i (s_2 o 3), sg_i u5]) (T := TX3) (N := 5) (CX3_pass to h2 h6 hf) to (by decide) rfl kw_629 kw_95 kw_627 kw_628 kw_17 hcX3_pass ⟨by decide, by decide⟩ rfl rfl (Nat.le_of_ble_eq_true rfl) ⟨by decide, by decide⟩ dX3_shake_52) (fun s7 hf => ?_)
          refine gw_iinc F (z := (x3_2 + 1)) 3 rfl (by omega) (by decide) rfl dX3_shake_55 ?_
          refine gw_goto F (tgt := 2) dX3_shake_58 (by decide) ?_
          obtain ⟨g8, hf⟩ := hf
          refine gw_sub [1, 2, 3, 0] rfl ?_
          exact ih s7 (x3_2 + 1) g8 hf
        obtain ⟨g9, hf⟩ := hf
        refine gw_icmp_ne F (tgt := 23) dX3_shake_14 (by decide) g9 (by decide) (fun c10 => ?_) (fun c10 => ?_)
        · have hf := hf.1 c10
          refine gw_iload_n F 4 rfl rfl dX3_shake_23 ?_
          refine gw_iconst F dX3_shake_24 ?_
          refine gw_irem F r3_2 (by decide) (by decide) rfl dX3_shake_25 ?_
          refine gw_iconst F dX3_shake_26 ?_
          obtain ⟨g11, hf⟩ := hf
          refine gw_icmp_ne F (tgt := 34) dX3_shake_27 (by decide) g11 (by decide) (fun c12 => ?_) (fun c12 => ?_)
          · have hf := hf.1 c12
            refine gw_sub [1, 2, 3, 4, 0] rfl ?_
            exact J34 0 (by decide) hf
          · have hf := hf.2 c12
            refine gw_iload_n F 2 rfl rfl dX3_shake_30 ?_
            refine gw_ineg F rfl dX3_shake_31 ?_
            refine gw_istore F (by decide) rfl dX3_shake_32 ?_
            obtain ⟨g13, hf⟩ := hf
            refine gw_sub [1, 2, 3, 4, 0] rfl ?_
            exact J34 (-x1) g13 hf
        · have hf := hf.2 c10
          refine gw_iload_n F 2 rfl rfl dX3_shake_17 ?_
          refine gw_istore F (by decide) rfl dX3_shake_18 ?_
          refine gw_goto F (tgt := 34) dX3_shake_20 (by decide) ?_
          refine gw_sub [1, 2, 3, 4, 0] rfl ?_
          exact J34 x1 r1 hf
  obtain ⟨n14, hf⟩ := hf
  refine gw_sub [1, 2, 3, 0] rfl ?_
  refine L2   n14 s0 1 (by decide) hf

theorem dX3_readMove_0 : decode cX3_readMove 0 = .ok (.aload_n 1, 1) := by decide +kernel
theorem dX3_readMove_1 : decode cX3_readMove 1 = .ok (.ldc 42, 2) := by decide +kernel
theorem dX3_readMove_3 : decode cX3_readMove 3 = .ok (.invokevirtual 44, 3) := by decide +kernel
theorem dX3_readMove_6 : decode cX3_readMove 6 = .ok (.ifCond .eq 54, 3) := by decide +kernel
theorem dX3_readMove_9 : decode cX3_readMove 9 = .ok (.aload_n 0, 1) := by decide +kernel
theorem dX3_readMove_10 : decode cX3_readMove 10 = .ok (.aload_n 1, 1) := by decide +kernel
theorem dX3_readMove_11 : decode cX3_readMove 11 = .ok (.bipush 45, 2) := by decide +kernel
theorem dX3_readMove_13 : decode cX3_readMove 13 = .ok (.invokevirtual 48, 3) := by decide +kernel
theorem dX3_readMove_16 : decode cX3_readMove 16 = .ok (.aload_n 1, 1) := by decide +kernel
theorem dX3_readMove_17 : decode cX3_readMove 17 = .ok (.iconst 0, 1) := by decide +kernel
theorem dX3_readMove_18 : decode cX3_readMove 18 = .ok (.sipush 9999, 3) := by decide +kernel
theorem dX3_readMove_21 : decode cX3_readMove 21 = .ok (.sipush 9999, 3) := by decide +kernel
theorem dX3_readMove_24 : decode cX3_readMove 24 = .ok (.invokevirtual 52, 3) := by decide +kernel
theorem dX3_readMove_27 : decode cX3_readMove 27 = .ok (.invokestatic 56, 3) := by decide +kernel
theorem dX3_readMove_30 : decode cX3_readMove 30 = .ok (.putfield 22, 3) := by decide +kernel
theorem dX3_readMove_33 : decode cX3_readMove 33 = .ok (.aload_n 0, 1) := by decide +kernel
theorem dX3_readMove_34 : decode cX3_readMove 34 = .ok (.aload_n 1, 1) := by decide +kernel
theorem dX3_readMove_35 : decode cX3_readMove 35 = .ok (.bipush 45, 2) := by decide +kernel
theorem dX3_readMove_37 : decode cX3_readMove 37 = .ok (.invokevirtual 48, 3) := by decide +kernel
theorem dX3_readMove_40 : decode cX3_readMove 40 = .ok (.aload_n 1, 1) := by decide +kernel
theorem dX3_readMove_41 : decode cX3_readMove 41 = .ok (.iconst 0, 1) := by decide +kernel
theorem dX3_readMove_42 : decode cX3_readMove 42 = .ok (.sipush 9999, 3) := by decide +kernel
theorem dX3_readMove_45 : decode cX3_readMove 45 = .ok (.sipush 9999, 3) := by decide +kernel
theorem dX3_readMove_48 : decode cX3_readMove 48 = .ok (.invokevirtual 52, 3) := by decide +kernel
theorem dX3_readMove_51 : decode cX3_readMove 51 = .ok (.invokestatic 56, 3) := by decide +kernel
theorem dX3_readMove_54 : decode cX3_readMove 54 = .ok (.putfield 25, 3) := by decide +kernel
theorem dX3_readMove_57 : decode cX3_readMove 57 = .ok (.goto 148, 3) := by decide +kernel
theorem dX3_readMove_60 : decode cX3_readMove 60 = .ok (.aload_n 1, 1) := by decide +kernel
theorem dX3_readMove_61 : decode cX3_readMove 61 = .ok (.ldc 60, 2) := by decide +kernel
theorem dX3_readMove_63 : decode cX3_readMove 63 = .ok (.invokevirtual 44, 3) := by decide +kernel
theorem dX3_readMove_66 : decode cX3_readMove 66 = .ok (.ifCond .eq 65, 3) := by decide +kernel
theorem dX3_readMove_69 : decode cX3_readMove 69 = .ok (.aload_n 1, 1) := by decide +kernel
theorem dX3_readMove_70 : decode cX3_readMove 70 = .ok (.bipush 45, 2) := by decide +kernel
theorem dX3_readMove_72 : decode cX3_readMove 72 = .ok (.invokevirtual 48, 3) := by decide +kernel
theorem dX3_readMove_75 : decode cX3_readMove 75 = .ok (.aload_n 1, 1) := by decide +kernel
theorem dX3_readMove_76 : decode cX3_readMove 76 = .ok (.iconst 0, 1) := by decide +kernel
theorem dX3_readMove_77 : decode cX3_readMove 77 = .ok (.sipush 9999, 3) := by decide +kernel
theorem dX3_readMove_80 : decode cX3_readMove 80 = .ok (.sipush 9999, 3) := by decide +kernel
theorem dX3_readMove_83 : decode cX3_readMove 83 = .ok (.invokevirtual 52, 3) := by decide +kernel
theorem dX3_readMove_86 : decode cX3_readMove 86 = .ok (.invokestatic 56, 3) := by decide +kernel
theorem dX3_readMove_89 : decode cX3_readMove 89 = .ok (.istore_n 2, 1) := by decide +kernel
theorem dX3_readMove_90 : decode cX3_readMove 90 = .ok (.aload_n 1, 1) := by decide +kernel
theorem dX3_readMove_91 : decode cX3_readMove 91 = .ok (.bipush 45, 2) := by decide +kernel
theorem dX3_readMove_93 : decode cX3_readMove 93 = .ok (.invokevirtual 48, 3) := by decide +kernel
theorem dX3_readMove_96 : decode cX3_readMove 96 = .ok (.aload_n 1, 1) := by decide +kernel
theorem dX3_readMove_97 : decode cX3_readMove 97 = .ok (.iconst 0, 1) := by decide +kernel
theorem dX3_readMove_98 : decode cX3_readMove 98 = .ok (.sipush 9999, 3) := by decide +kernel
theorem dX3_readMove_101 : decode cX3_readMove 101 = .ok (.sipush 9999, 3) := by decide +kernel
theorem dX3_readMove_104 : decode cX3_readMove 104 = .ok (.invokevirtual 52, 3) := by decide +kernel
theorem dX3_readMove_107 : decode cX3_readMove 107 = .ok (.invokestatic 56, 3) := by decide +kernel
theorem dX3_readMove_110 : decode cX3_readMove 110 = .ok (.istore_n 3, 1) := by decide +kernel
theorem dX3_readMove_111 : decode cX3_readMove 111 = .ok (.aload_n 1, 1) := by decide +kernel
theorem dX3_readMove_112 : decode cX3_readMove 112 = .ok (.ldc 62, 2) := by decide +kernel
theorem dX3_readMove_114 : decode cX3_readMove 114 = .ok (.invokevirtual 64, 3) := by decide +kernel
theorem dX3_readMove_117 : decode cX3_readMove 117 = .ok (.aload_n 0, 1) := by decide +kernel
theorem dX3_readMove_118 : decode cX3_readMove 118 = .ok (.iload_n 2, 1) := by decide +kernel
theorem dX3_readMove_119 : decode cX3_readMove 119 = .ok (.iload_n 3, 1) := by decide +kernel
theorem dX3_readMove_120 : decode cX3_readMove 120 = .ok (.aload_n 0, 1) := by decide +kernel
theorem dX3_readMove_121 : decode cX3_readMove 121 = .ok (.aload_n 1, 1) := by decide +kernel
theorem dX3_readMove_122 : decode cX3_readMove 122 = .ok (.invokevirtual 68, 3) := by decide +kernel
theorem dX3_readMove_125 : decode cX3_readMove 125 = .ok (.invokevirtual 72, 3) := by decide +kernel
theorem dX3_readMove_128 : decode cX3_readMove 128 = .ok (.goto 77, 3) := by decide +kernel
theorem dX3_readMove_131 : decode cX3_readMove 131 = .ok (.aload_n 1, 1) := by decide +kernel
theorem dX3_readMove_132 : decode cX3_readMove 132 = .ok (.ldc 76, 2) := by decide +kernel
theorem dX3_readMove_134 : decode cX3_readMove 134 = .ok (.invokevirtual 44, 3) := by decide +kernel
theorem dX3_readMove_137 : decode cX3_readMove 137 = .ok (.ifCond .eq 34, 3) := by decide +kernel
theorem dX3_readMove_140 : decode cX3_readMove 140 = .ok (.aload_n 1, 1) := by decide +kernel
theorem dX3_readMove_141 : decode cX3_readMove 141 = .ok (.iconst 0, 1) := by decide +kernel
theorem dX3_readMove_142 : decode cX3_readMove 142 = .ok (.sipush 999, 3) := by decide +kernel
theorem dX3_readMove_145 : decode cX3_readMove 145 = .ok (.sipush 999, 3) := by decide +kernel
theorem dX3_readMove_148 : decode cX3_readMove 148 = .ok (.invokevirtual 52, 3) := by decide +kernel
theorem dX3_readMove_151 : decode cX3_readMove 151 = .ok (.istore_n 2, 1) := by decide +kernel
theorem dX3_readMove_152 : decode cX3_readMove 152 = .ok (.aload_n 1, 1) := by decide +kernel
theorem dX3_readMove_153 : decode cX3_readMove 153 = .ok (.ldc 62, 2) := by decide +kernel
theorem dX3_readMove_155 : decode cX3_readMove 155 = .ok (.invokevirtual 64, 3) := by decide +kernel
theorem dX3_readMove_158 : decode cX3_readMove 158 = .ok (.aload_n 0, 1) := by decide +kernel
theorem dX3_readMove_159 : decode cX3_readMove 159 = .ok (.iload_n 2, 1) := by decide +kernel
theorem dX3_readMove_160 : decode cX3_readMove 160 = .ok (.aload_n 0, 1) := by decide +kernel
theorem dX3_readMove_161 : decode cX3_readMove 161 = .ok (.aload_n 1, 1) := by decide +kernel
theorem dX3_readMove_162 : decode cX3_readMove 162 = .ok (.invokevirtual 68, 3) := by decide +kernel
theorem dX3_readMove_165 : decode cX3_readMove 165 = .ok (.invokevirtual 78, 3) := by decide +kernel
theorem dX3_readMove_168 : decode cX3_readMove 168 = .ok (.goto 37, 3) := by decide +kernel
theorem dX3_readMove_171 : decode cX3_readMove 171 = .ok (.aload_n 1, 1) := by decide +kernel
theorem dX3_readMove_172 : decode cX3_readMove 172 = .ok (.ldc 81, 2) := by decide +kernel
theorem dX3_readMove_174 : decode cX3_readMove 174 = .ok (.invokevirtual 44, 3) := by decide +kernel
theorem dX3_readMove_177 : decode cX3_readMove 177 = .ok (.ifCond .eq 23, 3) := by decide +kernel
theorem dX3_readMove_180 : decode cX3_readMove 180 = .ok (.aload_n 0, 1) := by decide +kernel
theorem dX3_readMove_181 : decode cX3_readMove 181 = .ok (.aload_n 0, 1) := by decide +kernel
theorem dX3_readMove_182 : decode cX3_readMove 182 = .ok (.getfield 22, 3) := by decide +kernel
theorem dX3_readMove_185 : decode cX3_readMove 185 = .ok (.aload_n 0, 1) := by decide +kernel
theorem dX3_readMove_186 : decode cX3_readMove 186 = .ok (.getfield 25, 3) := by decide +kernel
theorem dX3_readMove_189 : decode cX3_readMove 189 = .ok (.aload_n 0, 1) := by decide +kernel
theorem dX3_readMove_190 : decode cX3_readMove 190 = .ok (.aload_n 1, 1) := by decide +kernel
theorem dX3_readMove_191 : decode cX3_readMove 191 = .ok (.invokevirtual 68, 3) := by decide +kernel
theorem dX3_readMove_194 : decode cX3_readMove 194 = .ok (.invokevirtual 72, 3) := by decide +kernel
theorem dX3_readMove_197 : decode cX3_readMove 197 = .ok (.goto 8, 3) := by decide +kernel
theorem dX3_readMove_200 : decode cX3_readMove 200 = .ok (.aload_n 1, 1) := by decide +kernel
theorem dX3_readMove_201 : decode cX3_readMove 201 = .ok (.iconst 1, 1) := by decide +kernel
theorem dX3_readMove_202 : decode cX3_readMove 202 = .ok (.invokevirtual 83, 3) := by decide +kernel
theorem dX3_readMove_205 : decode cX3_readMove 205 = .ok (.return_, 1) := by decide +kernel
theorem hcX3_readMove : yX3_readMove.cls ≠ "java/lang/invoke/MethodHandle" ∧ yX3_readMove.cls ≠ "java/lang/invoke/VarHandle" ∧ (parseMethodDescriptor yX3_readMove.desc).map (fun d => d.parameters.length) = some 1 := ⟨by decide +kernel, by decide +kernel, by decide +kernel⟩
def fX3_readMove (s0 : sg_M) (o : Int) (Q : sg_M → Prop) : Prop := fX9_skipWord s0 5 (fun u1 s3 => ((u1 = 0 → fX9_skipWord s3 6 (fun u5 s7 => ((u5 = 0 → fX9_skipWord s7 8 (fun u9 s11 => ((u9 = 0 → fX9_skipWord s11 9 (fun u13 s15 => ((u13 = 0 → fX9_fail s15 1 (fun s17 => Q s17)) ∧ (¬ (u13 = 0) → fX3_readTicks s15 o (fun u20 s22 => fX3_move s22 o (s15 o 3) (s15 o 4) u20 (fun s23 => Q s23)))))) ∧ (¬ (u9 = 0) → fX9_number s11 0 999 999 (fun u24 s26 => fX9_mustBeWord s26 7 (fun s27 => fX3_readTicks s27 o (fun u28 s30 => fX3_shake s30 o u24 u28 (fun s31 => Q s31)))))))) ∧ (¬ (u5 = 0) → fX9_skipSign s7 45 (fun u32 s34 => fX9_number s34 0 9999 9999 (fun u35 s37 => fX11_signed u32 u35 (fun u38 => fX9_skipSign s37 45 (fun u40 s42 => fX9_number s42 0 9999 9999 (fun u43 s45 => fX11_signed u40 u43 (fun u46 => fX9_mustBeWord s45 7 (fun s48 => fX3_readTicks s48 o (fun u49 s51 => fX3_move s51 o u38 u46 u49 (fun s52 => Q s52))))))))))))) ∧ (¬ (u1 = 0) → fX9_skipSign s3 45 (fun u53 s55 => fX9_number s55 0 9999 9999 (fun u56 s58 => fX11_signed u53 u56 (fun u59 => ∀ s61 : sg_M, s61 = sg_up s58 o 3 u59 → fX9_skipSign s61 45 (fun u63 s65 => fX9_number s65 0 9999 9999 (fun u66 s68 => fX11_signed u63 u66 (fun u69 => ∀ s71 : sg_M, s71 = sg_up s68 o 4 u69 → Q s71)))))))))
set_option maxHeartbeats 4000000 in
set_option maxRecDepth 100000 in
theorem CX3_readMove {l : Launch} {G : sg_G} {La : sg_L} {s0 : sg_M} (hst : sg_St La) {o : Int} (to : sg_O La o 3) {Q : sg_M → Prop} (hf : fX3_readMove s0 o Q) : sg_C l G yX3_readMove cX3_readMove 4 (none) 8 0 0 La s0 [sg_r o, sg_r 3] (sg_HV La Q) := by
  refine sg_body (by decide +kernel) (Nat.le_of_ble_eq_true rfl) ?_
  intro p e s m args below meth c F hnm
  unfold fX3_readMove at hf
  show sg_W p l e (sg_rm 8 0 0) s m args below meth c (MQ below (sg_Q (none) G La s.heap.size (sg_HV La Q)) args s 0 0 (sg_A La s.heap.size)) 4 G (sg_A La s.heap.size) La s0 0 0 0 [(0, sg_r o), (1, sg_r 3)] []
  refine gw_aload_n F 1 rfl rfl (by decide) dX3_readMove_0 ?_
  refine gw_ldcS F (i := 5) rfl dX3_readMove_1 ?_
  refine gk_HZ F (gc_V F (S := []) (As := [sg_a (G.2.2.1 5)]) (T := TX9) (N := 8) (CX9_skipWord hst (by decide) hf) (so_3 hst) (by decide) rfl kw_399 kw_92 kw_612 kw_397 kw_398 hcX9_skipWord ⟨by decide, by decide⟩ rfl rfl (Nat.le_of_ble_eq_true rfl) ⟨by decide, by decide⟩ dX3_readMove_3) (fun u1 s3 h2 hf => ?_)
  refine gw_if_eq F (tgt := 60) dX3_readMove_6 (by decide) (sg_B_R h2) (fun c4 => ?_) (fun c4 => ?_)
  · have hf := hf.1 c4
    refine gw_aload_n F 1 rfl rfl (by decide) dX3_readMove_60 ?_
    refine gw_ldcS F (i := 6) rfl dX3_readMove_61 ?_
    refine gk_HZ F (gc_V F (S := []) (As := [sg_a (G.2.2.1 6)]) (T := TX9) (N := 8) (CX9_skipWord hst (by decide) hf) (so_3 hst) (by decide) rfl kw_399 kw_92 kw_612 kw_397 kw_398 hcX9_skipWord ⟨by decide, by decide⟩ rfl rfl (Nat.le_of_ble_eq_true rfl) ⟨by decide, by decide⟩ dX3_readMove_63) (fun u5 s7 h6 hf => ?_)
    refine gw_if_eq F (tgt := 131) dX3_readMove_66 (by decide) (sg_B_R h6) (fun c8 => ?_) (fun c8 => ?_)
    · have hf := hf.1 c8
      refine gw_aload_n F 1 rfl rfl (by decide) dX3_readMove_131 ?_
      refine gw_ldcS F (i := 8) rfl dX3_readMove_132 ?_
      refine gk_HZ F (gc_V F (S := []) (As := [sg_a (G.2.2.1 8)]) (T := TX9) (N := 8) (CX9_skipWord hst (by decide) hf) (so_3 hst) (by decide) rfl kw_399 kw_92 kw_612 kw_397 kw_398 hcX9_skipWord ⟨by decide, by decide⟩ rfl rfl (Nat.le_of_ble_eq_true rfl) ⟨by decide, by decide⟩ dX3_readMove_134) (fun u9 s11 h10 hf => ?_)
      refine gw_if_eq F (tgt := 171) dX3_readMove_137 (by decide) (sg_B_R h10) (fun c12 => ?_) (fun c12 => ?_)
      · have hf := hf.1 c12
        refine gw_aload_n F 1 rfl rfl (by decide) dX3_readMove_171 ?_
        refine gw_ldcS F (i := 9) rfl dX3_readMove_172 ?_
        refine gk_HZ F (gc_V F (S := []) (As := [sg_a (G.2.2.1 9)]) (T := TX9) (N := 8) (CX9_skipWord hst (by decide) hf) (so_3 hst) (by decide) rfl kw_399 kw_92 kw_612 kw_397 kw_398 hcX9_skipWord ⟨by decide, by decide⟩ rfl rfl (Nat.le_of_ble_eq_true rfl) ⟨by decide, by decide⟩ dX3_readMove_174) (fun u13 s15 h14 hf => ?_)
        refine gw_if_eq F (tgt := 200) dX3_readMove_177 (by decide) (sg_B_R h14) (fun c16 => ?_) (fun c16 => ?_)
        · have hf := hf.1 c16
          refine gw_aload_n F 1 rfl rfl (by decide) dX3_readMove_200 ?_
          refine gw_iconst F dX3_readMove_201 ?_
          refine gk_HV F (gc_V F (S := []) (As := [sg_i 1]) (T := TX9) (N := 8) (CX9_fail hst (by decide) hf) (so_3 hst) (by decide) rfl kw_457 kw_92 kw_634 kw_455 kw_456 hcX9_fail ⟨by decide, by decide⟩ rfl rfl (Nat.le_of_ble_eq_true rfl) ⟨by decide, by decide⟩ dX3_readMove_202) (fun s17 hf => ?_)
          exact gr_HV F hf (by decide) (by decide) dX3_readMove_205
        · have hf := hf.2 c16
          refine gw_aload_n F 0 rfl rfl to.1 dX3_readMove_180 ?_
          refine gw_aload_n F 0 rfl rfl to.1 dX3_readMove_181 ?_
          refine gw_get0 F to (by decide) rfl sg_lay_RX3 (j := 3) (by decide) rfl (host := "") (.inl kw_182) dX3_readMove_182 (fun h18 => ?_)
          refine gw_aload_n F 0 rfl rfl to.1 dX3_readMove_185 ?_
          refine gw_get0 F to (by decide) rfl sg_lay_RX3 (j := 4) (by decide) rfl (host := "") (.inl kw_183) dX3_readMove_186 (fun h19 => ?_)
          refine gw_aload_n F 0 rfl rfl to.1 dX3_readMove_189 ?_
          refine gw_aload_n F 1 rfl rfl (by decide) dX3_readMove_190 ?_
          refine gk_HI F (gc_V F (S := [sg_i (s15 o 4), sg_i (s15 o 3), sg_r o]) (As := [sg_r 3]) (T := TX3) (N := 5) (CX3_readTicks hst to hf) to (by decide) rfl kw_623 kw_95 kw_621 kw_622 kw_15 hcX3_readTicks ⟨by decide, by decide⟩ rfl rfl (Nat.le_of_ble_eq_true rfl) ⟨by decide, by decide⟩ dX3_readMove_191) (fun u20 s22 h21 hf => ?_)
          refine gk_HV F (gc_V F (S := []) (As := [sg_i (s15 o 3), sg_i (s15 o 4), sg_i u20]) (T := TX3) (N := 5) (CX3_move to h18 h19 h21 hf) to (by decide) rfl kw_626 kw_95 kw_624 kw_625 kw_16 hcX3_move ⟨by decide, by decide⟩ rfl rfl (Nat.le_of_ble_eq_true rfl) ⟨by decide, by decide⟩ dX3_readMove_194) (fun s23 hf => ?_)
          refine gw_goto F (tgt := 205) dX3_readMove_197 (by decide) ?_
          exact gr_HV F hf (by decide) (by decide) dX3_readMove_205
      · have hf := hf.2 c12
        refine gw_aload_n F 1 rfl rfl (by decide) dX3_readMove_140 ?_
        refine gw_iconst F dX3_readMove_141 ?_
        refine gw_sipush F rfl dX3_readMove_142 ?_
        refine gw_sipush F rfl dX3_readMove_145 ?_
        refine gk_HI F (gc_V F (S := []) (As := [sg_i 0, sg_i 999, sg_i 999]) (T := TX9) (N := 8) (CX9_number hst (by decide) (by decide) (by decide) hf) (so_3 hst) (by decide) rfl kw_453 kw_92 kw_614 kw_451 kw_452 hcX9_number ⟨by decide, by decide⟩ rfl rfl (Nat.le_of_ble_eq_true rfl) ⟨by decide, by decide⟩ dX3_readMove_148) (fun u24 s26 h25 hf => ?_)
        refine gw_istore_n F rfl (by decide) rfl dX3_readMove_151 ?_
        refine gw_aload_n F 2 rfl rfl (by decide) dX3_readMove_152 ?_
        refine gw_ldcS F (i := 7) rfl dX3_readMove_153 ?_
        refine gk_HV F (gc_V F (S := []) (As := [sg_a (G.2.2.1 7)]) (T := TX9) (N := 8) (CX9_mustBeWord hst (by decide) hf) (so_3 hst) (by decide) rfl kw_619 kw_92 kw_616 kw_617 kw_618 hcX9_mustBeWord ⟨by decide, by decide⟩ rfl rfl (Nat.le_of_ble_eq_true rfl) ⟨by decide, by decide⟩ dX3_readMove_155) (fun s27 hf => ?_)
        refine gw_aload_n F 1 rfl rfl to.1 dX3_readMove_158 ?_
        refine gw_iload_n F 0 rfl rfl dX3_readMove_159 ?_
        refine gw_aload_n F 1 rfl rfl to.1 dX3_readMove_160 ?_
        refine gw_aload_n F 2 rfl rfl (by decide) dX3_readMove_161 ?_
        refine gk_HI F (gc_V F (S := [sg_i u24, sg_r o]) (As := [sg_r 3]) (T := TX3) (N := 5) (CX3_readTicks hst to hf) to (by decide) rfl kw_623 kw_95 kw_621 kw_622 kw_15 hcX3_readTicks ⟨by decide, by decide⟩ rfl rfl (Nat.le_of_ble_eq_true rfl) ⟨by decide, by decide⟩ dX3_readMove_162) (fun u28 s30 h29 hf => ?_)
        refine gk_HV F (gc_V F (S := []) (As := [sg_i u24, sg_i u28]) (T := TX3) (N := 5) (CX3_shake to h25 h29 hf) to (by decide) rfl kw_632 kw_95 kw_630 kw_631 kw_18 hcX3_shake ⟨by decide, by decide⟩ rfl rfl (Nat.le_of_ble_eq_true rfl) ⟨by decide, by decide⟩ dX3_readMove_165) (fun s31 hf => ?_)
        refine gw_goto F (tgt := 205) dX3_readMove_168 (by decide) ?_
        exact gr_HV F hf (by decide) (by decide) dX3_readMove_205
    · have hf := hf.2 c8
      refine gw_aload_n F 1 rfl rfl (by decide) dX3_readMove_69 ?_
      refine gw_bipush F rfl dX3_readMove_70 ?_
      refine gk_HZ F (gc_V F (S := []) (As := [sg_i 45]) (T := TX9) (N := 8) (CX9_skipSign hst (by decide) hf) (so_3 hst) (by decide) rfl kw_464 kw_92 kw_613 kw_462 kw_463 hcX9_skipSign ⟨by decide, by decide⟩ rfl rfl (Nat.le_of_ble_eq_true rfl) ⟨by decide, by decide⟩ dX3_readMove_72) (fun u32 s34 h33 hf => ?_)
      refine gw_aload_n F 1 rfl rfl (by decide) dX3_readMove_75 ?_
      refine gw_iconst F dX3_readMove_76 ?_
      refine gw_sipush F rfl dX3_readMove_77 ?_
      refine gw_sipush F rfl dX3_readMove_80 ?_
      refine gk_HI F (gc_V F (S := [sg_i u32]) (As := [sg_i 0, sg_i 9999, sg_i 9999]) (T := TX9) (N := 8) (CX9_number hst (by decide) (by decide) (by decide) hf) (so_3 hst) (by decide) rfl kw_453 kw_92 kw_614 kw_451 kw_452 hcX9_number ⟨by decide, by decide⟩ rfl rfl (Nat.le_of_ble_eq_true rfl) ⟨by decide, by decide⟩ dX3_readMove_83) (fun u35 s37 h36 hf => ?_)
      refine gk_PI F (gc_SN F (S := []) (As := [sg_i u32, sg_i u35]) (CX11_signed h33 h36 hf) kw_471 kw_90 kw_615 kw_470 hcX11_signed ⟨by decide, by decide⟩ rfl rfl (Nat.le_of_ble_eq_true rfl) ⟨by decide, by decide⟩ dX3_readMove_86) (fun u38 h39 hf => ?_)
      refine gw_istore_n F rfl (by decide) rfl dX3_readMove_89 ?_
      refine gw_aload_n F 2 rfl rfl (by decide) dX3_readMove_90 ?_
      refine gw_bipush F rfl dX3_readMove_91 ?_
      refine gk_HZ F (gc_V F (S := []) (As := [sg_i 45]) (T := TX9) (N := 8) (CX9_skipSign hst (by decide) hf) (so_3 hst) (by decide) rfl kw_464 kw_92 kw_613 kw_462 kw_463 hcX9_skipSign ⟨by decide, by decide⟩ rfl rfl (Nat.le_of_ble_eq_true rfl) ⟨by decide, by decide⟩ dX3_readMove_93) (fun u40 s42 h41 hf => ?_)
      refine gw_aload_n F 2 rfl rfl (by decide) dX3_readMove_96 ?_
      refine gw_iconst F dX3_readMove_97 ?_
      refine gw_sipush F rfl dX3_readMove_98 ?_
      refine gw_sipush F rfl dX3_readMove_101 ?_
      refine gk_HI F (gc_V F (S := [sg_i u40]) (As := [sg_i 0, sg_i 9999, sg_i 9999]) (T := TX9) (N := 8) (CX9_number hst (by decide) (by decide) (by decide) hf) (so_3 hst) (by decide) rfl kw_453 kw_92 kw_614 kw_451 kw_452 hcX9_number ⟨by decide, by decide⟩ rfl rfl (Nat.le_of_ble_eq_true rfl) ⟨by decide, by decide⟩ dX3_readMove_104) (fun u43 s45 h44 hf => ?_)
      refine gk_PI F (gc_SN F (S := []) (As := [sg_i u40, sg_i u43]) (CX11_signed h41 h44 hf) kw_471 kw_90 kw_615 kw_470 hcX11_signed ⟨by decide, by decide⟩ rfl rfl (Nat.le_of_ble_eq_true rfl) ⟨by decide, by decide⟩ dX3_readMove_107) (fun u46 h47 hf => ?_)
      refine gw_istore_n F rfl (by decide) rfl dX3_readMove_110 ?_
      refine gw_aload_n F 3 rfl rfl (by decide) dX3_readMove_111 ?_
      refine gw_ldcS F (i := 7) rfl dX3_readMove_112 ?_
      refine gk_HV F (gc_V F (S := []) (As := [sg_a (G.2.2.1 7)]) (T := TX9) (N := 8) (CX9_mustBeWord hst (by decide) hf) (so_3 hst) (by decide) rfl kw_619 kw_92 kw_616 kw_617 kw_618 hcX9_mustBeWord ⟨by decide, by decide⟩ rfl rfl (Nat.le_of_ble_eq_true rfl) ⟨by decide, by decide⟩ dX3_readMove_114) (fun s48 hf => ?_)
      refine gw_aload_n F 2 rfl rfl to.1 dX3_readMove_117 ?_
      refine gw_iload_n F 1 rfl rfl dX3_readMove_118 ?_
      refine gw_iload_n F 0 rfl rfl dX3_readMove_119 ?_
      refine gw_aload_n F 2 rfl rfl to.1 dX3_readMove_120 ?_
      refine gw_aload_n F 3 rfl rfl (by decide) dX3_readMove_121 ?_
      refine gk_HI F (gc_V F (S := [sg_i u46, sg_i u38, sg_r o]) (As := [sg_r 3]) (T := TX3) (N := 5) (CX3_readTicks hst to hf) to (by decide) rfl kw_623 kw_95 kw_621 kw_622 kw_15 hcX3_readTicks ⟨by decide, by decide⟩ rfl rfl (Nat.le_of_ble_eq_true rfl) ⟨by decide, by decide⟩ dX3_readMove_122) (fun u49 s51 h50 hf => ?_)
      refine gk_HV F (gc_V F (S := []) (As := [sg_i u38, sg_i u46, sg_i u49]) (T := TX3) (N := 5) (CX3_move to h39 h47 h50 hf) to (by decide) rfl kw_626 kw_95 kw_624 kw_625 kw_16 hcX3_move ⟨by decide, by decide⟩ rfl rfl (Nat.le_of_ble_eq_true rfl) ⟨by decide, by decide⟩ dX3_readMove_125) (fun s52 hf => ?_)
      refine gw_goto F (tgt := 205) dX3_readMove_128 (by decide) ?_
      exact gr_HV F hf (by decide) (by decide) dX3_readMove_205
  · have hf := hf.2 c4
    refine gw_aload_n F 0 rfl rfl to.1 dX3_readMove_9 ?_
    refine gw_aload_n F 1 rfl rfl (by decide) dX3_readMove_10 ?_
    refine gw_bipush F rfl dX3_readMove_11 ?_
    refine gk_HZ F (gc_V F (S := [sg_r o]) (As := [sg_i 45]) (T := TX9) (N := 8) (CX9_skipSign hst (by decide) hf) (so_3 hst) (by decide) rfl kw_464 kw_92 kw_613 kw_462 kw_463 hcX9_skipSign ⟨by decide, by decide⟩ rfl rfl (Nat.le_of_ble_eq_true rfl) ⟨by decide, by decide⟩ dX3_readMove_13) (fun u53 s55 h54 hf => ?_)
    refine gw_aload_n F 1 rfl rfl (by decide) dX3_readMove_16 ?_
    refine gw_iconst F dX3_readMove_17 ?_
    refine gw_sipush F rfl dX3_readMove_18 ?_
    refine gw_sipush F rfl dX3_readMove_21 ?_
    refine gk_HI F (gc_V F (S := [sg_i u53, sg_r o]) (As := [sg_i 0, sg_i 9999, sg_i 9999]) (T := TX9) (N := 8) (CX9_number hst (by decide) (by decide) (by decide) hf) (so_3 hst) (by decide) rfl kw_453 kw_92 kw_614 kw_451 kw_452 hcX9_number ⟨by decide, by decide⟩ rfl rfl (Nat.le_of_ble_eq_true rfl) ⟨by decide, by decide⟩ dX3_readMove_24) (fun u56 s58 h57 hf => ?_)
    refine gk_PI F (gc_SN F (S := [sg_r o]) (As := [sg_i u53, sg_i u56]) (CX11_signed h54 h57 hf) kw_471 kw_90 kw_615 kw_470 hcX11_signed ⟨by decide, by decide⟩ rfl rfl (Nat.le_of_ble_eq_true rfl) ⟨by decide, by decide⟩ dX3_readMove_27) (fun u59 h60 hf => ?_)
    obtain ⟨s61, e62⟩ : ∃ z : sg_M, z = sg_up s58 o 3 u59 := ⟨_, rfl⟩
    have hf := hf s61 e62
    refine gw_put0 F to (by decide) rfl sg_lay_RX3 (j := 3) (by decide) h60 e62 tyX3_ok nmX3 rfl (tyX3_ok 3 (by decide)) rfl (host := "") (.inl kw_182) dX3_readMove_30 ?_
    refine gw_aload_n F 0 rfl rfl to.1 dX3_readMove_33 ?_
    refine gw_aload_n F 1 rfl rfl (by decide) dX3_readMove_34 ?_
    refine gw_bipush F rfl dX3_readMove_35 ?_
    refine gk_HZ F (gc_V F (S := [sg_r o]) (As := [sg_i 45]) (T := TX9) (N := 8) (CX9_skipSign hst (by decide) hf) (so_3 hst) (by decide) rfl kw_464 kw_92 kw_613 kw_462 kw_463 hcX9_skipSign ⟨by decide, by decide⟩ rfl rfl (Nat.le_of_ble_eq_true rfl) ⟨by decide, by decide⟩ dX3_readMove_37) (fun u63 s65 h64 hf => ?_)
    refine gw_aload_n F 1 rfl rfl (by decide) dX3_readMove_40 ?_
    refine gw_iconst F dX3_readMove_41 ?_
    refine gw_sipush F rfl dX3_readMove_42 ?_
    refine gw_sipush F rfl dX3_readMove_45 ?_
    refine gk_HI F (gc_V F (S := [sg_i u63, sg_r o]) (As := [sg_i 0, sg_i 9999, sg_i 9999]) (T := TX9) (N := 8) (CX9_number hst (by decide) (by decide) (by decide) hf) (so_3 hst) (by decide) rfl kw_453 kw_92 kw_614 kw_451 kw_452 hcX9_number ⟨by decide, by decide⟩ rfl rfl (Nat.le_of_ble_eq_true rfl) ⟨by decide, by decide⟩ dX3_readMove_48) (fun u66 s68 h67 hf => ?_)
    refine gk_PI F (gc_SN F (S := [sg_r o]) (As := [sg_i u63, sg_i u66]) (CX11_signed h64 h67 hf) kw_471 kw_90 kw_615 kw_470 hcX11_signed ⟨by decide, by decide⟩ rfl rfl (Nat.le_of_ble_eq_true rfl) ⟨by decide, by decide⟩ dX3_readMove_51) (fun u69 h70 hf => ?_)
    obtain ⟨s71, e72⟩ : ∃ z : sg_M, z = sg_up s68 o 4 u69 := ⟨_, rfl⟩
    have hf := hf s71 e72
    refine gw_put0 F to (by decide) rfl sg_lay_RX3 (j := 4) (by decide) h70 e72 tyX3_ok nmX3 rfl (tyX3_ok 4 (by decide)) rfl (host := "") (.inl kw_183) dX3_readMove_54 ?_
    refine gw_goto F (tgt := 205) dX3_readMove_57 (by decide) ?_
    exact gr_HV F hf (by decide) (by decide) dX3_readMove_205

theorem dX3_readFrom_0 : decode cX3_readFrom 0 = .ok (.iconst 0, 1) := by decide +kernel
theorem dX3_readFrom_1 : decode cX3_readFrom 1 = .ok (.istore_n 2, 1) := by decide +kernel
theorem dX3_readFrom_2 : decode cX3_readFrom 2 = .ok (.iload_n 2, 1) := by decide +kernel
theorem dX3_readFrom_3 : decode cX3_readFrom 3 = .ok (.sipush 540, 3) := by decide +kernel
theorem dX3_readFrom_6 : decode cX3_readFrom 6 = .ok (.if_icmp .ge 27, 3) := by decide +kernel
theorem dX3_readFrom_9 : decode cX3_readFrom 9 = .ok (.aload_n 1, 1) := by decide +kernel
theorem dX3_readFrom_10 : decode cX3_readFrom 10 = .ok (.invokevirtual 28, 3) := by decide +kernel
theorem dX3_readFrom_13 : decode cX3_readFrom 13 = .ok (.ifCond .eq 20, 3) := by decide +kernel
theorem dX3_readFrom_16 : decode cX3_readFrom 16 = .ok (.aload_n 0, 1) := by decide +kernel
theorem dX3_readFrom_17 : decode cX3_readFrom 17 = .ok (.aload_n 1, 1) := by decide +kernel
theorem dX3_readFrom_18 : decode cX3_readFrom 18 = .ok (.invokevirtual 34, 3) := by decide +kernel
theorem dX3_readFrom_21 : decode cX3_readFrom 21 = .ok (.aload_n 1, 1) := by decide +kernel
theorem dX3_readFrom_22 : decode cX3_readFrom 22 = .ok (.bipush 59, 2) := by decide +kernel
theorem dX3_readFrom_24 : decode cX3_readFrom 24 = .ok (.invokevirtual 38, 3) := by decide +kernel
theorem dX3_readFrom_27 : decode cX3_readFrom 27 = .ok (.iinc 2 1, 3) := by decide +kernel
theorem dX3_readFrom_30 : decode cX3_readFrom 30 = .ok (.goto (-28), 3) := by decide +kernel
theorem dX3_readFrom_33 : decode cX3_readFrom 33 = .ok (.return_, 1) := by decide +kernel
theorem hcX3_readFrom : yX3_readFrom.cls ≠ "java/lang/invoke/MethodHandle" ∧ yX3_readFrom.cls ≠ "java/lang/invoke/VarHandle" ∧ (parseMethodDescriptor yX3_readFrom.desc).map (fun d => d.parameters.length) = some 1 := ⟨by decide +kernel, by decide +kernel, by decide +kernel⟩
def fX3_readFrom_L2 (o : Int) (Q : sg_M → Prop) : Nat → sg_M → Int → Prop
  | 0, _, _ => False
  | n_2 + 1, s_2, x2_2 => ((540 ≤ x2_2 → Q s_2) ∧ (¬ (540 ≤ x2_2) → fX9_isGoingOn s_2 (fun u2 => ((u2 = 0 → Q s_2) ∧ (¬ (u2 = 0) → fX3_readMove s_2 o (fun s5 => fX9_mustBeSign s5 59 (fun s6 => sg_R (x2_2 + 1) ∧ (fX3_readFrom_L2 o Q n_2) s6 (x2_2 + 1))))))))
def fX3_readFrom (s0 : sg_M) (o : Int) (Q : sg_M → Prop) : Prop := (∃ n8 : Nat, fX3_readFrom_L2 o Q n8 s0 0)
set_option maxHeartbeats 4000000 in
set_option maxRecDepth 100000 in
theorem CX3_readFrom {l : Launch} {G : sg_G} {La : sg_L} {s0 : sg_M} (hst : sg_St La) {o : Int} (to : sg_O La o 3) {Q : sg_M → Prop} (hf : fX3_readFrom s0 o Q) : sg_C l G yX3_readFrom cX3_readFrom 3 (none) 9 0 0 La s0 [sg_r o, sg_r 3] (sg_HV La Q) := by
  refine sg_body (by decide +kernel) (Nat.le_of_ble_eq_true rfl) ?_
  intro p e s m args below meth c F hnm
  unfold fX3_readFrom at hf
  show sg_W p l e (sg_rm 9 0 0) s m args below meth c (MQ below (sg_Q (none) G La s.heap.size (sg_HV La Q)) args s 0 0 (sg_A La s.heap.size)) 3 G (sg_A La s.heap.size) La s0 0 0 0 [(0, sg_r o), (1, sg_r 3)] []
  refine gw_iconst F dX3_readFrom_0 ?_
  refine gw_istore_n F rfl (by decide) rfl dX3_readFrom_1 ?_
  have L2 : ∀ n_2 : Nat, ∀ (s_2 : sg_M) (x2_2 : Int), sg_R x2_2 → fX3_readFrom_L2 o Q n_2 s_2 x2_2 → sg_W p l e (sg_rm 9 0 0) s m args below meth c (MQ below (sg_Q (none) G La s.heap.size (sg_HV La Q)) args s 0 0 (sg_A La s.heap.size)) 3 G (sg_A La s.heap.size) La s_2 0 0 2 [(0, sg_r o), (1, sg_r 3), (2, sg_i x2_2)] [] := by
    intro n_2
    induction n_2 with
    | zero => intro s_2 x2_2 r2_2 hf; exact hf.elim
    | succ n_2 ih =>
      intro s_2 x2_2 r2_2 hf
      unfold fX3_readFrom_L2 at hf
      refine gw_iload_n F 2 rfl rfl dX3_readFrom_2 ?_
      refine gw_sipush F rfl dX3_readFrom_3 ?_
      refine gw_icmp_ge F (tgt := 33) dX3_readFrom_6 (by decide) r2_2 (by decide) (fun c1 => ?_) (fun c1 => ?_)
      · have hf := hf.1 c1
        exact gr_HV F hf (by decide) (by decide) dX3_readFrom_33
      · have hf := hf.2 c1
        refine gw_aload_n F 1 rfl rfl (by decide) dX3_readFrom_9 ?_
        refine gk_PZ F (gc_V F (S := []) (As := []) (T := TX9) (N := 8) (CX9_isGoingOn hst hf) (so_3 hst) (by decide) rfl kw_392 kw_92 kw_608 kw_390 kw_391 hcX9_isGoingOn ⟨by decide, by decide⟩ rfl rfl (Nat.le_of_ble_eq_true rfl) ⟨by decide, by decide⟩ dX3_readFrom_10) (fun u2 h3 hf => ?_)
        refine gw_if_eq F (tgt := 33) dX3_readFrom_13 (by decide) (sg_B_R h3) (fun c4 => ?_) (fun c4 => ?_)
        · have hf := hf.1 c4
          exact gr_HV F hf (by decide) (by decide) dX3_readFrom_33
        · have hf := hf.2 c4
          refine gw_aload_n F 0 rfl rfl to.1 dX3_readFrom_16 ?_
          refine gw_aload_n F 1 rfl rfl (by decide) dX3_readFrom_17 ?_
          refine gk_HV F (gc_V F (S := []) (As := [sg_r 3]) (T := TX3) (N := 5) (CX3_readMove hst to hf) to (by decide) rfl kw_611 kw_95 kw_609 kw_610 kw_14 hcX3_readMove ⟨by decide, by decide⟩ rfl rfl (Nat.le_of_ble_eq_true rfl) ⟨by decide, by decide⟩ dX3_readFrom_18) (fun s5 hf => ?_)
          refine gw_aload_n F 1 rfl rfl (by decide) dX3_readFrom_21 ?_
          refine gw_bipush F rfl dX3_readFrom_22 ?_
          refine gk_HV F (gc_V F (S := []) (As := [sg_i 59]) (T := TX9) (N := 8) (CX9_mustBeSign hst (by decide) hf) (so_3 hst) (by decide) rfl kw_482 kw_92 kw_635 kw_480 kw_481 hcX9_mustBeSign ⟨by decide, by decide⟩ rfl rfl (Nat.le_of_ble_eq_true rfl) ⟨by decide, by decide⟩ dX3_readFrom_24) (fun s6 hf => ?_)
          refine gw_iinc F (z := (x2_2 + 1)) 2 rfl (by omega) (by decide) rfl dX3_readFrom_27 ?_
          refine gw_goto F (tgt := 2) dX3_readFrom_30 (by decide) ?_
          obtain ⟨g7, hf⟩ := hf
          refine gw_sub [1, 2, 0] rfl ?_
          exact ih s6 (x2_2 + 1) g7 hf
  obtain ⟨n8, hf⟩ := hf
  refine gw_sub [1, 2, 0] rfl ?_
  refine L2   n8 s0 0 (by decide) hf

theorem dX11_hand_0 : decode cX11_hand 0 = .ok (.new 30, 3) := by decide +kernel
theorem dX11_hand_3 : decode cX11_hand 3 = .ok (.dup, 1) := by decide +kernel
theorem dX11_hand_4 : decode cX11_hand 4 = .ok (.invokespecial 32, 3) := by decide +kernel
theorem dX11_hand_7 : decode cX11_hand 7 = .ok (.astore_n 1, 1) := by decide +kernel
theorem dX11_hand_8 : decode cX11_hand 8 = .ok (.aload_n 0, 1) := by decide +kernel
theorem dX11_hand_9 : decode cX11_hand 9 = .ok (.getfield 21, 3) := by decide +kernel
theorem dX11_hand_12 : decode cX11_hand 12 = .ok (.sipush 300, 3) := by decide +kernel
theorem dX11_hand_15 : decode cX11_hand 15 = .ok (.invokevirtual 128, 3) := by decide +kernel
theorem dX11_hand_18 : decode cX11_hand 18 = .ok (.aload_n 1, 1) := by decide +kernel
theorem dX11_hand_19 : decode cX11_hand 19 = .ok (.aload_n 0, 1) := by decide +kernel
theorem dX11_hand_20 : decode cX11_hand 20 = .ok (.getfield 21, 3) := by decide +kernel
theorem dX11_hand_23 : decode cX11_hand 23 = .ok (.invokevirtual 211, 3) := by decide +kernel
theorem dX11_hand_26 : decode cX11_hand 26 = .ok (.aload_n 0, 1) := by decide +kernel
theorem dX11_hand_27 : decode cX11_hand 27 = .ok (.getfield 21, 3) := by decide +kernel
theorem dX11_hand_30 : decode cX11_hand 30 = .ok (.getfield 135, 3) := by decide +kernel
theorem dX11_hand_33 : decode cX11_hand 33 = .ok (.ifCond .ne 11, 3) := by decide +kernel
theorem dX11_hand_36 : decode cX11_hand 36 = .ok (.aload_n 0, 1) := by decide +kernel
theorem dX11_hand_37 : decode cX11_hand 37 = .ok (.getfield 39, 3) := by decide +kernel
theorem dX11_hand_40 : decode cX11_hand 40 = .ok (.aload_n 1, 1) := by decide +kernel
theorem dX11_hand_41 : decode cX11_hand 41 = .ok (.putfield 212, 3) := by decide +kernel
theorem dX11_hand_44 : decode cX11_hand 44 = .ok (.aload_n 0, 1) := by decide +kernel
theorem dX11_hand_45 : decode cX11_hand 45 = .ok (.aload_n 1, 1) := by decide +kernel
theorem dX11_hand_46 : decode cX11_hand 46 = .ok (.getfield 216, 3) := by decide +kernel
theorem dX11_hand_49 : decode cX11_hand 49 = .ok (.invokevirtual 139, 3) := by decide +kernel
theorem dX11_hand_52 : decode cX11_hand 52 = .ok (.ireturn, 1) := by decide +kernel
theorem hcX11_hand : yX11_hand.cls ≠ "java/lang/invoke/MethodHandle" ∧ yX11_hand.cls ≠ "java/lang/invoke/VarHandle" ∧ (parseMethodDescriptor yX11_hand.desc).map (fun d => d.parameters.length) = some 0 := ⟨by decide +kernel, by decide +kernel, by decide +kernel⟩
def fX11_hand (La : sg_L) (s0 : sg_M) (Q : Int → sg_L → sg_M → Prop) : Prop := ∀ (q1 : Nat) (La2 : sg_L), La2 = sg_pu La 23 q1 → ∀ s3 : sg_M, s3 = sg_nw s0 La.1 23 → ∀ o4 : Int, o4 = (La.1 : Int) → fX3_init La2 s3 o4 (fun La13 s14 => fX9_open s14 300 (fun s20 => fX3_readFrom s20 o4 (fun s22 => (((s22 3 6) ≠ 0 → fX11_closeText s22 (s22 o4 2) (fun u27 s29 => Q u27 La13 s29)) ∧ ((s22 3 6) = 0 → ∀ s31 : sg_M, s31 = sg_up s22 4 1 o4 → fX11_closeText s31 (s31 o4 2) (fun u34 s36 => Q u34 La13 s36))))))
set_option maxHeartbeats 4000000 in
set_option maxRecDepth 100000 in
theorem CX11_hand {l : Launch} {G : sg_G} {La : sg_L} {s0 : sg_M} (hst : sg_St La) {Q : Int → sg_L → sg_M → Prop} (hf : fX11_hand La s0 Q) : sg_C l G yX11_hand cX11_hand 2 (some .int) 10 3 405 La s0 [sg_r 0] (sg_BI La Q) := by
  refine sg_body (by decide +kernel) (Nat.le_of_ble_eq_true rfl) ?_
  intro p e s m args below meth c F hnm
  unfold fX11_hand at hf
  show sg_W p l e (sg_rm 10 3 405) s m args below meth c (MQ below (sg_Q (some .int) G La s.heap.size (sg_BI La Q)) args s 3 405 (sg_A La s.heap.size)) 2 G (sg_A La s.heap.size) La s0 0 0 0 [(0, sg_r 0)] []
  refine gy_new F (kd := 23) (T := TX3) (by decide) rfl sg_lay_RX3 tyX3_ok kw_172 kw_173 kw_95 ns_X3 nf_X3 nr_X3 (by decide) (by decide) (List.forall_mem_cons.mpr ⟨(Or.inl (so_0 hst).2.1), (fun _ h => absurd h List.not_mem_nil)⟩) (fun _ h => absurd h List.not_mem_nil) dX11_hand_0 (fun q1 La2 s3 o4 e5 e6 e7 t8 hX9 => ?_)
  have hf := hf q1 La2 e5 s3 e6 o4 e7
  have hn10 : La.1 ≤ o4.toNat := by rw [e7, Int.toNat_natCast]; exact (sg_X.rf : sg_X La La).1
  have hst11 := hst.X hX9
  have hX12 := sg_X.tr (sg_X.rf) hX9
  refine gw_dup F rfl dX11_hand_3 ?_
  refine gk_BV F (gc_IN F (S := [sg_r o4]) (As := []) (CX3_init t8 hf) t8.1 kw_176 kw_95 kw_174 kw_175 rfl hcX3_init ⟨by decide, by decide⟩ rfl rfl (Nat.le_of_ble_eq_true rfl) ⟨by decide, by decide⟩ dX11_hand_4) (List.forall_mem_cons.mpr ⟨(Or.inl (so_0 hst11).2.1), (fun _ h => absurd h List.not_mem_nil)⟩) (List.forall_mem_cons.mpr ⟨(Or.inl t8.2.1), (fun _ h => absurd h List.not_mem_nil)⟩) (fun La13 s14 hX15 hf => ?_)
  have t16 := (sg_O_sealed t8).X hX15
  have hst17 := (sg_St_sx hst11 t8 ⟨by decide, by decide, by decide⟩).X hX15
  have hX18 := (sg_X_sx (hX12) hn10).tr hX15
  refine gw_astore_n F rfl t16.1 (by decide) rfl dX11_hand_7 ?_
  refine gw_aload_n F 1 rfl rfl (by decide) dX11_hand_8 ?_
  refine gw_get7 F (so_0 hst17) (by decide) rfl sg_lay_RX11 (j := 1) (by decide) (o1 := 3) (by first | rfl | omega) rfl (host := "") (.inl kw_327) dX11_hand_9 (fun h19 => ?_)
  refine gw_sipush F rfl dX11_hand_12 ?_
  refine gk_HV F (gc_V F (S := []) (As := [sg_i 300]) (T := TX9) (N := 8) (CX9_open hst17 (by decide) hf) (so_3 hst17) (by decide) rfl kw_364 kw_92 kw_361 kw_362 kw_363 hcX9_open ⟨by decide, by decide⟩ rfl rfl (Nat.le_of_ble_eq_true rfl) ⟨by decide, by decide⟩ dX11_hand_15) (fun s20 hf => ?_)
  refine gw_aload_n F 0 rfl rfl t16.1 dX11_hand_18 ?_
  refine gw_aload_n F 1 rfl rfl (by decide) dX11_hand_19 ?_
  refine gw_get7 F (so_0 hst17) (by decide) rfl sg_lay_RX11 (j := 1) (by decide) (o1 := 3) (by first | rfl | omega) rfl (host := "") (.inl kw_327) dX11_hand_20 (fun h21 => ?_)
  refine gk_HV F (gc_V F (S := []) (As := [sg_r 3]) (T := TX3) (N := 5) (CX3_readFrom hst17 t16 hf) t16 (by decide) rfl kw_607 kw_95 kw_604 kw_605 kw_606 hcX3_readFrom ⟨by decide, by decide⟩ rfl rfl (Nat.le_of_ble_eq_true rfl) ⟨by decide, by decide⟩ dX11_hand_23) (fun s22 hf => ?_)
  refine gw_aload_n F 1 rfl rfl (by decide) dX11_hand_26 ?_
  refine gw_get7 F (so_0 hst17) (by decide) rfl sg_lay_RX11 (j := 1) (by decide) (o1 := 3) (by first | rfl | omega) rfl (host := "") (.inl kw_327) dX11_hand_27 (fun h23 => ?_)
  refine gw_get0 F (so_3 hst17) (by decide) rfl sg_lay_RX9 (j := 6) (by decide) rfl (.inr kw_145) dX11_hand_30 (fun h24 => ?_)
  refine gw_if_ne F (tgt := 44) dX11_hand_33 (by decide) h24 (fun c25 => ?_) (fun c25 => ?_)
  · have hf := hf.1 c25
    refine gw_aload_n F 1 rfl rfl (by decide) dX11_hand_44 ?_
    refine gw_aload_n F 0 rfl rfl t16.1 dX11_hand_45 ?_
    refine gw_get0 F t16 (by decide) rfl sg_lay_RX3 (j := 2) (by decide) rfl (.inr kw_181) dX11_hand_46 (fun h26 => ?_)
    refine gk_HI F (gc_V F (S := []) (As := [sg_i (s22 o4 2)]) (T := TX11) (N := 19) (CX11_closeText hst17 h26 hf) (so_0 hst17) (by decide) rfl kw_487 kw_90 kw_485 kw_486 kw_2 hcX11_closeText ⟨by decide, by decide⟩ rfl rfl (Nat.le_of_ble_eq_true rfl) ⟨by decide, by decide⟩ dX11_hand_49) (fun u27 s29 h28 hf => ?_)
    exact gr_BI F h28 hf (hX18) (by decide) (by decide) dX11_hand_52
  · have hf := hf.2 c25
    refine gw_aload_n F 1 rfl rfl (by decide) dX11_hand_36 ?_
    refine gw_get7 F (so_0 hst17) (by decide) rfl sg_lay_RX11 (j := 2) (by decide) (o1 := 4) (by first | rfl | omega) rfl (host := "") (.inl kw_328) dX11_hand_37 (fun h30 => ?_)
    refine gw_aload_n F 0 rfl rfl t16.1 dX11_hand_40 ?_
    obtain ⟨s31, e32⟩ : ∃ z : sg_M, z = sg_up s22 4 1 o4 := ⟨_, rfl⟩
    have hf := hf s31 e32
    refine gw_put4 F (so_4 hst17) (by decide) rfl sg_lay_RX7 (j := 1) (by decide) t16.1 t16 e32 tyX7_ok nmX7 rfl (tyX7_ok 1 (by decide)) rfl (.inr kw_236) dX11_hand_41 ?_
    refine gw_aload_n F 1 rfl rfl (by decide) dX11_hand_44 ?_
    refine gw_aload_n F 0 rfl rfl t16.1 dX11_hand_45 ?_
    refine gw_get0 F t16 (by decide) rfl sg_lay_RX3 (j := 2) (by decide) rfl (.inr kw_181) dX11_hand_46 (fun h33 => ?_)
    refine gk_HI F (gc_V F (S := []) (As := [sg_i (s31 o4 2)]) (T := TX11) (N := 19) (CX11_closeText hst17 h33 hf) (so_0 hst17) (by decide) rfl kw_487 kw_90 kw_485 kw_486 kw_2 hcX11_closeText ⟨by decide, by decide⟩ rfl rfl (Nat.le_of_ble_eq_true rfl) ⟨by decide, by decide⟩ dX11_hand_49) (fun u34 s36 h35 hf => ?_)
    exact gr_BI F h35 hf (hX18) (by decide) (by decide) dX11_hand_52

theorem dX6_readNotes_0 : decode cX6_readNotes 0 = .ok (.aload_n 0, 1) := by decide +kernel
theorem dX6_readNotes_1 : decode cX6_readNotes 1 = .ok (.getfield 20, 3) := by decide +kernel
theorem dX6_readNotes_4 : decode cX6_readNotes 4 = .ok (.invokevirtual 27, 3) := by decide +kernel
theorem dX6_readNotes_7 : decode cX6_readNotes 7 = .ok (.aload_n 1, 1) := by decide +kernel
theorem dX6_readNotes_8 : decode cX6_readNotes 8 = .ok (.getfield 30, 3) := by decide +kernel
theorem dX6_readNotes_11 : decode cX6_readNotes 11 = .ok (.iconst 2, 1) := by decide +kernel
theorem dX6_readNotes_12 : decode cX6_readNotes 12 = .ok (.if_icmp .lt 21, 3) := by decide +kernel
theorem dX6_readNotes_15 : decode cX6_readNotes 15 = .ok (.aload_n 1, 1) := by decide +kernel
theorem dX6_readNotes_16 : decode cX6_readNotes 16 = .ok (.getfield 30, 3) := by decide +kernel
theorem dX6_readNotes_19 : decode cX6_readNotes 19 = .ok (.bipush 120, 2) := by decide +kernel
theorem dX6_readNotes_21 : decode cX6_readNotes 21 = .ok (.if_icmp .gt 12, 3) := by decide +kernel
theorem dX6_readNotes_24 : decode cX6_readNotes 24 = .ok (.aload_n 1, 1) := by decide +kernel
theorem dX6_readNotes_25 : decode cX6_readNotes 25 = .ok (.getfield 30, 3) := by decide +kernel
theorem dX6_readNotes_28 : decode cX6_readNotes 28 = .ok (.iconst 2, 1) := by decide +kernel
theorem dX6_readNotes_29 : decode cX6_readNotes 29 = .ok (.irem, 1) := by decide +kernel
theorem dX6_readNotes_30 : decode cX6_readNotes 30 = .ok (.ifCond .eq 5, 3) := by decide +kernel
theorem dX6_readNotes_33 : decode cX6_readNotes 33 = .ok (.iconst 0, 1) := by decide +kernel
theorem dX6_readNotes_34 : decode cX6_readNotes 34 = .ok (.ireturn, 1) := by decide +kernel
theorem dX6_readNotes_35 : decode cX6_readNotes 35 = .ok (.iconst 0, 1) := by decide +kernel
theorem dX6_readNotes_36 : decode cX6_readNotes 36 = .ok (.istore_n 2, 1) := by decide +kernel
theorem dX6_readNotes_37 : decode cX6_readNotes 37 = .ok (.iload_n 2, 1) := by decide +kernel
theorem dX6_readNotes_38 : decode cX6_readNotes 38 = .ok (.aload_n 1, 1) := by decide +kernel
theorem dX6_readNotes_39 : decode cX6_readNotes 39 = .ok (.getfield 30, 3) := by decide +kernel
theorem dX6_readNotes_42 : decode cX6_readNotes 42 = .ok (.if_icmp .ge 34, 3) := by decide +kernel
theorem dX6_readNotes_45 : decode cX6_readNotes 45 = .ok (.aload_n 1, 1) := by decide +kernel
theorem dX6_readNotes_46 : decode cX6_readNotes 46 = .ok (.iload_n 2, 1) := by decide +kernel
theorem dX6_readNotes_47 : decode cX6_readNotes 47 = .ok (.invokevirtual 36, 3) := by decide +kernel
theorem dX6_readNotes_50 : decode cX6_readNotes 50 = .ok (.invokestatic 40, 3) := by decide +kernel
theorem dX6_readNotes_53 : decode cX6_readNotes 53 = .ok (.ifCond .ne 5, 3) := by decide +kernel
theorem dX6_readNotes_56 : decode cX6_readNotes 56 = .ok (.iconst 0, 1) := by decide +kernel
theorem dX6_readNotes_57 : decode cX6_readNotes 57 = .ok (.ireturn, 1) := by decide +kernel
theorem dX6_readNotes_58 : decode cX6_readNotes 58 = .ok (.aload_n 0, 1) := by decide +kernel
theorem dX6_readNotes_59 : decode cX6_readNotes 59 = .ok (.getfield 20, 3) := by decide +kernel
theorem dX6_readNotes_62 : decode cX6_readNotes 62 = .ok (.aload_n 1, 1) := by decide +kernel
theorem dX6_readNotes_63 : decode cX6_readNotes 63 = .ok (.iload_n 2, 1) := by decide +kernel
theorem dX6_readNotes_64 : decode cX6_readNotes 64 = .ok (.invokevirtual 36, 3) := by decide +kernel
theorem dX6_readNotes_67 : decode cX6_readNotes 67 = .ok (.invokevirtual 44, 3) := by decide +kernel
theorem dX6_readNotes_70 : decode cX6_readNotes 70 = .ok (.iinc 2 2, 3) := by decide +kernel
theorem dX6_readNotes_73 : decode cX6_readNotes 73 = .ok (.goto (-36), 3) := by decide +kernel
theorem dX6_readNotes_76 : decode cX6_readNotes 76 = .ok (.iconst 1, 1) := by decide +kernel
theorem dX6_readNotes_77 : decode cX6_readNotes 77 = .ok (.ireturn, 1) := by decide +kernel
theorem hcX6_readNotes : yX6_readNotes.cls ≠ "java/lang/invoke/MethodHandle" ∧ yX6_readNotes.cls ≠ "java/lang/invoke/VarHandle" ∧ (parseMethodDescriptor yX6_readNotes.desc).map (fun d => d.parameters.length) = some 1 := ⟨by decide +kernel, by decide +kernel, by decide +kernel⟩
def fX6_readNotes_L37 (La : sg_L) (Q : Int → sg_M → Prop) : Nat → sg_M → Int → Prop
  | 0, _, _ => False
  | n_37 + 1, s_37, x2_37 => (((s_37 1 1) ≤ x2_37 → Q 1 s_37) ∧ (¬ ((s_37 1 1) ≤ x2_37) → fX8_pairAt s_37 x2_37 (fun u12 => fX11_isTone u12 (fun u14 => ((u14 ≠ 0 → fX8_pairAt s_37 x2_37 (fun u18 => fX4_add La s_37 48 u18 (fun s20 => sg_R (x2_37 + 2) ∧ (fX6_readNotes_L37 La Q n_37) s20 (x2_37 + 2)))) ∧ (u14 = 0 → Q 0 s_37))))))
def fX6_readNotes (La : sg_L) (s0 : sg_M) (Q : Int → sg_M → Prop) : Prop := fX4_clear s0 48 (fun s2 => (((s2 1 1) < 2 → Q 0 s2) ∧ (¬ ((s2 1 1) < 2) → ((120 < (s2 1 1) → Q 0 s2) ∧ (¬ (120 < (s2 1 1)) → sg_R (Int.tmod (s2 1 1) 2) ∧ (((Int.tmod (s2 1 1) 2) = 0 → (∃ n22 : Nat, fX6_readNotes_L37 La Q n22 s2 0)) ∧ (¬ ((Int.tmod (s2 1 1) 2) = 0) → Q 0 s2)))))))
set_option maxHeartbeats 4000000 in
set_option maxRecDepth 100000 in
theorem CX6_readNotes {l : Launch} {G : sg_G} {La : sg_L} {s0 : sg_M} (hst : sg_St La) {Q : Int → sg_M → Prop} (hf : fX6_readNotes La s0 Q) : sg_C l G yX6_readNotes cX6_readNotes 3 (some .boolean) 3 0 0 La s0 [sg_r 46, sg_r 1] (sg_HZ La Q) := by
  refine sg_body (by decide +kernel) (Nat.le_of_ble_eq_true rfl) ?_
  intro p e s m args below meth c F hnm
  unfold fX6_readNotes at hf
  show sg_W p l e (sg_rm 3 0 0) s m args below meth c (MQ below (sg_Q (some .boolean) G La s.heap.size (sg_HZ La Q)) args s 0 0 (sg_A La s.heap.size)) 3 G (sg_A La s.heap.size) La s0 0 0 0 [(0, sg_r 46), (1, sg_r 1)] []
  refine gw_aload_n F 0 rfl rfl (by decide) dX6_readNotes_0 ?_
  refine gw_get3 F (so_46 hst) (by decide) rfl sg_lay_RX6 (j := 1) (by decide) (o1 := 48) (by first | rfl | omega) rfl (host := "") (.inl kw_313) dX6_readNotes_1 (fun h1 => ?_)
  refine gk_HV F (gc_V F (S := []) (As := []) (T := TX4) (N := 3) (CX4_clear (so_48 hst) hf) (so_48 hst) (by decide) rfl kw_531 kw_97 kw_676 kw_529 kw_530 hcX4_clear ⟨by decide, by decide⟩ rfl rfl (Nat.le_of_ble_eq_true rfl) ⟨by decide, by decide⟩ dX6_readNotes_4) (fun s2 hf => ?_)
  refine gw_aload_n F 1 rfl rfl (by decide) dX6_readNotes_7 ?_
  refine gw_get0 F (so_1 hst) (by decide) rfl sg_lay_RX8 (j := 1) (by decide) rfl (.inr kw_129) dX6_readNotes_8 (fun h3 => ?_)
  refine gw_iconst F dX6_readNotes_11 ?_
  refine gw_icmp_lt F (tgt := 33) dX6_readNotes_12 (by decide) h3 (by decide) (fun c4 => ?_) (fun c4 => ?_)
  · have hf := hf.1 c4
    refine gw_iconst F dX6_readNotes_33 ?_
    exact gr_HZ F (by decide) hf (by decide) (by decide) dX6_readNotes_34
  · have hf := hf.2 c4
    refine gw_aload_n F 1 rfl rfl (by decide) dX6_readNotes_15 ?_
    refine gw_get0 F (so_1 hst) (by decide) rfl sg_lay_RX8 (j := 1) (by decide) rfl (.inr kw_129) dX6_readNotes_16 (fun h5 => ?_)
    refine gw_bipush F rfl dX6_readNotes_19 ?_
    refine gw_icmp_gt F (tgt := 33) dX6_readNotes_21 (by decide) h5 (by decide) (fun c6 => ?_) (fun c6 => ?_)
    · have hf := hf.1 c6
      refine gw_iconst F dX6_readNotes_33 ?_
      exact gr_HZ F (by decide) hf (by decide) (by decide) dX6_readNotes_34
    · have hf := hf.2 c6
      refine gw_aload_n F 1 rfl rfl (by decide) dX6_readNotes_24 ?_
      refine gw_get0 F (so_1 hst) (by decide) rfl sg_lay_RX8 (j := 1) (by decide) rfl (.inr kw_129) dX6_readNotes_25 (fun h7 => ?_)
      refine gw_iconst F dX6_readNotes_28 ?_
      refine gw_irem F h7 (by decide) (by decide) rfl dX6_readNotes_29 ?_
      obtain ⟨g8, hf⟩ := hf
      refine gw_if_eq F (tgt := 35) dX6_readNotes_30 (by decide) g8 (fun c9 => ?_) (fun c9 => ?_)
      · have hf := hf.1 c9
        refine gw_iconst F dX6_readNotes_35 ?_
        refine gw_istore_n F rfl (by decide) rfl dX6_readNotes_36 ?_
        have L37 : ∀ n_37 : Nat, ∀ (s_37 : sg_M) (x2_37 : Int), sg_R x2_37 → fX6_readNotes_L37 La Q n_37 s_37 x2_37 → sg_W p l e (sg_rm 3 0 0) s m args below meth c (MQ below (sg_Q (some .boolean) G La s.heap.size (sg_HZ La Q)) args s 0 0 (sg_A La s.heap.size)) 3 G (sg_A La s.heap.size) La s_37 0 0 37 [(0, sg_r 46), (1, sg_r 1), (2, sg_i x2_37)] [] := by
          intro n_37
          induction n_37 with
          | zero => intro s_37 x2_37 r2_37 hf; exact hf.elim
          | succ n_37 ih =>
            intro s_37 x2_37 r2_37 hf
            unfold fX6_readNotes_L37 at hf
            refine gw_iload_n F 2 rfl rfl dX6_readNotes_37 ?_
            refine gw_aload_n F 1 rfl rfl (by decide) dX6_readNotes_38 ?_
            refine gw_get0 F (so_1 hst) (by decide) rfl sg_lay_RX8 (j := 1) (by decide) rfl (.inr kw_129) dX6_readNotes_39 (fun h10 => ?_)
            refine gw_icmp_ge F (tgt := 76) dX6_readNotes_42 (by decide) r2_37 h10 (fun c11 => ?_) (fun c11 => ?_)
            · have hf := hf.1 c11
              refine gw_iconst F dX6_readNotes_76 ?_
              exact gr_HZ F (by decide) hf (by decide) (by decide) dX6_readNotes_77
            · have hf := hf.2 c11
              refine gw_aload_n F 1 rfl rfl (by decide) dX6_readNotes_45 ?_
              refine gw_iload_n F 2 rfl rfl dX6_readNotes_46 ?_
              refine gk_PI F (gc_V F (S := []) (As := [sg_i x2_37]) (T := TX8) (N := 2) (CX8_pairAt hst r2_37 hf) (so_1 hst) (by decide) rfl kw_680 kw_91 kw_677 kw_678 kw_679 hcX8_pairAt ⟨by decide, by decide⟩ rfl rfl (Nat.le_of_ble_eq_true rfl) ⟨by decide, by decide⟩ dX6_readNotes_47) (fun u12 h13 hf => ?_)
              refine gk_PZ F (gc_SN F (S := []) (As := [sg_i u12]) (CX11_isTone h13 hf) kw_684 kw_90 kw_682 kw_683 hcX11_isTone ⟨by decide, by decide⟩ rfl rfl (Nat.le_of_ble_eq_true rfl) ⟨by decide, by decide⟩ dX6_readNotes_50) (fun u14 h15 hf => ?_)
              refine gw_if_ne F (tgt := 58) dX6_readNotes_53 (by decide) (sg_B_R h15) (fun c16 => ?_) (fun c16 => ?_)
              · have hf := hf.1 c16
                refine gw_aload_n F 0 rfl rfl (by decide) dX6_readNotes_58 ?_
                refine gw_get3 F (so_46 hst) (by decide) rfl sg_lay_RX6 (j := 1) (by decide) (o1 := 48) (by first | rfl | omega) rfl (host := "") (.inl kw_313) dX6_readNotes_59 (fun h17 => ?_)
                refine gw_aload_n F 1 rfl rfl (by decide) dX6_readNotes_62 ?_
                refine gw_iload_n F 2 rfl rfl dX6_readNotes_63 ?_
                refine gk_PI F (gc_V F (S := [sg_r 48]) (As := [sg_i x2_37]) (T := TX8) (N := 2) (CX8_pairAt hst r2_37 hf) (so_1 hst) (by decide) rfl kw_680 kw_91 kw_677 kw_678 kw_679 hcX8_pairAt ⟨by decide, by decide⟩ rfl rfl (Nat.le_of_ble_eq_true rfl) ⟨by decide, by decide⟩ dX6_readNotes_64) (fun u18 h19 hf => ?_)
                refine gk_HV F (gc_V F (S := []) (As := [sg_i u18]) (T := TX4) (N := 3) (CX4_add (so_48 hst) h19 hf) (so_48 hst) (by decide) rfl kw_538 kw_97 kw_685 kw_536 kw_537 hcX4_add ⟨by decide, by decide⟩ rfl rfl (Nat.le_of_ble_eq_true rfl) ⟨by decide, by decide⟩ dX6_readNotes_67) (fun s20 hf => ?_)
                refine gw_iinc F (z := (x2_37 + 2)) 2 rfl (by omega) (by decide) rfl dX6_readNotes_70 ?_
                refine gw_goto F (tgt := 37) dX6_readNotes_73 (by decide) ?_
                obtain ⟨g21, hf⟩ := hf
                refine gw_sub [1, 2, 0] rfl ?_
                exact ih s20 (x2_37 + 2) g21 hf
              · have hf := hf.2 c16
                refine gw_iconst F dX6_readNotes_56 ?_
                exact gr_HZ F (by decide) hf (by decide) (by decide) dX6_readNotes_57
        obtain ⟨n22, hf⟩ := hf
        refine gw_sub [1, 2, 0] rfl ?_
        refine L37   n22 s2 0 (by decide) hf
      · have hf := hf.2 c9
        refine gw_iconst F dX6_readNotes_33 ?_
        exact gr_HZ F (by decide) hf (by decide) (by decide) dX6_readNotes_34

theorem dX11_songAt_0 : decode cX11_songAt 0 = .ok (.aload_n 0, 1) := by decide +kernel
theorem dX11_songAt_1 : decode cX11_songAt 1 = .ok (.getfield 74, 3) := by decide +kernel
theorem dX11_songAt_4 : decode cX11_songAt 4 = .ok (.getfield 265, 3) := by decide +kernel
theorem dX11_songAt_7 : decode cX11_songAt 7 = .ok (.iload_n 1, 1) := by decide +kernel
theorem dX11_songAt_8 : decode cX11_songAt 8 = .ok (.invokevirtual 182, 3) := by decide +kernel
theorem dX11_songAt_11 : decode cX11_songAt 11 = .ok (.ireturn, 1) := by decide +kernel
theorem hcX11_songAt : yX11_songAt.cls ≠ "java/lang/invoke/MethodHandle" ∧ yX11_songAt.cls ≠ "java/lang/invoke/VarHandle" ∧ (parseMethodDescriptor yX11_songAt.desc).map (fun d => d.parameters.length) = some 1 := ⟨by decide +kernel, by decide +kernel, by decide +kernel⟩
def fX11_songAt (La : sg_L) (s0 : sg_M) (x1 : Int) (Q : Int → Prop) : Prop := fX4_at La s0 50 x1 (fun u3 => Q u3)
set_option maxHeartbeats 4000000 in
set_option maxRecDepth 100000 in
theorem CX11_songAt {l : Launch} {G : sg_G} {La : sg_L} {s0 : sg_M} (hst : sg_St La) {x1 : Int} (r1 : sg_R x1) {Q : Int → Prop} (hf : fX11_songAt La s0 x1 Q) : sg_C l G yX11_songAt cX11_songAt 2 (some .int) 2 0 0 La s0 [sg_r 0, sg_i x1] (sg_PI La s0 Q) := by
  refine sg_body (by decide +kernel) (Nat.le_of_ble_eq_true rfl) ?_
  intro p e s m args below meth c F hnm
  unfold fX11_songAt at hf
  show sg_W p l e (sg_rm 2 0 0) s m args below meth c (MQ below (sg_Q (some .int) G La s.heap.size (sg_PI La s0 Q)) args s 0 0 (sg_A La s.heap.size)) 2 G (sg_A La s.heap.size) La s0 0 0 0 [(0, sg_r 0), (1, sg_i x1)] []
  refine gw_aload_n F 0 rfl rfl (by decide) dX11_songAt_0 ?_
  refine gw_get7 F (so_0 hst) (by decide) rfl sg_lay_RX11 (j := 9) (by decide) (o1 := 46) (by first | rfl | omega) rfl (host := "") (.inl kw_335) dX11_songAt_1 (fun h1 => ?_)
  refine gw_get3 F (so_46 hst) (by decide) rfl sg_lay_RX6 (j := 2) (by decide) (o1 := 50) (by first | rfl | omega) rfl (.inr kw_315) dX11_songAt_4 (fun h2 => ?_)
  refine gw_iload_n F 1 rfl rfl dX11_songAt_7 ?_
  refine gk_PI F (gc_V F (S := []) (As := [sg_i x1]) (T := TX4) (N := 3) (CX4_at (so_50 hst) r1 hf) (so_50 hst) (by decide) rfl kw_546 kw_97 kw_543 kw_544 kw_545 hcX4_at ⟨by decide, by decide⟩ rfl rfl (Nat.le_of_ble_eq_true rfl) ⟨by decide, by decide⟩ dX11_songAt_8) (fun u3 h4 hf => ?_)
  exact gr_PI F h4 hf (by decide) (by decide) dX11_songAt_11

theorem dX11_tone_0 : decode cX11_tone 0 = .ok (.iload_n 1, 1) := by decide +kernel
theorem dX11_tone_1 : decode cX11_tone 1 = .ok (.iload_n 2, 1) := by decide +kernel
theorem dX11_tone_2 : decode cX11_tone 2 = .ok (.invokestatic 158, 3) := by decide +kernel
theorem dX11_tone_5 : decode cX11_tone 5 = .ok (.ifCond .ne 5, 3) := by decide +kernel
theorem dX11_tone_8 : decode cX11_tone 8 = .ok (.iconst (-1), 1) := by decide +kernel
theorem dX11_tone_9 : decode cX11_tone 9 = .ok (.ireturn, 1) := by decide +kernel
theorem dX11_tone_10 : decode cX11_tone 10 = .ok (.aload_n 0, 1) := by decide +kernel
theorem dX11_tone_11 : decode cX11_tone 11 = .ok (.getfield 54, 3) := by decide +kernel
theorem dX11_tone_14 : decode cX11_tone 14 = .ok (.aload_n 0, 1) := by decide +kernel
theorem dX11_tone_15 : decode cX11_tone 15 = .ok (.getfield 39, 3) := by decide +kernel
theorem dX11_tone_18 : decode cX11_tone 18 = .ok (.getfield 112, 3) := by decide +kernel
theorem dX11_tone_21 : decode cX11_tone 21 = .ok (.iload_n 1, 1) := by decide +kernel
theorem dX11_tone_22 : decode cX11_tone 22 = .ok (.iload_n 2, 1) := by decide +kernel
theorem dX11_tone_23 : decode cX11_tone 23 = .ok (.invokevirtual 171, 3) := by decide +kernel
theorem dX11_tone_26 : decode cX11_tone 26 = .ok (.aload_n 0, 1) := by decide +kernel
theorem dX11_tone_27 : decode cX11_tone 27 = .ok (.getfield 54, 3) := by decide +kernel
theorem dX11_tone_30 : decode cX11_tone 30 = .ok (.iload_n 3, 1) := by decide +kernel
theorem dX11_tone_31 : decode cX11_tone 31 = .ok (.iload 4, 2) := by decide +kernel
theorem dX11_tone_33 : decode cX11_tone 33 = .ok (.aload_n 0, 1) := by decide +kernel
theorem dX11_tone_34 : decode cX11_tone 34 = .ok (.getfield 61, 3) := by decide +kernel
theorem dX11_tone_37 : decode cX11_tone 37 = .ok (.invokevirtual 185, 3) := by decide +kernel
theorem dX11_tone_40 : decode cX11_tone 40 = .ok (.ifCond .eq 13, 3) := by decide +kernel
theorem dX11_tone_43 : decode cX11_tone 43 = .ok (.aload_n 0, 1) := by decide +kernel
theorem dX11_tone_44 : decode cX11_tone 44 = .ok (.getfield 61, 3) := by decide +kernel
theorem dX11_tone_47 : decode cX11_tone 47 = .ok (.getfield 189, 3) := by decide +kernel
theorem dX11_tone_50 : decode cX11_tone 50 = .ok (.goto 4, 3) := by decide +kernel
theorem dX11_tone_53 : decode cX11_tone 53 = .ok (.iconst (-1), 1) := by decide +kernel
theorem dX11_tone_54 : decode cX11_tone 54 = .ok (.ireturn, 1) := by decide +kernel
theorem hcX11_tone : yX11_tone.cls ≠ "java/lang/invoke/MethodHandle" ∧ yX11_tone.cls ≠ "java/lang/invoke/VarHandle" ∧ (parseMethodDescriptor yX11_tone.desc).map (fun d => d.parameters.length) = some 4 := ⟨by decide +kernel, by decide +kernel, by decide +kernel⟩
def fX11_tone (La : sg_L) (s0 : sg_M) (x1 : Int) (x2 : Int) (x3 : Int) (x4 : Int) (Q : Int → sg_M → Prop) : Prop := fX11_isBend x1 x2 (fun u1 => ((u1 ≠ 0 → (0 ≤ (s0 4 0)) ∧ fX0_bendTo La s0 (s0 4 0) x1 x2 (fun s9 => fX0_sound La s9 x3 x4 37 (fun u12 s14 => ((u12 = 0 → Q (-1) s14) ∧ (¬ (u12 = 0) → Q (s14 37 1) s14))))) ∧ (u1 = 0 → Q (-1) s0)))
set_option maxHeartbeats 4000000 in
set_option maxRecDepth 100000 in
theorem CX11_tone {l : Launch} {G : sg_G} {La : sg_L} {s0 : sg_M} (hst : sg_St La) {x1 : Int} (r1 : sg_R x1) {x2 : Int} (r2 : sg_R x2) {x3 : Int} (r3 : sg_R x3) {x4 : Int} (r4 : sg_R x4) {Q : Int → sg_M → Prop} (hf : fX11_tone La s0 x1 x2 x3 x4 Q) : sg_C l G yX11_tone cX11_tone 5 (some .int) 5 0 0 La s0 [sg_r 0, sg_i x1, sg_i x2, sg_i x3, sg_i x4] (sg_HI La Q) := by
  refine sg_body (by decide +kernel) (Nat.le_of_ble_eq_true rfl) ?_
  intro p e s m args below meth c F hnm
  unfold fX11_tone at hf
  show sg_W p l e (sg_rm 5 0 0) s m args below meth c (MQ below (sg_Q (some .int) G La s.heap.size (sg_HI La Q)) args s 0 0 (sg_A La s.heap.size)) 5 G (sg_A La s.heap.size) La s0 0 0 0 [(0, sg_r 0), (1, sg_i x1), (2, sg_i x2), (3, sg_i x3), (4, sg_i x4)] []
  refine gw_iload_n F 1 rfl rfl dX11_tone_0 ?_
  refine gw_iload_n F 2 rfl rfl dX11_tone_1 ?_
  refine gk_PZ F (gc_S F (S := []) (As := [sg_i x1, sg_i x2]) (CX11_isBend r1 r2 hf) kw_502 kw_90 kw_500 kw_501 hcX11_isBend ⟨by decide, by decide⟩ rfl rfl (Nat.le_of_ble_eq_true rfl) ⟨by decide, by decide⟩ dX11_tone_2) (fun u1 h2 hf => ?_)
  refine gw_if_ne F (tgt := 10) dX11_tone_5 (by decide) (sg_B_R h2) (fun c3 => ?_) (fun c3 => ?_)
  · have hf := hf.1 c3
    refine gw_aload_n F 0 rfl rfl (by decide) dX11_tone_10 ?_
    refine gw_get7 F (so_0 hst) (by decide) rfl sg_lay_RX11 (j := 5) (by decide) (o1 := 32) (by first | rfl | omega) rfl (host := "") (.inl kw_331) dX11_tone_11 (fun h4 => ?_)
    refine gw_aload_n F 0 rfl rfl (by decide) dX11_tone_14 ?_
    refine gw_get7 F (so_0 hst) (by decide) rfl sg_lay_RX11 (j := 2) (by decide) (o1 := 4) (by first | rfl | omega) rfl (host := "") (.inl kw_328) dX11_tone_15 (fun h5 => ?_)
    refine gw_get4 F (so_4 hst) (by decide) rfl sg_lay_RX7 (j := 0) (by decide) rfl (.inr kw_234) dX11_tone_18 (fun h6 => ?_)
    refine gw_iload_n F 1 rfl rfl dX11_tone_21 ?_
    refine gw_iload_n F 2 rfl rfl dX11_tone_22 ?_
    obtain ⟨g7, hf⟩ := hf
    have t8 := sg_nn h6 g7
    refine gk_HV F (gc_V F (S := []) (As := [sg_r (s0 4 0), sg_i x1, sg_i x2]) (T := TX0) (N := 11) (CX0_bendTo hst t8 r1 r2 hf) (so_32 hst) (by decide) rfl kw_506 kw_100 kw_503 kw_504 kw_505 hcX0_bendTo ⟨by decide, by decide⟩ rfl rfl (Nat.le_of_ble_eq_true rfl) ⟨by decide, by decide⟩ dX11_tone_23) (fun s9 hf => ?_)
    refine gw_aload_n F 0 rfl rfl (by decide) dX11_tone_26 ?_
    refine gw_get7 F (so_0 hst) (by decide) rfl sg_lay_RX11 (j := 5) (by decide) (o1 := 32) (by first | rfl | omega) rfl (host := "") (.inl kw_331) dX11_tone_27 (fun h10 => ?_)
    refine gw_iload_n F 3 rfl rfl dX11_tone_30 ?_
    refine gw_iload F 4 rfl dX11_tone_31 ?_
    refine gw_aload_n F 0 rfl rfl (by decide) dX11_tone_33 ?_
    refine gw_get7 F (so_0 hst) (by decide) rfl sg_lay_RX11 (j := 6) (by decide) (o1 := 37) (by first | rfl | omega) rfl (host := "") (.inl kw_332) dX11_tone_34 (fun h11 => ?_)
    refine gk_HZ F (gc_V F (S := []) (As := [sg_i x3, sg_i x4, sg_r 37]) (T := TX0) (N := 11) (CX0_sound hst r3 r4 (so_37 hst) hf) (so_32 hst) (by decide) rfl kw_554 kw_100 kw_551 kw_552 kw_553 hcX0_sound ⟨by decide, by decide⟩ rfl rfl (Nat.le_of_ble_eq_true rfl) ⟨by decide, by decide⟩ dX11_tone_37) (fun u12 s14 h13 hf => ?_)
    refine gw_if_eq F (tgt := 53) dX11_tone_40 (by decide) (sg_B_R h13) (fun c15 => ?_) (fun c15 => ?_)
    · have hf := hf.1 c15
      refine gw_iconst F dX11_tone_53 ?_
      exact gr_HI F (by decide) hf (by decide) (by decide) dX11_tone_54
    · have hf := hf.2 c15
      refine gw_aload_n F 0 rfl rfl (by decide) dX11_tone_43 ?_
      refine gw_get7 F (so_0 hst) (by decide) rfl sg_lay_RX11 (j := 6) (by decide) (o1 := 37) (by first | rfl | omega) rfl (host := "") (.inl kw_332) dX11_tone_44 (fun h16 => ?_)
      refine gw_get0 F (so_37 hst) (by decide) rfl sg_lay_RX10 (j := 1) (by decide) rfl (.inr kw_288) dX11_tone_47 (fun h17 => ?_)
      refine gw_goto F (tgt := 54) dX11_tone_50 (by decide) ?_
      exact gr_HI F h17 hf (by decide) (by decide) dX11_tone_54
  · have hf := hf.2 c3
    refine gw_iconst F dX11_tone_8 ?_
    exact gr_HI F (by decide) hf (by decide) (by decide) dX11_tone_9

theorem dX12_init_0 : decode cX12_init 0 = .ok (.aload_n 0, 1) := by decide +kernel
theorem dX12_init_1 : decode cX12_init 1 = .ok (.invokespecial 1, 3) := by decide +kernel
theorem dX12_init_4 : decode cX12_init 4 = .ok (.aload_n 0, 1) := by decide +kernel
theorem dX12_init_5 : decode cX12_init 5 = .ok (.sipush 540, 3) := by decide +kernel
theorem dX12_init_8 : decode cX12_init 8 = .ok (.newarray .int, 2) := by decide +kernel
theorem dX12_init_10 : decode cX12_init 10 = .ok (.putfield 7, 3) := by decide +kernel
theorem dX12_init_13 : decode cX12_init 13 = .ok (.aload_n 0, 1) := by decide +kernel
theorem dX12_init_14 : decode cX12_init 14 = .ok (.sipush 2040, 3) := by decide +kernel
theorem dX12_init_17 : decode cX12_init 17 = .ok (.newarray .int, 2) := by decide +kernel
theorem dX12_init_19 : decode cX12_init 19 = .ok (.putfield 13, 3) := by decide +kernel
theorem dX12_init_22 : decode cX12_init 22 = .ok (.aload_n 0, 1) := by decide +kernel
theorem dX12_init_23 : decode cX12_init 23 = .ok (.sipush 260, 3) := by decide +kernel
theorem dX12_init_26 : decode cX12_init 26 = .ok (.newarray .int, 2) := by decide +kernel
theorem dX12_init_28 : decode cX12_init 28 = .ok (.putfield 16, 3) := by decide +kernel
theorem dX12_init_31 : decode cX12_init 31 = .ok (.aload_n 0, 1) := by decide +kernel
theorem dX12_init_32 : decode cX12_init 32 = .ok (.sipush 4080, 3) := by decide +kernel
theorem dX12_init_35 : decode cX12_init 35 = .ok (.newarray .int, 2) := by decide +kernel
theorem dX12_init_37 : decode cX12_init 37 = .ok (.putfield 19, 3) := by decide +kernel
theorem dX12_init_40 : decode cX12_init 40 = .ok (.aload_n 0, 1) := by decide +kernel
theorem dX12_init_41 : decode cX12_init 41 = .ok (.sipush 200, 3) := by decide +kernel
theorem dX12_init_44 : decode cX12_init 44 = .ok (.newarray .int, 2) := by decide +kernel
theorem dX12_init_46 : decode cX12_init 46 = .ok (.putfield 22, 3) := by decide +kernel
theorem dX12_init_49 : decode cX12_init 49 = .ok (.aload_n 0, 1) := by decide +kernel
theorem dX12_init_50 : decode cX12_init 50 = .ok (.sipush 200, 3) := by decide +kernel
theorem dX12_init_53 : decode cX12_init 53 = .ok (.newarray .int, 2) := by decide +kernel
theorem dX12_init_55 : decode cX12_init 55 = .ok (.putfield 25, 3) := by decide +kernel
theorem dX12_init_58 : decode cX12_init 58 = .ok (.aload_n 0, 1) := by decide +kernel
theorem dX12_init_59 : decode cX12_init 59 = .ok (.iconst 2, 1) := by decide +kernel
theorem dX12_init_60 : decode cX12_init 60 = .ok (.newarray .boolean, 2) := by decide +kernel
theorem dX12_init_62 : decode cX12_init 62 = .ok (.putfield 28, 3) := by decide +kernel
theorem dX12_init_65 : decode cX12_init 65 = .ok (.aload_n 0, 1) := by decide +kernel
theorem dX12_init_66 : decode cX12_init 66 = .ok (.bipush 60, 2) := by decide +kernel
theorem dX12_init_68 : decode cX12_init 68 = .ok (.newarray .int, 2) := by decide +kernel
theorem dX12_init_70 : decode cX12_init 70 = .ok (.putfield 32, 3) := by decide +kernel
theorem dX12_init_73 : decode cX12_init 73 = .ok (.aload_n 0, 1) := by decide +kernel
theorem dX12_init_74 : decode cX12_init 74 = .ok (.bipush 60, 2) := by decide +kernel
theorem dX12_init_76 : decode cX12_init 76 = .ok (.newarray .int, 2) := by decide +kernel
theorem dX12_init_78 : decode cX12_init 78 = .ok (.putfield 35, 3) := by decide +kernel
theorem dX12_init_81 : decode cX12_init 81 = .ok (.aload_n 0, 1) := by decide +kernel
theorem dX12_init_82 : decode cX12_init 82 = .ok (.bipush 60, 2) := by decide +kernel
theorem dX12_init_84 : decode cX12_init 84 = .ok (.newarray .int, 2) := by decide +kernel
theorem dX12_init_86 : decode cX12_init 86 = .ok (.putfield 38, 3) := by decide +kernel
theorem dX12_init_89 : decode cX12_init 89 = .ok (.aload_n 0, 1) := by decide +kernel
theorem dX12_init_90 : decode cX12_init 90 = .ok (.bipush 60, 2) := by decide +kernel
theorem dX12_init_92 : decode cX12_init 92 = .ok (.newarray .int, 2) := by decide +kernel
theorem dX12_init_94 : decode cX12_init 94 = .ok (.putfield 41, 3) := by decide +kernel
theorem dX12_init_97 : decode cX12_init 97 = .ok (.aload_n 0, 1) := by decide +kernel
theorem dX12_init_98 : decode cX12_init 98 = .ok (.bipush 60, 2) := by decide +kernel
theorem dX12_init_100 : decode cX12_init 100 = .ok (.newarray .boolean, 2) := by decide +kernel
theorem dX12_init_102 : decode cX12_init 102 = .ok (.putfield 44, 3) := by decide +kernel
theorem dX12_init_105 : decode cX12_init 105 = .ok (.aload_n 0, 1) := by decide +kernel
theorem dX12_init_106 : decode cX12_init 106 = .ok (.iconst 5, 1) := by decide +kernel
theorem dX12_init_107 : decode cX12_init 107 = .ok (.newarray .int, 2) := by decide +kernel
theorem dX12_init_109 : decode cX12_init 109 = .ok (.dup, 1) := by decide +kernel
theorem dX12_init_110 : decode cX12_init 110 = .ok (.iconst 0, 1) := by decide +kernel
theorem dX12_init_111 : decode cX12_init 111 = .ok (.iconst (-1), 1) := by decide +kernel
theorem dX12_init_112 : decode cX12_init 112 = .ok (.iastore, 1) := by decide +kernel
theorem dX12_init_113 : decode cX12_init 113 = .ok (.dup, 1) := by decide +kernel
theorem dX12_init_114 : decode cX12_init 114 = .ok (.iconst 1, 1) := by decide +kernel
theorem dX12_init_115 : decode cX12_init 115 = .ok (.iconst (-1), 1) := by decide +kernel
theorem dX12_init_116 : decode cX12_init 116 = .ok (.iastore, 1) := by decide +kernel
theorem dX12_init_117 : decode cX12_init 117 = .ok (.dup, 1) := by decide +kernel
theorem dX12_init_118 : decode cX12_init 118 = .ok (.iconst 2, 1) := by decide +kernel
theorem dX12_init_119 : decode cX12_init 119 = .ok (.iconst (-1), 1) := by decide +kernel
theorem dX12_init_120 : decode cX12_init 120 = .ok (.iastore, 1) := by decide +kernel
theorem dX12_init_121 : decode cX12_init 121 = .ok (.dup, 1) := by decide +kernel
theorem dX12_init_122 : decode cX12_init 122 = .ok (.iconst 3, 1) := by decide +kernel
theorem dX12_init_123 : decode cX12_init 123 = .ok (.iconst (-1), 1) := by decide +kernel
theorem dX12_init_124 : decode cX12_init 124 = .ok (.iastore, 1) := by decide +kernel
theorem dX12_init_125 : decode cX12_init 125 = .ok (.dup, 1) := by decide +kernel
theorem dX12_init_126 : decode cX12_init 126 = .ok (.iconst 4, 1) := by decide +kernel
theorem dX12_init_127 : decode cX12_init 127 = .ok (.iconst (-1), 1) := by decide +kernel
theorem dX12_init_128 : decode cX12_init 128 = .ok (.iastore, 1) := by decide +kernel
theorem dX12_init_129 : decode cX12_init 129 = .ok (.putfield 47, 3) := by decide +kernel
theorem dX12_init_132 : decode cX12_init 132 = .ok (.aload_n 0, 1) := by decide +kernel
theorem dX12_init_133 : decode cX12_init 133 = .ok (.bipush 60, 2) := by decide +kernel
theorem dX12_init_135 : decode cX12_init 135 = .ok (.newarray .int, 2) := by decide +kernel
theorem dX12_init_137 : decode cX12_init 137 = .ok (.putfield 50, 3) := by decide +kernel
theorem dX12_init_140 : decode cX12_init 140 = .ok (.aload_n 0, 1) := by decide +kernel
theorem dX12_init_141 : decode cX12_init 141 = .ok (.bipush 60, 2) := by decide +kernel
theorem dX12_init_143 : decode cX12_init 143 = .ok (.newarray .int, 2) := by decide +kernel
theorem dX12_init_145 : decode cX12_init 145 = .ok (.putfield 53, 3) := by decide +kernel
theorem dX12_init_148 : decode cX12_init 148 = .ok (.aload_n 0, 1) := by decide +kernel
theorem dX12_init_149 : decode cX12_init 149 = .ok (.bipush 40, 2) := by decide +kernel
theorem dX12_init_151 : decode cX12_init 151 = .ok (.newarray .int, 2) := by decide +kernel
theorem dX12_init_153 : decode cX12_init 153 = .ok (.putfield 56, 3) := by decide +kernel
theorem dX12_init_156 : decode cX12_init 156 = .ok (.aload_n 0, 1) := by decide +kernel
theorem dX12_init_157 : decode cX12_init 157 = .ok (.bipush 60, 2) := by decide +kernel
theorem dX12_init_159 : decode cX12_init 159 = .ok (.newarray .int, 2) := by decide +kernel
theorem dX12_init_161 : decode cX12_init 161 = .ok (.putfield 59, 3) := by decide +kernel
theorem dX12_init_164 : decode cX12_init 164 = .ok (.aload_n 0, 1) := by decide +kernel
theorem dX12_init_165 : decode cX12_init 165 = .ok (.sipush 2400, 3) := by decide +kernel
theorem dX12_init_168 : decode cX12_init 168 = .ok (.newarray .int, 2) := by decide +kernel
theorem dX12_init_170 : decode cX12_init 170 = .ok (.putfield 62, 3) := by decide +kernel
theorem dX12_init_173 : decode cX12_init 173 = .ok (.aload_n 0, 1) := by decide +kernel
theorem dX12_init_174 : decode cX12_init 174 = .ok (.bipush 60, 2) := by decide +kernel
theorem dX12_init_176 : decode cX12_init 176 = .ok (.newarray .int, 2) := by decide +kernel
theorem dX12_init_178 : decode cX12_init 178 = .ok (.putfield 65, 3) := by decide +kernel
theorem dX12_init_181 : decode cX12_init 181 = .ok (.aload_n 0, 1) := by decide +kernel
theorem dX12_init_182 : decode cX12_init 182 = .ok (.bipush 40, 2) := by decide +kernel
theorem dX12_init_184 : decode cX12_init 184 = .ok (.newarray .int, 2) := by decide +kernel
theorem dX12_init_186 : decode cX12_init 186 = .ok (.putfield 68, 3) := by decide +kernel
theorem dX12_init_189 : decode cX12_init 189 = .ok (.aload_n 0, 1) := by decide +kernel
theorem dX12_init_190 : decode cX12_init 190 = .ok (.bipush 101, 2) := by decide +kernel
theorem dX12_init_192 : decode cX12_init 192 = .ok (.newarray .int, 2) := by decide +kernel
theorem dX12_init_194 : decode cX12_init 194 = .ok (.putfield 71, 3) := by decide +kernel
theorem dX12_init_197 : decode cX12_init 197 = .ok (.aload_n 0, 1) := by decide +kernel
theorem dX12_init_198 : decode cX12_init 198 = .ok (.bipush 21, 2) := by decide +kernel
theorem dX12_init_200 : decode cX12_init 200 = .ok (.newarray .int, 2) := by decide +kernel
theorem dX12_init_202 : decode cX12_init 202 = .ok (.putfield 74, 3) := by decide +kernel
theorem dX12_init_205 : decode cX12_init 205 = .ok (.aload_n 0, 1) := by decide +kernel
theorem dX12_init_206 : decode cX12_init 206 = .ok (.iconst (-1), 1) := by decide +kernel
theorem dX12_init_207 : decode cX12_init 207 = .ok (.putfield 77, 3) := by decide +kernel
theorem dX12_init_210 : decode cX12_init 210 = .ok (.aload_n 0, 1) := by decide +kernel
theorem dX12_init_211 : decode cX12_init 211 = .ok (.sipush 240, 3) := by decide +kernel
theorem dX12_init_214 : decode cX12_init 214 = .ok (.newarray .int, 2) := by decide +kernel
theorem dX12_init_216 : decode cX12_init 216 = .ok (.putfield 81, 3) := by decide +kernel
theorem dX12_init_219 : decode cX12_init 219 = .ok (.return_, 1) := by decide +kernel
theorem hcX12_init : yX12_init.cls ≠ "java/lang/invoke/MethodHandle" ∧ yX12_init.cls ≠ "java/lang/invoke/VarHandle" ∧ (parseMethodDescriptor yX12_init.desc).map (fun d => d.parameters.length) = some 0 := ⟨by decide +kernel, by decide +kernel, by decide +kernel⟩
def fX12_init (La : sg_L) (s0 : sg_M) (o : Int) (Q : sg_L → sg_M → Prop) : Prop := ∀ (q1 : Nat) (La2 : sg_L), La2 = sg_pu La 10540 q1 → ∀ s3 : sg_M, s3 = sg_nw s0 La.1 10540 → ∀ o4 : Int, o4 = (La.1 : Int) → ∀ s14 : sg_M, s14 = sg_up s3 o 1 o4 → ∀ (q16 : Nat) (La17 : sg_L), La17 = sg_pu La2 12040 q16 → ∀ s18 : sg_M, s18 = sg_nw s14 La2.1 12040 → ∀ o19 : Int, o19 = (La2.1 : Int) → ∀ s29 : sg_M, s29 = sg_up s18 o 14 o19 → ∀ (q31 : Nat) (La32 : sg_L), La32 = sg_pu La17 10260 q31 → ∀ s33 : sg_M, s33 = sg_nw s29 La17.1 10260 → ∀ o34 : Int, o34 = (La17.1 : Int) → ∀ s44 : sg_M, s44 = sg_up s33 o 15 o34 → ∀ (q46 : Nat) (La47 : sg_L), La47 = sg_pu La32 14080 q46 → ∀ s48 : sg_M, s48 = sg_nw s44 La32.1 14080 → ∀ o49 : Int, o49 = (La32.1 : Int) → ∀ s59 : sg_M, s59 = sg_up s48 o 16 o49 → ∀ (q61 : Nat) (La62 : sg_L), La62 = sg_pu La47 10200 q61 → ∀ s63 : sg_M, s63 = sg_nw s59 La47.1 10200 → ∀ o64 : Int, o64 = (La47.1 : Int) → ∀ s74 : sg_M, s74 = sg_up s63 o 17 o64 → ∀ (q76 : Nat) (La77 : sg_L), La77 = sg_pu La62 10200 q76 → ∀ s78 : sg_M, s78 = sg_nw s74 La62.1 10200 → ∀ o79 : Int, o79 = (La62.1 : Int) → ∀ s89 : sg_M, s89 = sg_up s78 o 18 o79 → ∀ (q91 : Nat) (La92 : sg_L), La92 = sg_pu La77 20002 q91 → ∀ s93 : sg_M, s93 = sg_nw s89 La77.1 20002 → ∀ o94 : Int, o94 = (La77.1 : Int) → ∀ s103 : sg_M, s103 = sg_up s93 o 19 o94 → ∀ (q105 : Nat) (La106 : sg_L), La106 = sg_pu La92 10060 q105 → ∀ s107 : sg_M, s107 = sg_nw s103 La92.1 10060 → ∀ o108 : Int, o108 = (La92.1 : Int) → ∀ s118 : sg_M, s118 = sg_up s107 o 22 o108 → ∀ (q120 : Nat) (La121 : sg_L), La121 = sg_pu La106 10060 q120 → ∀ s122 : sg_M, s122 = sg_nw s118 La106.1 10060 → ∀ o123 : Int, o123 = (La106.1 : Int) → ∀ s133 : sg_M, s133 = sg_up s122 o 23 o123 → ∀ (q135 : Nat) (La136 : sg_L), La136 = sg_pu La121 10060 q135 → ∀ s137 : sg_M, s137 = sg_nw s133 La121.1 10060 → ∀ o138 : Int, o138 = (La121.1 : Int) → ∀ s148 : sg_M, s148 = sg_up s137 o 24 o138 → ∀ (q150 : Nat) (La151 : sg_L), La151 = sg_pu La136 10060 q150 → ∀ s152 : sg_M, s152 = sg_nw s148 La136.1 10060 → ∀ o153 : Int, o153 = (La136.1 : Int) → ∀ s163 : sg_M, s163 = sg_up s152 o 25 o153 → ∀ (q165 : Nat) (La166 : sg_L), La166 = sg_pu La151 20060 q165 → ∀ s167 : sg_M, s167 = sg_nw s163 La151.1 20060 → ∀ o168 : Int, o168 = (La151.1 : Int) → ∀ s177 : sg_M, s177 = sg_up s167 o 26 o168 → ∀ (q179 : Nat) (La180 : sg_L), La180 = sg_pu La166 10005 q179 → ∀ s181 : sg_M, s181 = sg_nw s177 La166.1 10005 → ∀ o182 : Int, o182 = (La166.1 : Int) → ∀ s192 : sg_M, s192 = sg_up s181 o182 0 (-1) → ∀ s194 : sg_M, s194 = sg_up s192 o182 1 (-1) → ∀ s196 : sg_M, s196 = sg_up s194 o182 2 (-1) → ∀ s198 : sg_M, s198 = sg_up s196 o182 3 (-1) → ∀ s200 : sg_M, s200 = sg_up s198 o182 4 (-1) → ∀ s202 : sg_M, s202 = sg_up s200 o 34 o182 → ∀ (q204 : Nat) (La205 : sg_L), La205 = sg_pu La180 10060 q204 → ∀ s206 : sg_M, s206 = sg_nw s202 La180.1 10060 → ∀ o207 : Int, o207 = (La180.1 : Int) → ∀ s217 : sg_M, s217 = sg_up s206 o 35 o207 → ∀ (q219 : Nat) (La220 : sg_L), La220 = sg_pu La205 10060 q219 → ∀ s221 : sg_M, s221 = sg_nw s217 La205.1 10060 → ∀ o222 : Int, o222 = (La205.1 : Int) → ∀ s232 : sg_M, s232 = sg_up s221 o 36 o222 → ∀ (q234 : Nat) (La235 : sg_L), La235 = sg_pu La220 10040 q234 → ∀ s236 : sg_M, s236 = sg_nw s232 La220.1 10040 → ∀ o237 : Int, o237 = (La220.1 : Int) → ∀ s247 : sg_M, s247 = sg_up s236 o 46 o237 → ∀ (q249 : Nat) (La250 : sg_L), La250 = sg_pu La235 10060 q249 → ∀ s251 : sg_M, s251 = sg_nw s247 La235.1 10060 → ∀ o252 : Int, o252 = (La235.1 : Int) → ∀ s262 : sg_M, s262 = sg_up s251 o 47 o252 → ∀ (q264 : Nat) (La265 : sg_L), La265 = sg_pu La250 12400 q264 → ∀ s266 : sg_M, s266 = sg_nw s262 La250.1 12400 → ∀ o267 : Int, o267 = (La250.1 : Int) → ∀ s277 : sg_M, s277 = sg_up s266 o 48 o267 → ∀ (q279 : Nat) (La280 : sg_L), La280 = sg_pu La265 10060 q279 → ∀ s281 : sg_M, s281 = sg_nw s277 La265.1 10060 → ∀ o282 : Int, o282 = (La265.1 : Int) → ∀ s292 : sg_M, s292 = sg_up s281 o 49 o282 → ∀ (q294 : Nat) (La295 : sg_L), La295 = sg_pu La280 10040 q294 → ∀ s296 : sg_M, s296 = sg_nw s292 La280.1 10040 → ∀ o297 : Int, o297 = (La280.1 : Int) → ∀ s307 : sg_M, s307 = sg_up s296 o 51 o297 → ∀ (q309 : Nat) (La310 : sg_L), La310 = sg_pu La295 10101 q309 → ∀ s311 : sg_M, s311 = sg_nw s307 La295.1 10101 → ∀ o312 : Int, o312 = (La295.1 : Int) → ∀ s322 : sg_M, s322 = sg_up s311 o 53 o312 → ∀ (q324 : Nat) (La325 : sg_L), La325 = sg_pu La310 10021 q324 → ∀ s326 : sg_M, s326 = sg_nw s322 La310.1 10021 → ∀ o327 : Int, o327 = (La310.1 : Int) → ∀ s337 : sg_M, s337 = sg_up s326 o 54 o327 → ∀ s339 : sg_M, s339 = sg_up s337 o 56 (-1) → ∀ (q341 : Nat) (La342 : sg_L), La342 = sg_pu La325 10240 q341 → ∀ s343 : sg_M, s343 = sg_nw s339 La325.1 10240 → ∀ o344 : Int, o344 = (La325.1 : Int) → ∀ s354 : sg_M, s354 = sg_up s343 o 57 o344 → sg_sealed La342 s354 o 32 12 ∧ ∀ La356 : sg_L, La356 = sg_se La342 o.toNat 12 → Q La356 s354
set_option maxHeartbeats 4000000 in
set_option maxRecDepth 100000 in
theorem CX12_init {l : Launch} {G : sg_G} {La : sg_L} {s0 : sg_M} {o : Int} (to : sg_O La o 32) {Q : sg_L → sg_M → Prop} (hf : fX12_init La s0 o Q) : sg_C l G yX12_init cX12_init 1 (none) 1 23 10709 La s0 [sg_r o] (sg_BV (sg_se La o.toNat 12) Q) := by
  refine sg_body (by decide +kernel) (Nat.le_of_ble_eq_true rfl) ?_
  intro p e s m args below meth c F hnm
  unfold fX12_init at hf
  show sg_W p l e (sg_rm 1 23 10709) s m args below meth c (MQ below (sg_Q (none) G La s.heap.size (sg_BV (sg_se La o.toNat 12) Q)) args s 23 10709 (sg_A La s.heap.size)) 1 G (sg_A La s.heap.size) La s0 0 0 0 [(0, sg_r o)] []
  have hin : meth.name = "<init>" := hnm
  refine gw_aload_n F 0 rfl rfl to.1 dX12_init_0 ?_
  refine gw_objInit F to.1 kw_955 kw_OI kw_OC (Nat.le_of_ble_eq_true rfl) (by decide) (by decide) dX12_init_1 ?_
  refine gw_aload_n F 0 rfl rfl to.1 dX12_init_4 ?_
  refine gw_sipush F rfl dX12_init_5 ?_
  refine gy_newI F (N := 540) kw_131 rfl (by decide) (by decide) (by decide) (List.forall_mem_cons.mpr ⟨(Or.inl to.2.1), (fun _ h => absurd h List.not_mem_nil)⟩) (List.forall_mem_cons.mpr ⟨(Or.inl to.2.1), (fun _ h => absurd h List.not_mem_nil)⟩) dX12_init_8 (fun q1 La2 s3 o4 e5 e6 e7 t8 hX9 => ?_)
  have hf := hf q1 La2 e5 s3 e6 o4 e7
  have hn10 : La.1 ≤ o4.toNat := by rw [e7, Int.toNat_natCast]; exact (sg_X.rf : sg_X La La).1
  have t11 := to.X hX9
  have hX12 := sg_X.tr (sg_X.rf) hX9
  have t13 := sg_AN_of (n := 540) t8 (by decide) (by decide) (by decide)
  obtain ⟨s14, e15⟩ : ∃ z : sg_M, z = sg_up s3 o 1 o4 := ⟨_, rfl⟩
  have hf := hf s14 e15
  refine gw_put5F F t11 (by decide) rfl sg_lay_RX12 (j := 1) (by decide) (D0 := tyX12 1) (fun _ => ⟨rfl, rfl⟩) t13.1 t13.2.1 e15 tyX12_ok nmX12 rfl hin rfl (tyX12_ok 1 (by decide)) rfl (host := "") kw_957 dX12_init_10 ?_
  refine gw_aload_n F 0 rfl rfl t11.1 dX12_init_13 ?_
  refine gw_sipush F rfl dX12_init_14 ?_
  refine gy_newI F (N := 2040) kw_131 rfl (by decide) (by decide) (by decide) (List.forall_mem_cons.mpr ⟨(Or.inl t11.2.1), (fun _ h => absurd h List.not_mem_nil)⟩) (List.forall_mem_cons.mpr ⟨(Or.inl t11.2.1), (fun _ h => absurd h List.not_mem_nil)⟩) dX12_init_17 (fun q16 La17 s18 o19 e20 e21 e22 t23 hX24 => ?_)
  have hf := hf q16 La17 e20 s18 e21 o19 e22
  have hn25 : La.1 ≤ o19.toNat := by rw [e22, Int.toNat_natCast]; exact (hX12 : sg_X La La2).1
  have t26 := t11.X hX24
  have hX27 := sg_X.tr (hX12) hX24
  have t28 := sg_AN_of (n := 2040) t23 (by decide) (by decide) (by decide)
  obtain ⟨s29, e30⟩ : ∃ z : sg_M, z = sg_up s18 o 14 o19 := ⟨_, rfl⟩
  have hf := hf s29 e30
  refine gw_put5F F t26 (by decide) rfl sg_lay_RX12 (j := 14) (by decide) (D0 := tyX12 14) (fun _ => ⟨rfl, rfl⟩) t28.1 t28.2.1 e30 tyX12_ok nmX12 rfl hin rfl (tyX12_ok 14 (by decide)) rfl (host := "") kw_970 dX12_init_19 ?_
  refine gw_aload_n F 0 rfl rfl t26.1 dX12_init_22 ?_
  refine gw_sipush F rfl dX12_init_23 ?_
  refine gy_newI F (N := 260) kw_131 rfl (by decide) (by decide) (by decide) (List.forall_mem_cons.mpr ⟨(Or.inl t26.2.1), (fun _ h => absurd h List.not_mem_nil)⟩) (List.forall_mem_cons.mpr ⟨(Or.inl t26.2.1), (fun _ h => absurd h List.not_mem_nil)⟩) dX12_init_26 (fun q31 La32 s33 o34 e35 e36 e37 t38 hX39 => ?_)
  have hf := hf q31 La32 e35 s33 e36 o34 e37
  have hn40 : La.1 ≤ o34.toNat := by rw [e37, Int.toNat_natCast]; exact (hX27 : sg_X La La17).1
  have t41 := t26.X hX39
  have hX42 := sg_X.tr (hX27) hX39
  have t43 := sg_AN_of (n := 260) t38 (by decide) (by decide) (by decide)
  obtain ⟨s44, e45⟩ : ∃ z : sg_M, z = sg_up s33 o 15 o34 := ⟨_, rfl⟩
  have hf := hf s44 e45
  refine gw_put5F F t41 (by decide) rfl sg_lay_RX12 (j := 15) (by decide) (D0 := tyX12 15) (fun _ => ⟨rfl, rfl⟩) t43.1 t43.2.1 e45 tyX12_ok nmX12 rfl hin rfl (tyX12_ok 15 (by decide)) rfl (host := "") kw_971 dX12_init_28 ?_
  refine gw_aload_n F 0 rfl rfl t41.1 dX12_init_31 ?_
  refine gw_sipush F rfl dX12_init_32 ?_
  refine gy_newI F (N := 4080) kw_131 rfl (by decide) (by decide) (by decide) (List.forall_mem_cons.mpr ⟨(Or.inl t41.2.1), (fun _ h => absurd h List.not_mem_nil)⟩) (List.forall_mem_cons.mpr ⟨(Or.inl t41.2.1), (fun _ h => absurd h List.not_mem_nil)⟩) dX12_init_35 (fun q46 La47 s48 o49 e50 e51 e52 t53 hX54 => ?_)
  have hf := hf q46 La47 e50 s48 e51 o49 e52
  have hn55 : La.1 ≤ o49.toNat := by rw [e52, Int.toNat_natCast]; exact (hX42 : sg_X La La32).1
  have t56 := t41.X hX54
  have hX57 := sg_X.tr (hX42) hX54
  have t58 := sg_AN_of (n := 4080) t53 (by decide) (by decide) (by decide)
  obtain ⟨s59, e60⟩ : ∃ z : sg_M, z = sg_up s48 o 16 o49 := ⟨_, rfl⟩
  have hf := hf s59 e60
  refine gw_put5F F t56 (by decide) rfl sg_lay_RX12 (j := 16) (by decide) (D0 := tyX12 16) (fun _ => ⟨rfl, rfl⟩) t58.1 t58.2.1 e60 tyX12_ok nmX12 rfl hin rfl (tyX12_ok 16 (by decide)) rfl (host := "") kw_972 dX12_init_37 ?_
  refine gw_aload_n F 0 rfl rfl t56.1 dX12_init_40 ?_
  refine gw_sipush F rfl dX12_init_41 ?_
  refine gy_newI F (N := 200) kw_131 rfl (by decide) (by decide) (by decide) (List.forall_mem_cons.mpr ⟨(Or.inl t56.2.1), (fun _ h => absurd h List.not_mem_nil)⟩) (List.forall_mem_cons.mpr ⟨(Or.inl t56.2.1), (fun _ h => absurd h List.not_mem_nil)⟩) dX12_init_44 (fun q61 La62 s63 o64 e65 e66 e67 t68 hX69 => ?_)
  have hf := hf q61 La62 e65 s63 e66 o64 e67
  have hn70 : La.1 ≤ o64.toNat := by rw [e67, Int.toNat_natCast]; exact (hX57 : sg_X La La47).1
  have t71 := t56.X hX69
  have hX72 := sg_X.tr (hX57) hX69
  have t73 := sg_AN_of (n := 200) t68 (by decide) (by decide) (by decide)
  obtain ⟨s74, e75⟩ : ∃ z : sg_M, z = sg_up s63 o 17 o64 := ⟨_, rfl⟩
  have hf := hf s74 e75
  refine gw_put5F F t71 (by decide) rfl sg_lay_RX12 (j := 17) (by decide) (D0 := tyX12 17) (fun _ => ⟨rfl, rfl⟩) t73.1 t73.2.1 e75 tyX12_ok nmX12 rfl hin rfl (tyX12_ok 17 (by decide)) rfl (host := "") kw_973 dX12_init_46 ?_
  refine gw_aload_n F 0 rfl rfl t71.1 dX12_init_49 ?_
  refine gw_sipush F rfl dX12_init_50 ?_
  refine gy_newI F (N := 200) kw_131 rfl (by decide) (by decide) (by decide) (List.forall_mem_cons.mpr ⟨(Or.inl t71.2.1), (fun _ h => absurd h List.not_mem_nil)⟩) (List.forall_mem_cons.mpr ⟨(Or.inl t71.2.1), (fun _ h => absurd h List.not_mem_nil)⟩) dX12_init_53 (fun q76 La77 s78 o79 e80 e81 e82 t83 hX84 => ?_)
  have hf := hf q76 La77 e80 s78 e81 o79 e82
  have hn85 : La.1 ≤ o79.toNat := by rw [e82, Int.toNat_natCast]; exact (hX72 : sg_X La La62).1
  have t86 := t71.X hX84
  have hX87 := sg_X.tr (hX72) hX84
  have t88 := sg_AN_of (n := 200) t83 (by decide) (by decide) (by decide)
  obtain ⟨s89, e90⟩ : ∃ z : sg_M, z = sg_up s78 o 18 o79 := ⟨_, rfl⟩
  have hf := hf s89 e90
  refine gw_put5F F t86 (by decide) rfl sg_lay_RX12 (j := 18) (by decide) (D0 := tyX12 18) (fun _ => ⟨rfl, rfl⟩) t88.1 t88.2.1 e90 tyX12_ok nmX12 rfl hin rfl (tyX12_ok 18 (by decide)) rfl (host := "") kw_974 dX12_init_55 ?_
  refine gw_aload_n F 0 rfl rfl t86.1 dX12_init_58 ?_
  refine gw_iconst F dX12_init_59 ?_
  refine gy_newZ F (N := 2) kw_1018 rfl (by decide) (by decide) (by decide) (List.forall_mem_cons.mpr ⟨(Or.inl t86.2.1), (fun _ h => absurd h List.not_mem_nil)⟩) (List.forall_mem_cons.mpr ⟨(Or.inl t86.2.1), (fun _ h => absurd h List.not_mem_nil)⟩) dX12_init_60 (fun q91 La92 s93 o94 e95 e96 e97 t98 hX99 => ?_)
  have hf := hf q91 La92 e95 s93 e96 o94 e97
  have hn100 : La.1 ≤ o94.toNat := by rw [e97, Int.toNat_natCast]; exact (hX87 : sg_X La La77).1
  have t101 := t86.X hX99
  have hX102 := sg_X.tr (hX87) hX99
  obtain ⟨s103, e104⟩ : ∃ z : sg_M, z = sg_up s93 o 19 o94 := ⟨_, rfl⟩
  have hf := hf s103 e104
  refine gw_put5F F t101 (by decide) rfl sg_lay_RX12 (j := 19) (by decide) (D0 := tyX12 19) (fun _ => ⟨rfl, rfl⟩) t98.1 t98.2.1 e104 tyX12_ok nmX12 rfl hin rfl (tyX12_ok 19 (by decide)) rfl (host := "") kw_975 dX12_init_62 ?_
  refine gw_aload_n F 0 rfl rfl t101.1 dX12_init_65 ?_
  refine gw_bipush F rfl dX12_init_66 ?_
  refine gy_newI F (N := 60) kw_131 rfl (by decide) (by decide) (by decide) (List.forall_mem_cons.mpr ⟨(Or.inl t101.2.1), (fun _ h => absurd h List.not_mem_nil)⟩) (List.forall_mem_cons.mpr ⟨(Or.inl t101.2.1), (fun _ h => absurd h List.not_mem_nil)⟩) dX12_init_68 (fun q105 La106 s107 o108 e109 e110 e111 t112 hX113 => ?_)
  have hf := hf q105 La106 e109 s107 e110 o108 e111
  have hn114 : La.1 ≤ o108.toNat := by rw [e111, Int.toNat_natCast]; exact (hX102 : sg_X La La92).1
  have t115 := t101.X hX113
  have hX116 := sg_X.tr (hX102) hX113
  have t117 := sg_AN_of (n := 60) t112 (by decide) (by decide) (by decide)
  obtain ⟨s118, e119⟩ : ∃ z : sg_M, z = sg_up s107 o 22 o108 := ⟨_, rfl⟩
  have hf := hf s118 e119
  refine gw_put5F F t115 (by decide) rfl sg_lay_RX12 (j := 22) (by decide) (D0 := tyX12 22) (fun _ => ⟨rfl, rfl⟩) t117.1 t117.2.1 e119 tyX12_ok nmX12 rfl hin rfl (tyX12_ok 22 (by decide)) rfl (host := "") kw_978 dX12_init_70 ?_
  refine gw_aload_n F 0 rfl rfl t115.1 dX12_init_73 ?_
  refine gw_bipush F rfl dX12_init_74 ?_
  refine gy_newI F (N := 60) kw_131 rfl (by decide) (by decide) (by decide) (List.forall_mem_cons.mpr ⟨(Or.inl t115.2.1), (fun _ h => absurd h List.not_mem_nil)⟩) (List.forall_mem_cons.mpr ⟨(Or.inl t115.2.1), (fun _ h => absurd h List.not_mem_nil)⟩) dX12_init_76 (fun q120 La121 s122 o123 e124 e125 e126 t127 hX128 => ?_)
  have hf := hf q120 La121 e124 s122 e125 o123 e126
  have hn129 : La.1 ≤ o123.toNat := by rw [e126, Int.toNat_natCast]; exact (hX116 : sg_X La La106).1
  have t130 := t115.X hX128
  have hX131 := sg_X.tr (hX116) hX128
  have t132 := sg_AN_of (n := 60) t127 (by decide) (by decide) (by decide)
  obtain ⟨s133, e134⟩ : ∃ z : sg_M, z = sg_up s122 o 23 o123 := ⟨_, rfl⟩
  have hf := hf s133 e134
  refine gw_put5F F t130 (by decide) rfl sg_lay_RX12 (j := 23) (by decide) (D0 := tyX12 23) (fun _ => ⟨rfl, rfl⟩) t132.1 t132.2.1 e134 tyX12_ok nmX12 rfl hin rfl (tyX12_ok 23 (by decide)) rfl (host := "") kw_979 dX12_init_78 ?_
  refine gw_aload_n F 0 rfl rfl t130.1 dX12_init_81 ?_
  refine gw_bipush F rfl dX12_init_82 ?_
  refine gy_newI F (N := 60) kw_131 rfl (by decide) (by decide) (by decide) (List.forall_mem_cons.mpr ⟨(Or.inl t130.2.1), (fun _ h => absurd h List.not_mem_nil)⟩) (List.forall_mem_cons.mpr ⟨(Or.inl t130.2.1), (fun _ h => absurd h List.not_mem_nil)⟩) dX12_init_84 (fun q135 La136 s137 o138 e139 e140 e141 t142 hX143 => ?_)
  have hf := hf q135 La136 e139 s137 e140 o138 e141
  have hn144 : La.1 ≤ o138.toNat := by rw [e141, Int.toNat_natCast]; exact (hX131 : sg_X La La121).1
  have t145 := t130.X hX143
  have hX146 := sg_X.tr (hX131) hX143
  have t147 := sg_AN_of (n := 60) t142 (by decide) (by decide) (by decide)
  obtain ⟨s148, e149⟩ : ∃ z : sg_M, z = sg_up s137 o 24 o138 := ⟨_, rfl⟩
  have hf := hf s148 e149
  refine gw_put5F F t145 (by decide) rfl sg_lay_RX12 (j := 24) (by decide) (D0 := tyX12 24) (fun _ => ⟨rfl, rfl⟩) t147.1 t147.2.1 e149 tyX12_ok nmX12 rfl hin rfl (tyX12_ok 24 (by decide)) rfl (host := "") kw_980 dX12_init_86 ?_
  refine gw_aload_n F 0 rfl rfl t145.1 dX12_init_89 ?_
  refine gw_bipush F rfl dX12_init_90 ?_
  refine gy_newI F (N := 60) kw_131 rfl (by decide) (by decide) (by decide) (List.forall_mem_cons.mpr ⟨(Or.inl t145.2.1), (fun _ h => absurd h List.not_mem_nil)⟩) (List.forall_mem_cons.mpr ⟨(Or.inl t145.2.1), (fun _ h => absurd h List.not_mem_nil)⟩) dX12_init_92 (fun q150 La151 s152 o153 e154 e155 e156 t157 hX158 => ?_)
  have hf := hf q150 La151 e154 s152 e155 o153 e156
  have hn159 : La.1 ≤ o153.toNat := by rw [e156, Int.toNat_natCast]; exact (hX146 : sg_X La La136).1
  have t160 := t145.X hX158
  have hX161 := sg_X.tr (hX146) hX158
  have t162 := sg_AN_of (n := 60) t157 (by decide) (by decide) (by decide)
  obtain ⟨s163, e164⟩ : ∃ z : sg_M, z = sg_up s152 o 25 o153 := ⟨_, rfl⟩
  have hf := hf s163 e164
  refine gw_put5F F t160 (by decide) rfl sg_lay_RX12 (j := 25) (by decide) (D0 := tyX12 25) (fun _ => ⟨rfl, rfl⟩) t162.1 t162.2.1 e164 tyX12_ok nmX12 rfl hin rfl (tyX12_ok 25 (by decide)) rfl (host := "") kw_981 dX12_init_94 ?_
  refine gw_aload_n F 0 rfl rfl t160.1 dX12_init_97 ?_
  refine gw_bipush F rfl dX12_init_98 ?_
  refine gy_newZ F (N := 60) kw_1018 rfl (by decide) (by decide) (by decide) (List.forall_mem_cons.mpr ⟨(Or.inl t160.2.1), (fun _ h => absurd h List.not_mem_nil)⟩) (List.forall_mem_cons.mpr ⟨(Or.inl t160.2.1), (fun _ h => absurd h List.not_mem_nil)⟩) dX12_init_100 (fun q165 La166 s167 o168 e169 e170 e171 t172 hX173 => ?_)
  have hf := hf q165 La166 e169 s167 e170 o168 e171
  have hn174 : La.1 ≤ o168.toNat := by rw [e171, Int.toNat_natCast]; exact (hX161 : sg_X La La151).1
  have t175 := t160.X hX173
  have hX176 := sg_X.tr (hX161) hX173
  obtain ⟨s177, e178⟩ : ∃ z : sg_M, z = sg_up s167 o 26 o168 := ⟨_, rfl⟩
  have hf := hf s177 e178
  refine gw_put5F F t175 (by decide) rfl sg_lay_RX12 (j := 26) (by decide) (D0 := tyX12 26) (fun _ => ⟨rfl, rfl⟩) t172.1 t172.2.1 e178 tyX12_ok nmX12 rfl hin rfl (tyX12_ok 26 (by decide)) rfl (host := "") kw_982 dX12_init_102 ?_
  refine gw_aload_n F 0 rfl rfl t175.1 dX12_init_105 ?_
  refine gw_iconst F dX12_init_106 ?_
  refine gy_newI F (N := 5) kw_131 rfl (by decide) (by decide) (by decide) (List.forall_mem_cons.mpr ⟨(Or.inl t175.2.1), (fun _ h => absurd h List.not_mem_nil)⟩) (List.forall_mem_cons.mpr ⟨(Or.inl t175.2.1), (fun _ h => absurd h List.not_mem_nil)⟩) dX12_init_107 (fun q179 La180 s181 o182 e183 e184 e185 t186 hX187 => ?_)
  have hf := hf q179 La180 e183 s181 e184 o182 e185
  have hn188 : La.1 ≤ o182.toNat := by rw [e185, Int.toNat_natCast]; exact (hX176 : sg_X La La166).1
  have t189 := t175.X hX187
  have hX190 := sg_X.tr (hX176) hX187
  have t191 := sg_AN_of (n := 5) t186 (by decide) (by decide) (by decide)
  refine gw_dup F rfl dX12_init_109 ?_
  refine gw_iconst F dX12_init_110 ?_
  refine gw_iconst F dX12_init_111 ?_
  obtain ⟨s192, e193⟩ : ∃ z : sg_M, z = sg_up s181 o182 0 (-1) := ⟨_, rfl⟩
  have hf := hf s192 e193
  refine gw_iast F t191 (by decide) (by decide) (by decide) e193 dX12_init_112 ?_
  refine gw_dup F rfl dX12_init_113 ?_
  refine gw_iconst F dX12_init_114 ?_
  refine gw_iconst F dX12_init_115 ?_
  obtain ⟨s194, e195⟩ : ∃ z : sg_M, z = sg_up s192 o182 1 (-1) := ⟨_, rfl⟩
  have hf := hf s194 e195
  refine gw_iast F t191 (by decide) (by decide) (by decide) e195 dX12_init_116 ?_
  refine gw_dup F rfl dX12_init_117 ?_
  refine gw_iconst F dX12_init_118 ?_
  refine gw_iconst F dX12_init_119 ?_
  obtain ⟨s196, e197⟩ : ∃ z : sg_M, z = sg_up s194 o182 2 (-1) := ⟨_, rfl⟩
  have hf := hf s196 e197
  refine gw_iast F t191 (by decide) (by decide) (by decide) e197 dX12_init_120 ?_
  refine gw_dup F rfl dX12_init_121 ?_
  refine gw_iconst F dX12_init_122 ?_
  refine gw_iconst F dX12_init_123 ?_
  obtain ⟨s198, e199⟩ : ∃ z : sg_M, z = sg_up s196 o182 3 (-1) := ⟨_, rfl⟩
  have hf := hf s198 e199
  refine gw_iast F t191 (by decide) (by decide) (by decide) e199 dX12_init_124 ?_
  refine gw_dup F rfl dX12_init_125 ?_
  refine gw_iconst F dX12_init_126 ?_
  refine gw_iconst F dX12_init_127 ?_
  obtain ⟨s200, e201⟩ : ∃ z : sg_M, z = sg_up s198 o182 4 (-1) := ⟨_, rfl⟩
  have hf := hf s200 e201
  refine gw_iast F t191 (by decide) (by decide) (by decide) e201 dX12_init_128 ?_
  obtain ⟨s202, e203⟩ : ∃ z : sg_M, z = sg_up s200 o 34 o182 := ⟨_, rfl⟩
  have hf := hf s202 e203
  refine gw_put5F F t189 (by decide) rfl sg_lay_RX12 (j := 34) (by decide) (D0 := tyX12 34) (fun _ => ⟨rfl, rfl⟩) t191.1 t191.2.1 e203 tyX12_ok nmX12 rfl hin rfl (tyX12_ok 34 (by decide)) rfl (host := "") kw_990 dX12_init_129 ?_
  refine gw_aload_n F 0 rfl rfl t189.1 dX12_init_132 ?_
  refine gw_bipush F rfl dX12_init_133 ?_
  refine gy_newI F (N := 60) kw_131 rfl (by decide) (by decide) (by decide) (List.forall_mem_cons.mpr ⟨(Or.inl t189.2.1), (fun _ h => absurd h List.not_mem_nil)⟩) (List.forall_mem_cons.mpr ⟨(Or.inl t189.2.1), (fun _ h => absurd h List.not_mem_nil)⟩) dX12_init_135 (fun q204 La205 s206 o207 e208 e209 e210 t211 hX212 => ?_)
  have hf := hf q204 La205 e208 s206 e209 o207 e210
  have hn213 : La.1 ≤ o207.toNat := by rw [e210, Int.toNat_natCast]; exact (hX190 : sg_X La La180).1
  have t214 := t189.X hX212
  have hX215 := sg_X.tr (hX190) hX212
  have t216 := sg_AN_of (n := 60) t211 (by decide) (by decide) (by decide)
  obtain ⟨s217, e218⟩ : ∃ z : sg_M, z = sg_up s206 o 35 o207 := ⟨_, rfl⟩
  have hf := hf s217 e218
  refine gw_put5F F t214 (by decide) rfl sg_lay_RX12 (j := 35) (by decide) (D0 := tyX12 35) (fun _ => ⟨rfl, rfl⟩) t216.1 t216.2.1 e218 tyX12_ok nmX12 rfl hin rfl (tyX12_ok 35 (by decide)) rfl (host := "") kw_991 dX12_init_137 ?_
  refine gw_aload_n F 0 rfl rfl t214.1 dX12_init_140 ?_
  refine gw_bipush F rfl dX12_init_141 ?_
  refine gy_newI F (N := 60) kw_131 rfl (by decide) (by decide) (by decide) (List.forall_mem_cons.mpr ⟨(Or.inl t214.2.1), (fun _ h => absurd h List.not_mem_nil)⟩) (List.forall_mem_cons.mpr ⟨(Or.inl t214.2.1), (fun _ h => absurd h List.not_mem_nil)⟩) dX12_init_143 (fun q219 La220 s221 o222 e223 e224 e225 t226 hX227 => ?_)
  have hf := hf q219 La220 e223 s221 e224 o222 e225
  have hn228 : La.1 ≤ o222.toNat := by rw [e225, Int.toNat_natCast]; exact (hX215 : sg_X La La205).1
  have t229 := t214.X hX227
  have hX230 := sg_X.tr (hX215) hX227
  have t231 := sg_AN_of (n := 60) t226 (by decide) (by decide) (by decide)
  obtain ⟨s232, e233⟩ : ∃ z : sg_M, z = sg_up s221 o 36 o222 := ⟨_, rfl⟩
  have hf := hf s232 e233
  refine gw_put5F F t229 (by decide) rfl sg_lay_RX12 (j := 36) (by decide) (D0 := tyX12 36) (fun _ => ⟨rfl, rfl⟩) t231.1 t231.2.1 e233 tyX12_ok nmX12 rfl hin rfl (tyX12_ok 36 (by decide)) rfl (host := "") kw_992 dX12_init_145 ?_
  refine gw_aload_n F 0 rfl rfl t229.1 dX12_init_148 ?_
  refine gw_bipush F rfl dX12_init_149 ?_
  refine gy_newI F (N := 40) kw_131 rfl (by decide) (by decide) (by decide) (List.forall_mem_cons.mpr ⟨(Or.inl t229.2.1), (fun _ h => absurd h List.not_mem_nil)⟩) (List.forall_mem_cons.mpr ⟨(Or.inl t229.2.1), (fun _ h => absurd h List.not_mem_nil)⟩) dX12_init_151 (fun q234 La235 s236 o237 e238 e239 e240 t241 hX242 => ?_)
  have hf := hf q234 La235 e238 s236 e239 o237 e240
  have hn243 : La.1 ≤ o237.toNat := by rw [e240, Int.toNat_natCast]; exact (hX230 : sg_X La La220).1
  have t244 := t229.X hX242
  have hX245 := sg_X.tr (hX230) hX242
  have t246 := sg_AN_of (n := 40) t241 (by decide) (by decide) (by decide)
  obtain ⟨s247, e248⟩ : ∃ z : sg_M, z = sg_up s236 o 46 o237 := ⟨_, rfl⟩
  have hf := hf s247 e248
  refine gw_put5F F t244 (by decide) rfl sg_lay_RX12 (j := 46) (by decide) (D0 := tyX12 46) (fun _ => ⟨rfl, rfl⟩) t246.1 t246.2.1 e248 tyX12_ok nmX12 rfl hin rfl (tyX12_ok 46 (by decide)) rfl (host := "") kw_1002 dX12_init_153 ?_
  refine gw_aload_n F 0 rfl rfl t244.1 dX12_init_156 ?_
  refine gw_bipush F rfl dX12_init_157 ?_
  refine gy_newI F (N := 60) kw_131 rfl (by decide) (by decide) (by decide) (List.forall_mem_cons.mpr ⟨(Or.inl t244.2.1), (fun _ h => absurd h List.not_mem_nil)⟩) (List.forall_mem_cons.mpr ⟨(Or.inl t244.2.1), (fun _ h => absurd h List.not_mem_nil)⟩) dX12_init_159 (fun q249 La250 s251 o252 e253 e254 e255 t256 hX257 => ?_)
  have hf := hf q249 La250 e253 s251 e254 o252 e255
  have hn258 : La.1 ≤ o252.toNat := by rw [e255, Int.toNat_natCast]; exact (hX245 : sg_X La La235).1
  have t259 := t244.X hX257
  have hX260 := sg_X.tr (hX245) hX257
  have t261 := sg_AN_of (n := 60) t256 (by decide) (by decide) (by decide)
  obtain ⟨s262, e263⟩ : ∃ z : sg_M, z = sg_up s251 o 47 o252 := ⟨_, rfl⟩
  have hf := hf s262 e263
  refine gw_put5F F t259 (by decide) rfl sg_lay_RX12 (j := 47) (by decide) (D0 := tyX12 47) (fun _ => ⟨rfl, rfl⟩) t261.1 t261.2.1 e263 tyX12_ok nmX12 rfl hin rfl (tyX12_ok 47 (by decide)) rfl (host := "") kw_1003 dX12_init_161 ?_
  refine gw_aload_n F 0 rfl rfl t259.1 dX12_init_164 ?_
  refine gw_sipush F rfl dX12_init_165 ?_
  refine gy_newI F (N := 2400) kw_131 rfl (by decide) (by decide) (by decide) (List.forall_mem_cons.mpr ⟨(Or.inl t259.2.1), (fun _ h => absurd h List.not_mem_nil)⟩) (List.forall_mem_cons.mpr ⟨(Or.inl t259.2.1), (fun _ h => absurd h List.not_mem_nil)⟩) dX12_init_168 (fun q264 La265 s266 o267 e268 e269 e270 t271 hX272 => ?_)
  have hf := hf q264 La265 e268 s266 e269 o267 e270
  have hn273 : La.1 ≤ o267.toNat := by rw [e270, Int.toNat_natCast]; exact (hX260 : sg_X La La250).1
  have t274 := t259.X hX272
  have hX275 := sg_X.tr (hX260) hX272
  have t276 := sg_AN_of (n := 2400) t271 (by decide) (by decide) (by decide)
  obtain ⟨s277, e278⟩ : ∃ z : sg_M, z = sg_up s266 o 48 o267 := ⟨_, rfl⟩
  have hf := hf s277 e278
  refine gw_put5F F t274 (by decide) rfl sg_lay_RX12 (j := 48) (by decide) (D0 := tyX12 48) (fun _ => ⟨rfl, rfl⟩) t276.1 t276.2.1 e278 tyX12_ok nmX12 rfl hin rfl (tyX12_ok 48 (by decide)) rfl (host := "") kw_1004 dX12_init_170 ?_
  refine gw_aload_n F 0 rfl rfl t274.1 dX12_init_173 ?_
  refine gw_bipush F rfl dX12_init_174 ?_
  refine gy_newI F (N := 60) kw_131 rfl (by decide) (by decide) (by decide) (List.forall_mem_cons.mpr ⟨(Or.inl t274.2.1), (fun _ h => absurd h List.not_mem_nil)⟩) (List.forall_mem_cons.mpr ⟨(Or.inl t274.2.1), (fun _ h => absurd h List.not_mem_nil)⟩) dX12_init_176 (fun q279 La280 s281 o282 e283 e284 e285 t286 hX287 => ?_)
  have hf := hf q279 La280 e283 s281 e284 o282 e285
  have hn288 : La.1 ≤ o282.toNat := by rw [e285, Int.toNat_natCast]; exact (hX275 : sg_X La La265).1
  have t289 := t274.X hX287
  have hX290 := sg_X.tr (hX275) hX287
  have t291 := sg_AN_of (n := 60) t286 (by decide) (by decide) (by decide)
  obtain ⟨s292, e293⟩ : ∃ z : sg_M, z = sg_up s281 o 49 o282 := ⟨_, rfl⟩
  have hf := hf s292 e293
  refine gw_put5F F t289 (by decide) rfl sg_lay_RX12 (j := 49) (by decide) (D0 := tyX12 49) (fun _ => ⟨rfl, rfl⟩) t291.1 t291.2.1 e293 tyX12_ok nmX12 rfl hin rfl (tyX12_ok 49 (by decide)) rfl (host := "") kw_1005 dX12_init_178 ?_
  refine gw_aload_n F 0 rfl rfl t289.1 dX12_init_181 ?_
  refine gw_bipush F rfl dX12_init_182 ?_
  refine gy_newI F (N := 40) kw_131 rfl (by decide) (by decide) (by decide) (List.forall_mem_cons.mpr ⟨(Or.inl t289.2.1), (fun _ h => absurd h List.not_mem_nil)⟩) (List.forall_mem_cons.mpr ⟨(Or.inl t289.2.1), (fun _ h => absurd h List.not_mem_nil)⟩) dX12_init_184 (fun q294 La295 s296 o297 e298 e299 e300 t301 hX302 => ?_)
  have hf := hf q294 La295 e298 s296 e299 o297 e300
  have hn303 : La.1 ≤ o297.toNat := by rw [e300, Int.toNat_natCast]; exact (hX290 : sg_X La La280).1
  have t304 := t289.X hX302
  have hX305 := sg_X.tr (hX290) hX302
  have t306 := sg_AN_of (n := 40) t301 (by decide) (by decide) (by decide)
  obtain ⟨s307, e308⟩ : ∃ z : sg_M, z = sg_up s296 o 51 o297 := ⟨_, rfl⟩
  have hf := hf s307 e308
  refine gw_put5F F t304 (by decide) rfl sg_lay_RX12 (j := 51) (by decide) (D0 := tyX12 51) (fun _ => ⟨rfl, rfl⟩) t306.1 t306.2.1 e308 tyX12_ok nmX12 rfl hin rfl (tyX12_ok 51 (by decide)) rfl (host := "") kw_1007 dX12_init_186 ?_
  refine gw_aload_n F 0 rfl rfl t304.1 dX12_init_189 ?_
  refine gw_bipush F rfl dX12_init_190 ?_
  refine gy_newI F (N := 101) kw_131 rfl (by decide) (by decide) (by decide) (List.forall_mem_cons.mpr ⟨(Or.inl t304.2.1), (fun _ h => absurd h List.not_mem_nil)⟩) (List.forall_mem_cons.mpr ⟨(Or.inl t304.2.1), (fun _ h => absurd h List.not_mem_nil)⟩) dX12_init_192 (fun q309 La310 s311 o312 e313 e314 e315 t316 hX317 => ?_)
  have hf := hf q309 La310 e313 s311 e314 o312 e315
  have hn318 : La.1 ≤ o312.toNat := by rw [e315, Int.toNat_natCast]; exact (hX305 : sg_X La La295).1
  have t319 := t304.X hX317
  have hX320 := sg_X.tr (hX305) hX317
  have t321 := sg_AN_of (n := 101) t316 (by decide) (by decide) (by decide)
  obtain ⟨s322, e323⟩ : ∃ z : sg_M, z = sg_up s311 o 53 o312 := ⟨_, rfl⟩
  have hf := hf s322 e323
  refine gw_put5F F t319 (by decide) rfl sg_lay_RX12 (j := 53) (by decide) (D0 := tyX12 53) (fun _ => ⟨rfl, rfl⟩) t321.1 t321.2.1 e323 tyX12_ok nmX12 rfl hin rfl (tyX12_ok 53 (by decide)) rfl (host := "") kw_1009 dX12_init_194 ?_
  refine gw_aload_n F 0 rfl rfl t319.1 dX12_init_197 ?_
  refine gw_bipush F rfl dX12_init_198 ?_
  refine gy_newI F (N := 21) kw_131 rfl (by decide) (by decide) (by decide) (List.forall_mem_cons.mpr ⟨(Or.inl t319.2.1), (fun _ h => absurd h List.not_mem_nil)⟩) (List.forall_mem_cons.mpr ⟨(Or.inl t319.2.1), (fun _ h => absurd h List.not_mem_nil)⟩) dX12_init_200 (fun q324 La325 s326 o327 e328 e329 e330 t331 hX332 => ?_)
  have hf := hf q324 La325 e328 s326 e329 o327 e330
  have hn333 : La.1 ≤ o327.toNat := by rw [e330, Int.toNat_natCast]; exact (hX320 : sg_X La La310).1
  have t334 := t319.X hX332
  have hX335 := sg_X.tr (hX320) hX332
  have t336 := sg_AN_of (n := 21) t331 (by decide) (by decide) (by decide)
  obtain ⟨s337, e338⟩ : ∃ z : sg_M, z = sg_up s326 o 54 o327 := ⟨_, rfl⟩
  have hf := hf s337 e338
  refine gw_put5F F t334 (by decide) rfl sg_lay_RX12 (j := 54) (by decide) (D0 := tyX12 54) (fun _ => ⟨rfl, rfl⟩) t336.1 t336.2.1 e338 tyX12_ok nmX12 rfl hin rfl (tyX12_ok 54 (by decide)) rfl (host := "") kw_1010 dX12_init_202 ?_
  refine gw_aload_n F 0 rfl rfl t334.1 dX12_init_205 ?_
  refine gw_iconst F dX12_init_206 ?_
  obtain ⟨s339, e340⟩ : ∃ z : sg_M, z = sg_up s337 o 56 (-1) := ⟨_, rfl⟩
  have hf := hf s339 e340
  refine gw_put0 F t334 (by decide) rfl sg_lay_RX12 (j := 56) (by decide) (by decide) e340 tyX12_ok nmX12 rfl (tyX12_ok 56 (by decide)) rfl (host := "") (.inl kw_1012) dX12_init_207 ?_
  refine gw_aload_n F 0 rfl rfl t334.1 dX12_init_210 ?_
  refine gw_sipush F rfl dX12_init_211 ?_
  refine gy_newI F (N := 240) kw_131 rfl (by decide) (by decide) (by decide) (List.forall_mem_cons.mpr ⟨(Or.inl t334.2.1), (fun _ h => absurd h List.not_mem_nil)⟩) (List.forall_mem_cons.mpr ⟨(Or.inl t334.2.1), (fun _ h => absurd h List.not_mem_nil)⟩) dX12_init_214 (fun q341 La342 s343 o344 e345 e346 e347 t348 hX349 => ?_)
  have hf := hf q341 La342 e345 s343 e346 o344 e347
  have hn350 : La.1 ≤ o344.toNat := by rw [e347, Int.toNat_natCast]; exact (hX335 : sg_X La La325).1
  have t351 := t334.X hX349
  have hX352 := sg_X.tr (hX335) hX349
  have t353 := sg_AN_of (n := 240) t348 (by decide) (by decide) (by decide)
  obtain ⟨s354, e355⟩ : ∃ z : sg_M, z = sg_up s343 o 57 o344 := ⟨_, rfl⟩
  have hf := hf s354 e355
  refine gw_put5F F t351 (by decide) rfl sg_lay_RX12 (j := 57) (by decide) (D0 := tyX12 57) (fun _ => ⟨rfl, rfl⟩) t353.1 t353.2.1 e355 tyX12_ok nmX12 rfl hin rfl (tyX12_ok 57 (by decide)) rfl (host := "") kw_1013 dX12_init_216 ?_
  obtain ⟨g357, hf⟩ := hf
  obtain ⟨La356, e358⟩ : ∃ z : sg_L, z = sg_se La342 o.toNat 12 := ⟨_, rfl⟩
  have hf := hf La356 e358
  refine gw_seal t351 ⟨by decide, by decide, by decide⟩ (by decide) (by decide) g357.1 g357.2 ?_
  rw [← e358]
  exact gr_BC F hf (e358 ▸ (sg_X.both hX352)) (by decide) (by decide) dX12_init_219
