theorem dX3_readTicks_0 : decode cX3_readTicks 0 = .ok (.aload_n 1, 1) := by decide +kernel
theorem dX3_readTicks_1 : decode cX3_readTicks 1 = .ok (.iconst 1, 1) := by decide +kernel
theorem dX3_readTicks_2 : decode cX3_readTicks 2 = .ok (.bipush 99, 2) := by decide +kernel
theorem dX3_readTicks_4 : decode cX3_readTicks 4 = .ok (.sipush 200, 3) := by decide +kernel
theorem dX3_readTicks_7 : decode cX3_readTicks 7 = .ok (.aload_n 0, 1) := by decide +kernel
theorem dX3_readTicks_8 : decode cX3_readTicks 8 = .ok (.getfield 18, 3) := by decide +kernel
theorem dX3_readTicks_11 : decode cX3_readTicks 11 = .ok (.isub, 1) := by decide +kernel
theorem dX3_readTicks_12 : decode cX3_readTicks 12 = .ok (.invokevirtual 52, 3) := by decide +kernel
theorem dX3_readTicks_15 : decode cX3_readTicks 15 = .ok (.ireturn, 1) := by decide +kernel
theorem hcX3_readTicks : yX3_readTicks.cls ≠ "java/lang/invoke/MethodHandle" ∧ yX3_readTicks.cls ≠ "java/lang/invoke/VarHandle" ∧ (parseMethodDescriptor yX3_readTicks.desc).map (fun d => d.parameters.length) = some 1 := ⟨by decide +kernel, by decide +kernel, by decide +kernel⟩
def fX3_readTicks (s0 : sg_M) (o : Int) (Q : Int → sg_M → Prop) : Prop := sg_R (200 - (s0 o 2)) ∧ fX9_number s0 1 99 (200 - (s0 o 2)) (fun u3 s5 => Q u3 s5)
set_option maxHeartbeats 4000000 in
set_option maxRecDepth 100000 in
theorem CX3_readTicks {l : Launch} {G : sg_G} {La : sg_L} {s0 : sg_M} (hst : sg_St La) {o : Int} (to : sg_O La o 3) {Q : Int → sg_M → Prop} (hf : fX3_readTicks s0 o Q) : sg_C l G yX3_readTicks cX3_readTicks 2 (some .int) 4 0 0 La s0 [sg_r o, sg_r 3] (sg_HI La Q) := by
  refine sg_body (by decide +kernel) (Nat.le_of_ble_eq_true rfl) ?_
  intro p e s m args below meth c F hnm
  unfold fX3_readTicks at hf
  show sg_W p l e (sg_rm 4 0 0) s m args below meth c (MQ below (sg_Q (some .int) G La s.heap.size (sg_HI La Q)) args s 0 0 (sg_A La s.heap.size)) 2 G (sg_A La s.heap.size) La s0 0 0 0 [(0, sg_r o), (1, sg_r 3)] []
  refine gw_aload_n F 1 rfl rfl (by decide) dX3_readTicks_0 ?_
  refine gw_iconst F dX3_readTicks_1 ?_
  refine gw_bipush F rfl dX3_readTicks_2 ?_
  refine gw_sipush F rfl dX3_readTicks_4 ?_
  refine gw_aload_n F 0 rfl rfl to.1 dX3_readTicks_7 ?_
  refine gw_get0 F to (by decide) rfl sg_lay_RX3 (j := 2) (by decide) rfl (host := "") (.inl kw_180) dX3_readTicks_8 (fun h1 => ?_)
  refine gw_isub F rfl dX3_readTicks_11 ?_
  obtain ⟨g2, hf⟩ := hf
  refine gk_HI F (gc_V F (S := []) (As := [sg_i 1, sg_i 99, sg_i (200 - (s0 o 2))]) (T := TX9) (N := 8) (CX9_number hst (by decide) (by decide) g2 hf) (so_3 hst) (by decide) rfl kw_453 kw_92 kw_614 kw_451 kw_452 hcX9_number ⟨by decide, by decide⟩ rfl rfl (Nat.le_of_ble_eq_true rfl) ⟨by decide, by decide⟩ dX3_readTicks_12) (fun u3 s5 h4 hf => ?_)
  exact gr_HI F h4 hf (by decide) (by decide) dX3_readTicks_15

theorem dX3_shake_0 : decode cX3_shake 0 = .ok (.iconst 1, 1) := by decide +kernel
theorem dX3_shake_1 : decode cX3_shake 1 = .ok (.istore_n 3, 1) := by decide +kernel
theorem dX3_shake_2 : decode cX3_shake 2 = .ok (.iload_n 3, 1) := by decide +kernel
theorem dX3_shake_3 : decode cX3_shake 3 = .ok (.iload_n 2, 1) := by decide +kernel
theorem dX3_shake_4 : decode cX3_shake 4 = .ok (.if_icmp .gt 57, 3) := by decide +kernel
theorem dX3_shake_7 : decode cX3_shake 7 = .ok (.iconst 0, 1) := by decide +kernel
theorem dX3_shake_8 : decode cX3_shake 8 = .ok (.istore 4, 2) := by decide +kernel
theorem dX3_shake_10 : decode cX3_shake 10 = .ok (.iload_n 3, 1) := by decide +kernel
theorem dX3_shake_11 : decode cX3_shake 11 = .ok (.iconst 4, 1) := by decide +kernel
theorem dX3_shake_12 : decode cX3_shake 12 = .ok (.irem, 1) := by decide +kernel
theorem dX3_shake_13 : decode cX3_shake 13 = .ok (.iconst 1, 1) := by decide +kernel
theorem dX3_shake_14 : decode cX3_shake 14 = .ok (.if_icmp .ne 9, 3) := by decide +kernel
theorem dX3_shake_17 : decode cX3_shake 17 = .ok (.iload_n 1, 1) := by decide +kernel
theorem dX3_shake_18 : decode cX3_shake 18 = .ok (.istore 4, 2) := by decide +kernel
theorem dX3_shake_20 : decode cX3_shake 20 = .ok (.goto 14, 3) := by decide +kernel
theorem dX3_shake_23 : decode cX3_shake 23 = .ok (.iload_n 3, 1) := by decide +kernel
theorem dX3_shake_24 : decode cX3_shake 24 = .ok (.iconst 4, 1) := by decide +kernel
theorem dX3_shake_25 : decode cX3_shake 25 = .ok (.irem, 1) := by decide +kernel
theorem dX3_shake_26 : decode cX3_shake 26 = .ok (.iconst 3, 1) := by decide +kernel
theorem dX3_shake_27 : decode cX3_shake 27 = .ok (.if_icmp .ne 7, 3) := by decide +kernel
theorem dX3_shake_30 : decode cX3_shake 30 = .ok (.iload_n 1, 1) := by decide +kernel
theorem dX3_shake_31 : decode cX3_shake 31 = .ok (.ineg, 1) := by decide +kernel
theorem dX3_shake_32 : decode cX3_shake 32 = .ok (.istore 4, 2) := by decide +kernel
theorem dX3_shake_34 : decode cX3_shake 34 = .ok (.aload_n 0, 1) := by decide +kernel
theorem dX3_shake_35 : decode cX3_shake 35 = .ok (.aload_n 0, 1) := by decide +kernel
theorem dX3_shake_36 : decode cX3_shake 36 = .ok (.getfield 22, 3) := by decide +kernel
theorem dX3_shake_39 : decode cX3_shake 39 = .ok (.aload_n 0, 1) := by decide +kernel
theorem dX3_shake_40 : decode cX3_shake 40 = .ok (.getfield 25, 3) := by decide +kernel
theorem dX3_shake_43 : decode cX3_shake 43 = .ok (.iload 4, 2) := by decide +kernel
theorem dX3_shake_45 : decode cX3_shake 45 = .ok (.iadd, 1) := by decide +kernel
theorem dX3_shake_46 : decode cX3_shake 46 = .ok (.sipush 9999, 3) := by decide +kernel
theorem dX3_shake_49 : decode cX3_shake 49 = .ok (.invokestatic 89, 3) := by decide +kernel
theorem dX3_shake_52 : decode cX3_shake 52 = .ok (.invokevirtual 86, 3) := by decide +kernel
theorem dX3_shake_55 : decode cX3_shake 55 = .ok (.iinc 3 1, 3) := by decide +kernel
theorem dX3_shake_58 : decode cX3_shake 58 = .ok (.goto (-56), 3) := by decide +kernel
theorem dX3_shake_61 : decode cX3_shake 61 = .ok (.return_, 1) := by decide +kernel
theorem hcX3_shake : yX3_shake.cls ≠ "java/lang/invoke/MethodHandle" ∧ yX3_shake.cls ≠ "java/lang/invoke/VarHandle" ∧ (parseMethodDescriptor yX3_shake.desc).map (fun d => d.parameters.length) = some 2 := ⟨by decide +kernel, by decide +kernel, by decide +kernel⟩
def fX3_shake_j34 (o : Int) (s_2 : sg_M) (x3_2 : Int) (k2 : sg_M → Int → Prop) (x4_34 : Int) : Prop := sg_R ((s_2 o 4) + x4_34) ∧ fX11_within ((s_2 o 4) + x4_34) 9999 (fun u5 => fX3_pass s_2 o (s_2 o 3) u5 (fun s7 => sg_R (x3_2 + 1) ∧ k2 s7 (x3_2 + 1)))
def fX3_shake_L2 (o : Int) (x1 : Int) (x2 : Int) (Q : sg_M → Prop) : Nat → sg_M → Int → Prop
  | 0, _, _ => False
  | n_2 + 1, s_2, x3_2 => ((x2 < x3_2 → Q s_2) ∧ (¬ (x2 < x3_2) → sg_R (Int.tmod x3_2 4) ∧ (((Int.tmod x3_2 4) ≠ 1 → sg_R (Int.tmod x3_2 4) ∧ (((Int.tmod x3_2 4) ≠ 3 → (fX3_shake_j34 o s_2 x3_2 (fX3_shake_L2 o x1 x2 Q n_2)) 0) ∧ ((Int.tmod x3_2 4) = 3 → sg_R (-x1) ∧ (fX3_shake_j34 o s_2 x3_2 (fX3_shake_L2 o x1 x2 Q n_2)) (-x1)))) ∧ ((Int.tmod x3_2 4) = 1 → (fX3_shake_j34 o s_2 x3_2 (fX3_shake_L2 o x1 x2 Q n_2)) x1))))
def fX3_shake (s0 : sg_M) (o : Int) (x1 : Int) (x2 : Int) (Q : sg_M → Prop) : Prop := (∃ n14 : Nat, fX3_shake_L2 o x1 x2 Q n14 s0 1)
set_option maxHeartbeats 4000000 in
set_option maxRecDepth 100000 in
theorem CX3_shake {l : Launch} {G : sg_G} {La : sg_L} {s0 : sg_M} {o : Int} (to : sg_O La o 3) {x1 : Int} (r1 : sg_R x1) {x2 : Int} (r2 : sg_R x2) {Q : sg_M → Prop} (hf : fX3_shake s0 o x1 x2 Q) : sg_C l G yX3_shake cX3_shake 5 (none) 2 0 0 La s0 [sg_r o, sg_i x1, sg_i x2] (sg_HV La Q) := by
  refine sg_body (by decide +kernel) (Nat.le_of_ble_eq_true rfl) ?_
  intro p e s m args below meth c F hnm
  unfold fX3_shake at hf
  show sg_W p l e (sg_rm 2 0 0) s m args below meth c (MQ below (sg_Q (none) G La s.heap.size (sg_HV La Q)) args s 0 0 (sg_A La s.heap.size)) 5 G (sg_A La s.heap.size) La s0 0 0 0 [(0, sg_r o), (1, sg_i x1), (2, sg_i x2)] []
  refine gw_iconst F dX3_shake_0 ?_
  refine gw_istore_n F rfl (by decide) rfl dX3_shake_1 ?_
  have L2 : ∀ n_2 : Nat, ∀ (s_2 : sg_M) (x3_2 : Int), sg_R x3_2 → fX3_shake_L2 o x1 x2 Q n_2 s_2 x3_2 → sg_W p l e (sg_rm 2 0 0) s m args below meth c (MQ below (sg_Q (none) G La s.heap.size (sg_HV La Q)) args s 0 0 (sg_A La s.heap.size)) 5 G (sg_A La s.heap.size) La s_2 0 0 2 [(0, sg_r o), (1, sg_i x1), (2, sg_i x2), (3, sg_i x3_2)] [] := by
    intro n_2
    induction n_2 with
    | zero => intro s_2 x3_2 r3_2 hf; exact hf.elim
    | succ n_2 ih =>
      intro s_2 x3_2 r3_2 hf
      unfold fX3_shake_L2 at hf
      refine gw_iload_n F 3 rfl rfl dX3_shake_2 ?_
      refine gw_iload_n F 2 rfl rfl dX3_shake_3 ?_
      refine gw_icmp_gt F (tgt := 61) dX3_shake_4 (by decide) r3_2 r2 (fun c1 => ?_) (fun c1 => ?_)
      · have hf := hf.1 c1
        exact gr_HV F hf (by decide) (by decide) dX3_shake_61
      · have hf := hf.2 c1
        refine gw_iconst F dX3_shake_7 ?_
        refine gw_istore F (by decide) rfl dX3_shake_8 ?_
        refine gw_iload_n F 4 rfl rfl dX3_shake_10 ?_
        refine gw_iconst F dX3_shake_11 ?_
        refine gw_irem F r3_2 (by decide) (by decide) rfl dX3_shake_12 ?_
        refine gw_iconst F dX3_shake_13 ?_
        have J34 : ∀ (x4_34 : Int), sg_R x4_34 → (fX3_shake_j34 o s_2 x3_2 (fX3_shake_L2 o x1 x2 Q n_2)) x4_34 → sg_W p l e (sg_rm 2 0 0) s m args below meth c (MQ below (sg_Q (none) G La s.heap.size (sg_HV La Q)) args s 0 0 (sg_A La s.heap.size)) 5 G (sg_A La s.heap.size) La s_2 0 0 34 [(0, sg_r o), (1, sg_i x1), (2, sg_i x2), (3, sg_i x3_2), (4, sg_i x4_34)] [] := by
          intro x4_34 r4_34 hf
          unfold fX3_shake_j34 at hf
          refine gw_aload_n F 0 rfl rfl to.1 dX3_shake_34 ?_
          refine gw_aload_n F 0 rfl rfl to.1 dX3_shake_35 ?_
          refine gw_get0 F to (by decide) rfl sg_lay_RX3 (j := 3) (by decide) rfl (host := "") (.inl kw_182) dX3_shake_36 (fun h2 => ?_)
          refine gw_aload_n F 0 rfl rfl to.1 dX3_shake_39 ?_
          refine gw_get0 F to (by decide) rfl sg_lay_RX3 (j := 4) (by decide) rfl (host := "") (.inl kw_183) dX3_shake_40 (fun h3 => ?_)
          refine gw_iload F 4 rfl dX3_shake_43 ?_
          refine gw_iadd F rfl dX3_shake_45 ?_
          refine gw_sipush F rfl dX3_shake_46 ?_
          obtain ⟨g4, hf⟩ := hf
          refine gk_PI F (gc_SN F (S := [sg_i (s_2 o 3), sg_r o]) (As := [sg_i ((s_2 o 4) + x4_34), sg_i 9999]) (CX11_within g4 (by decide) hf) kw_521 kw_90 kw_633 kw_520 hcX11_within ⟨by decide, by decide⟩ rfl rfl (Nat.le_of_ble_eq_true rfl) ⟨by decide, by decide⟩ dX3_shake_49) (fun u5 h6 hf => ?_)
          refine gk_HV F (gc_V F (S := []) (As := [sg_i (s_2 o 3), sg_i u5]) (T := TX3) (N := 5) (CX3_pass to h2 h6 hf) to (by decide) rfl kw_629 kw_95 kw_627 kw_628 kw_17 hcX3_pass ⟨by decide, by decide⟩ rfl rfl (Nat.le_of_ble_eq_true rfl) ⟨by decide, by decide⟩ dX3_shake_52) (fun s7 hf => ?_)
          refine gw_iinc F (z := (x3_2 + 1)) 3 rfl (by omega) (by decide) rfl dX3_shake_55 ?_
          refine gw_goto F (tgt := 2) dX3_shake_58 (by decide) ?_
          obtain ⟨g8, hf⟩ := hf
          refine gw_sub [1, 2, 3, 0] rfl ?_
          exact ih s7 (x3_2 + 1) g8 hf
        obtain ⟨g9, hf⟩ := hf
        refine gw_icmp_ne F (tgt := 23) dX3_shake_14 (by decide) g9 (by decide) (fun c10 => ?_) (fun c10 => ?_)
        · have hf := hf.1 c10
          refine gw_iload_n F 4 rfl rfl dX3_shake_23 ?_
          refine gw_iconst F dX3_shake_24 ?_
          refine gw_irem F r3_2 (by decide) (by decide) rfl dX3_shake_25 ?_
          refine gw_iconst F dX3_shake_26 ?_
          obtain ⟨g11, hf⟩ := hf
          refine gw_icmp_ne F (tgt := 34) dX3_shake_27 (by decide) g11 (by decide) (fun c12 => ?_) (fun c12 => ?_)
          · have hf := hf.1 c12
            refine gw_sub [1, 2, 3, 4, 0] rfl ?_
            exact J34 0 (by decide) hf
          · have hf := hf.2 c12
            refine gw_iload_n F 2 rfl rfl dX3_shake_30 ?_
            refine gw_ineg F rfl dX3_shake_31 ?_
            refine gw_istore F (by decide) rfl dX3_shake_32 ?_
            obtain ⟨g13, hf⟩ := hf
            refine gw_sub [1, 2, 3, 4, 0] rfl ?_
            exact J34 (-x1) g13 hf
        · have hf := hf.2 c10
          refine gw_iload_n F 2 rfl rfl dX3_shake_17 ?_
          refine gw_istore F (by decide) rfl dX3_shake_18 ?_
          refine gw_goto F (tgt := 34) dX3_shake_20 (by decide) ?_
          refine gw_sub [1, 2, 3, 4, 0] rfl ?_
          exact J34 x1 r1 hf
  obtain ⟨n14, hf⟩ := hf
  refine gw_sub [1, 2, 3, 0] rfl ?_
  refine L2   n14 s0 1 (by decide) hf

theorem dX9_isWord_0 : decode cX9_isWord 0 = .ok (.aload_n 0, 1) := by decide +kernel
theorem dX9_isWord_1 : decode cX9_isWord 1 = .ok (.getfield 25, 3) := by decide +kernel
theorem dX9_isWord_4 : decode cX9_isWord 4 = .ok (.ifCond .ne 27, 3) := by decide +kernel
theorem dX9_isWord_7 : decode cX9_isWord 7 = .ok (.aload_n 0, 1) := by decide +kernel
theorem dX9_isWord_8 : decode cX9_isWord 8 = .ok (.getfield 13, 3) := by decide +kernel
theorem dX9_isWord_11 : decode cX9_isWord 11 = .ok (.iconst 1, 1) := by decide +kernel
theorem dX9_isWord_12 : decode cX9_isWord 12 = .ok (.if_icmp .ne 19, 3) := by decide +kernel
theorem dX9_isWord_15 : decode cX9_isWord 15 = .ok (.aload_n 0, 1) := by decide +kernel
theorem dX9_isWord_16 : decode cX9_isWord 16 = .ok (.getfield 19, 3) := by decide +kernel
theorem dX9_isWord_19 : decode cX9_isWord 19 = .ok (.aload_n 0, 1) := by decide +kernel
theorem dX9_isWord_20 : decode cX9_isWord 20 = .ok (.getfield 16, 3) := by decide +kernel
theorem dX9_isWord_23 : decode cX9_isWord 23 = .ok (.isub, 1) := by decide +kernel
theorem dX9_isWord_24 : decode cX9_isWord 24 = .ok (.aload_n 1, 1) := by decide +kernel
theorem dX9_isWord_25 : decode cX9_isWord 25 = .ok (.invokevirtual 61, 3) := by decide +kernel
theorem dX9_isWord_28 : decode cX9_isWord 28 = .ok (.if_icmp .eq 5, 3) := by decide +kernel
theorem dX9_isWord_31 : decode cX9_isWord 31 = .ok (.iconst 0, 1) := by decide +kernel
theorem dX9_isWord_32 : decode cX9_isWord 32 = .ok (.ireturn, 1) := by decide +kernel
theorem dX9_isWord_33 : decode cX9_isWord 33 = .ok (.iconst 0, 1) := by decide +kernel
theorem dX9_isWord_34 : decode cX9_isWord 34 = .ok (.istore_n 2, 1) := by decide +kernel
theorem dX9_isWord_35 : decode cX9_isWord 35 = .ok (.iload_n 2, 1) := by decide +kernel
theorem dX9_isWord_36 : decode cX9_isWord 36 = .ok (.aload_n 1, 1) := by decide +kernel
theorem dX9_isWord_37 : decode cX9_isWord 37 = .ok (.invokevirtual 61, 3) := by decide +kernel
theorem dX9_isWord_40 : decode cX9_isWord 40 = .ok (.if_icmp .ge 32, 3) := by decide +kernel
theorem dX9_isWord_43 : decode cX9_isWord 43 = .ok (.aload_n 0, 1) := by decide +kernel
theorem dX9_isWord_44 : decode cX9_isWord 44 = .ok (.getfield 31, 3) := by decide +kernel
theorem dX9_isWord_47 : decode cX9_isWord 47 = .ok (.aload_n 0, 1) := by decide +kernel
theorem dX9_isWord_48 : decode cX9_isWord 48 = .ok (.getfield 16, 3) := by decide +kernel
theorem dX9_isWord_51 : decode cX9_isWord 51 = .ok (.iload_n 2, 1) := by decide +kernel
theorem dX9_isWord_52 : decode cX9_isWord 52 = .ok (.iadd, 1) := by decide +kernel
theorem dX9_isWord_53 : decode cX9_isWord 53 = .ok (.invokevirtual 38, 3) := by decide +kernel
theorem dX9_isWord_56 : decode cX9_isWord 56 = .ok (.aload_n 1, 1) := by decide +kernel
theorem dX9_isWord_57 : decode cX9_isWord 57 = .ok (.iload_n 2, 1) := by decide +kernel
theorem dX9_isWord_58 : decode cX9_isWord 58 = .ok (.invokevirtual 67, 3) := by decide +kernel
theorem dX9_isWord_61 : decode cX9_isWord 61 = .ok (.if_icmp .eq 5, 3) := by decide +kernel
theorem dX9_isWord_64 : decode cX9_isWord 64 = .ok (.iconst 0, 1) := by decide +kernel
theorem dX9_isWord_65 : decode cX9_isWord 65 = .ok (.ireturn, 1) := by decide +kernel
theorem dX9_isWord_66 : decode cX9_isWord 66 = .ok (.iinc 2 1, 3) := by decide +kernel
theorem dX9_isWord_69 : decode cX9_isWord 69 = .ok (.goto (-34), 3) := by decide +kernel
theorem dX9_isWord_72 : decode cX9_isWord 72 = .ok (.iconst 1, 1) := by decide +kernel
theorem dX9_isWord_73 : decode cX9_isWord 73 = .ok (.ireturn, 1) := by decide +kernel
theorem hcX9_isWord : yX9_isWord.cls ≠ "java/lang/invoke/MethodHandle" ∧ yX9_isWord.cls ≠ "java/lang/invoke/VarHandle" ∧ (parseMethodDescriptor yX9_isWord.desc).map (fun d => d.parameters.length) = some 1 := ⟨by decide +kernel, by decide +kernel, by decide +kernel⟩
def fX9_isWord_L35 (s0 : sg_M) (w1 : Nat) (Q : Int → Prop) : Nat → Int → Prop
  | 0, _ => False
  | n_35 + 1, x2_35 => (((sg_sl w1) ≤ x2_35 → Q 1) ∧ (¬ ((sg_sl w1) ≤ x2_35) → sg_R ((s0 3 3) + x2_35) ∧ fX8_byteAt s0 ((s0 3 3) + x2_35) (fun u13 => (0 ≤ x2_35 ∧ x2_35 < (sg_sl w1)) ∧ ((u13 = (sg_sc w1 x2_35) → sg_R (x2_35 + 1) ∧ (fX9_isWord_L35 s0 w1 Q n_35) (x2_35 + 1)) ∧ (¬ (u13 = (sg_sc w1 x2_35)) → Q 0)))))
def fX9_isWord (s0 : sg_M) (w1 : Nat) (Q : Int → Prop) : Prop := (((s0 3 6) ≠ 0 → Q 0) ∧ ((s0 3 6) = 0 → (((s0 3 2) ≠ 1 → Q 0) ∧ ((s0 3 2) = 1 → sg_R ((s0 3 4) - (s0 3 3)) ∧ ((((s0 3 4) - (s0 3 3)) = (sg_sl w1) → (∃ n18 : Nat, fX9_isWord_L35 s0 w1 Q n18 0)) ∧ (¬ (((s0 3 4) - (s0 3 3)) = (sg_sl w1)) → Q 0))))))
set_option maxHeartbeats 4000000 in
set_option maxRecDepth 100000 in
theorem CX9_isWord {l : Launch} {G : sg_G} {La : sg_L} {s0 : sg_M} (hst : sg_St La) {w1 : Nat} (hw1 : w1 < 25) {Q : Int → Prop} (hf : fX9_isWord s0 w1 Q) : sg_C l G yX9_isWord cX9_isWord 3 (some .boolean) 5 0 0 La s0 [sg_r 3, sg_a (G.2.2.1 w1)] (sg_PZ La s0 Q) := by
  refine sg_body (by decide +kernel) (Nat.le_of_ble_eq_true rfl) ?_
  intro p e s m args below meth c F hnm
  unfold fX9_isWord at hf
  show sg_W p l e (sg_rm 5 0 0) s m args below meth c (MQ below (sg_Q (some .boolean) G La s.heap.size (sg_PZ La s0 Q)) args s 0 0 (sg_A La s.heap.size)) 3 G (sg_A La s.heap.size) La s0 0 0 0 [(0, sg_r 3), (1, sg_a (G.2.2.1 w1))] []
  refine gw_aload_n F 0 rfl rfl (by decide) dX9_isWord_0 ?_
  refine gw_get0 F (so_3 hst) (by decide) rfl sg_lay_RX9 (j := 6) (by decide) rfl (host := "") (.inl kw_144) dX9_isWord_1 (fun h1 => ?_)
  refine gw_if_ne F (tgt := 31) dX9_isWord_4 (by decide) h1 (fun c2 => ?_) (fun c2 => ?_)
  · have hf := hf.1 c2
    refine gw_iconst F dX9_isWord_31 ?_
    exact gr_PZ F (by decide) hf (by decide) (by decide) dX9_isWord_32
  · have hf := hf.2 c2
    refine gw_aload_n F 0 rfl rfl (by decide) dX9_isWord_7 ?_
    refine gw_get0 F (so_3 hst) (by decide) rfl sg_lay_RX9 (j := 2) (by decide) rfl (host := "") (.inl kw_140) dX9_isWord_8 (fun h3 => ?_)
    refine gw_iconst F dX9_isWord_11 ?_
    refine gw_icmp_ne F (tgt := 31) dX9_isWord_12 (by decide) h3 (by decide) (fun c4 => ?_) (fun c4 => ?_)
    · have hf := hf.1 c4
      refine gw_iconst F dX9_isWord_31 ?_
      exact gr_PZ F (by decide) hf (by decide) (by decide) dX9_isWord_32
    · have hf := hf.2 c4
      refine gw_aload_n F 0 rfl rfl (by decide) dX9_isWord_15 ?_
      refine gw_get0 F (so_3 hst) (by decide) rfl sg_lay_RX9 (j := 4) (by decide) rfl (host := "") (.inl kw_142) dX9_isWord_16 (fun h5 => ?_)
      refine gw_aload_n F 0 rfl rfl (by decide) dX9_isWord_19 ?_
      refine gw_get0 F (so_3 hst) (by decide) rfl sg_lay_RX9 (j := 3) (by decide) rfl (host := "") (.inl kw_141) dX9_isWord_20 (fun h6 => ?_)
      refine gw_isub F rfl dX9_isWord_23 ?_
      refine gw_aload_na F 1 rfl rfl dX9_isWord_24 ?_
      refine gw_strlen F hw1 (Nat.le_of_ble_eq_true rfl) ⟨by decide, by decide⟩ ⟨by decide, by decide⟩ dX9_isWord_25 ?_
      obtain ⟨g7, hf⟩ := hf
      refine gw_icmp_eq F (tgt := 33) dX9_isWord_28 (by decide) g7 (sg_sl_R _) (fun c8 => ?_) (fun c8 => ?_)
      · have hf := hf.1 c8
        refine gw_iconst F dX9_isWord_33 ?_
        refine gw_istore_n F rfl (by decide) rfl dX9_isWord_34 ?_
        have L35 : ∀ n_35 : Nat, ∀ (x2_35 : Int), sg_R x2_35 → fX9_isWord_L35 s0 w1 Q n_35 x2_35 → sg_W p l e (sg_rm 5 0 0) s m args below meth c (MQ below (sg_Q (some .boolean) G La s.heap.size (sg_PZ La s0 Q)) args s 0 0 (sg_A La s.heap.size)) 3 G (sg_A La s.heap.size) La s0 0 0 35 [(0, sg_r 3), (1, sg_a (G.2.2.1 w1)), (2, sg_i x2_35)] [] := by
          intro n_35
          induction n_35 with
          | zero => intro x2_35 r2_35 hf; exact hf.elim
          | succ n_35 ih =>
            intro x2_35 r2_35 hf
            unfold fX9_isWord_L35 at hf
            refine gw_iload_n F 2 rfl rfl dX9_isWord_35 ?_
            refine gw_aload_na F 1 rfl rfl dX9_isWord_36 ?_
            refine gw_strlen F hw1 (Nat.le_of_ble_eq_true rfl) ⟨by decide, by decide⟩ ⟨by decide, by decide⟩ dX9_isWord_37 ?_
            refine gw_icmp_ge F (tgt := 72) dX9_isWord_40 (by decide) r2_35 (sg_sl_R _) (fun c9 => ?_) (fun c9 => ?_)
            · have hf := hf.1 c9
              refine gw_iconst F dX9_isWord_72 ?_
              exact gr_PZ F (by decide) hf (by decide) (by decide) dX9_isWord_73
            · have hf := hf.2 c9
              refine gw_aload_n F 0 rfl rfl (by decide) dX9_isWord_43 ?_
              refine gw_get7 F (so_3 hst) (by decide) rfl sg_lay_RX9 (j := 0) (by decide) (o1 := 1) (by first | rfl | omega) rfl (host := "") (.inl kw_138) dX9_isWord_44 (fun h10 => ?_)
              refine gw_aload_n F 0 rfl rfl (by decide) dX9_isWord_47 ?_
              refine gw_get0 F (so_3 hst) (by decide) rfl sg_lay_RX9 (j := 3) (by decide) rfl (host := "") (.inl kw_141) dX9_isWord_48 (fun h11 => ?_)
              refine gw_iload_n F 2 rfl rfl dX9_isWord_51 ?_
              refine gw_iadd F rfl dX9_isWord_52 ?_
              obtain ⟨g12, hf⟩ := hf
              refine gk_PI F (gc_V F (S := []) (As := [sg_i ((s0 3 3) + x2_35)]) (T := TX8) (N := 2) (CX8_byteAt hst g12 hf) (so_1 hst) (by decide) rfl kw_372 kw_91 kw_369 kw_370 kw_371 hcX8_byteAt ⟨by decide, by decide⟩ rfl rfl (Nat.le_of_ble_eq_true rfl) ⟨by decide, by decide⟩ dX9_isWord_53) (fun u13 h14 hf => ?_)
              refine gw_aload_na F 1 rfl rfl dX9_isWord_56 ?_
              refine gw_iload_n F 2 rfl rfl dX9_isWord_57 ?_
              obtain ⟨⟨b150, b151⟩, hf⟩ := hf
              refine gw_charAt F hw1 b150 b151 (Nat.le_of_ble_eq_true rfl) ⟨by decide, by decide⟩ ⟨by decide, by decide⟩ dX9_isWord_58 ?_
              refine gw_icmp_eq F (tgt := 66) dX9_isWord_61 (by decide) h14 (sg_sc_R _ _) (fun c16 => ?_) (fun c16 => ?_)
              · have hf := hf.1 c16
                refine gw_iinc F (z := (x2_35 + 1)) 2 rfl (by omega) (by decide) rfl dX9_isWord_66 ?_
                refine gw_goto F (tgt := 35) dX9_isWord_69 (by decide) ?_
                obtain ⟨g17, hf⟩ := hf
                refine gw_sub [1, 2, 0] rfl ?_
                exact ih (x2_35 + 1) g17 hf
              · have hf := hf.2 c16
                refine gw_iconst F dX9_isWord_64 ?_
                exact gr_PZ F (by decide) hf (by decide) (by decide) dX9_isWord_65
        obtain ⟨n18, hf⟩ := hf
        refine gw_sub [1, 2, 0] rfl ?_
        refine L35   n18 0 (by decide) hf
      · have hf := hf.2 c8
        refine gw_iconst F dX9_isWord_31 ?_
        exact gr_PZ F (by decide) hf (by decide) (by decide) dX9_isWord_32

theorem dX9_skipWord_0 : decode cX9_skipWord 0 = .ok (.aload_n 0, 1) := by decide +kernel
theorem dX9_skipWord_1 : decode cX9_skipWord 1 = .ok (.aload_n 1, 1) := by decide +kernel
theorem dX9_skipWord_2 : decode cX9_skipWord 2 = .ok (.invokevirtual 71, 3) := by decide +kernel
theorem dX9_skipWord_5 : decode cX9_skipWord 5 = .ok (.istore_n 2, 1) := by decide +kernel
theorem dX9_skipWord_6 : decode cX9_skipWord 6 = .ok (.iload_n 2, 1) := by decide +kernel
theorem dX9_skipWord_7 : decode cX9_skipWord 7 = .ok (.ifCond .eq 7, 3) := by decide +kernel
theorem dX9_skipWord_10 : decode cX9_skipWord 10 = .ok (.aload_n 0, 1) := by decide +kernel
theorem dX9_skipWord_11 : decode cX9_skipWord 11 = .ok (.invokevirtual 35, 3) := by decide +kernel
theorem dX9_skipWord_14 : decode cX9_skipWord 14 = .ok (.iload_n 2, 1) := by decide +kernel
theorem dX9_skipWord_15 : decode cX9_skipWord 15 = .ok (.ireturn, 1) := by decide +kernel
theorem hcX9_skipWord : yX9_skipWord.cls ≠ "java/lang/invoke/MethodHandle" ∧ yX9_skipWord.cls ≠ "java/lang/invoke/VarHandle" ∧ (parseMethodDescriptor yX9_skipWord.desc).map (fun d => d.parameters.length) = some 1 := ⟨by decide +kernel, by decide +kernel, by decide +kernel⟩
def fX9_skipWord (s0 : sg_M) (w1 : Nat) (Q : Int → sg_M → Prop) : Prop := fX9_isWord s0 w1 (fun u1 => ((u1 = 0 → Q u1 s0) ∧ (¬ (u1 = 0) → fX9_advance s0 (fun s4 => Q u1 s4))))
set_option maxHeartbeats 4000000 in
set_option maxRecDepth 100000 in
theorem CX9_skipWord {l : Launch} {G : sg_G} {La : sg_L} {s0 : sg_M} (hst : sg_St La) {w1 : Nat} (hw1 : w1 < 25) {Q : Int → sg_M → Prop} (hf : fX9_skipWord s0 w1 Q) : sg_C l G yX9_skipWord cX9_skipWord 3 (some .boolean) 6 0 0 La s0 [sg_r 3, sg_a (G.2.2.1 w1)] (sg_HZ La Q) := by
  refine sg_body (by decide +kernel) (Nat.le_of_ble_eq_true rfl) ?_
  intro p e s m args below meth c F hnm
  unfold fX9_skipWord at hf
  show sg_W p l e (sg_rm 6 0 0) s m args below meth c (MQ below (sg_Q (some .boolean) G La s.heap.size (sg_HZ La Q)) args s 0 0 (sg_A La s.heap.size)) 3 G (sg_A La s.heap.size) La s0 0 0 0 [(0, sg_r 3), (1, sg_a (G.2.2.1 w1))] []
  refine gw_aload_n F 0 rfl rfl (by decide) dX9_skipWord_0 ?_
  refine gw_aload_na F 1 rfl rfl dX9_skipWord_1 ?_
  refine gk_PZ F (gc_V F (S := []) (As := [sg_a (G.2.2.1 w1)]) (T := TX9) (N := 8) (CX9_isWord hst hw1 hf) (so_3 hst) (by decide) rfl kw_403 kw_92 kw_400 kw_401 kw_402 hcX9_isWord ⟨by decide, by decide⟩ rfl rfl (Nat.le_of_ble_eq_true rfl) ⟨by decide, by decide⟩ dX9_skipWord_2) (fun u1 h2 hf => ?_)
  refine gw_istore_n F rfl (by decide) rfl dX9_skipWord_5 ?_
  refine gw_iload_n F 0 rfl rfl dX9_skipWord_6 ?_
  refine gw_if_eq F (tgt := 14) dX9_skipWord_7 (by decide) (sg_B_R h2) (fun c3 => ?_) (fun c3 => ?_)
  · have hf := hf.1 c3
    refine gw_iload_n F 0 rfl rfl dX9_skipWord_14 ?_
    exact gr_HZ F h2 hf (by decide) (by decide) dX9_skipWord_15
  · have hf := hf.2 c3
    refine gw_aload_n F 1 rfl rfl (by decide) dX9_skipWord_10 ?_
    refine gk_HV F (gc_V F (S := []) (As := []) (T := TX9) (N := 8) (CX9_advance hst hf) (so_3 hst) (by decide) rfl kw_368 kw_92 kw_365 kw_366 kw_367 hcX9_advance ⟨by decide, by decide⟩ rfl rfl (Nat.le_of_ble_eq_true rfl) ⟨by decide, by decide⟩ dX9_skipWord_11) (fun s4 hf => ?_)
    refine gw_iload_n F 0 rfl rfl dX9_skipWord_14 ?_
    exact gr_HZ F h2 hf (by decide) (by decide) dX9_skipWord_15

theorem dX9_mustBeWord_0 : decode cX9_mustBeWord 0 = .ok (.aload_n 0, 1) := by decide +kernel
theorem dX9_mustBeWord_1 : decode cX9_mustBeWord 1 = .ok (.aload_n 1, 1) := by decide +kernel
theorem dX9_mustBeWord_2 : decode cX9_mustBeWord 2 = .ok (.invokevirtual 85, 3) := by decide +kernel
theorem dX9_mustBeWord_5 : decode cX9_mustBeWord 5 = .ok (.ifCond .ne 8, 3) := by decide +kernel
theorem dX9_mustBeWord_8 : decode cX9_mustBeWord 8 = .ok (.aload_n 0, 1) := by decide +kernel
theorem dX9_mustBeWord_9 : decode cX9_mustBeWord 9 = .ok (.iconst 1, 1) := by decide +kernel
theorem dX9_mustBeWord_10 : decode cX9_mustBeWord 10 = .ok (.invokevirtual 81, 3) := by decide +kernel
theorem dX9_mustBeWord_13 : decode cX9_mustBeWord 13 = .ok (.return_, 1) := by decide +kernel
theorem hcX9_mustBeWord : yX9_mustBeWord.cls ≠ "java/lang/invoke/MethodHandle" ∧ yX9_mustBeWord.cls ≠ "java/lang/invoke/VarHandle" ∧ (parseMethodDescriptor yX9_mustBeWord.desc).map (fun d => d.parameters.length) = some 1 := ⟨by decide +kernel, by decide +kernel, by decide +kernel⟩
def fX9_mustBeWord (s0 : sg_M) (w1 : Nat) (Q : sg_M → Prop) : Prop := fX9_skipWord s0 w1 (fun u1 s3 => ((u1 ≠ 0 → Q s3) ∧ (u1 = 0 → fX9_fail s3 1 (fun s5 => Q s5))))
set_option maxHeartbeats 4000000 in
set_option maxRecDepth 100000 in
theorem CX9_mustBeWord {l : Launch} {G : sg_G} {La : sg_L} {s0 : sg_M} (hst : sg_St La) {w1 : Nat} (hw1 : w1 < 25) {Q : sg_M → Prop} (hf : fX9_mustBeWord s0 w1 Q) : sg_C l G yX9_mustBeWord cX9_mustBeWord 2 (none) 7 0 0 La s0 [sg_r 3, sg_a (G.2.2.1 w1)] (sg_HV La Q) := by
  refine sg_body (by decide +kernel) (Nat.le_of_ble_eq_true rfl) ?_
  intro p e s m args below meth c F hnm
  unfold fX9_mustBeWord at hf
  show sg_W p l e (sg_rm 7 0 0) s m args below meth c (MQ below (sg_Q (none) G La s.heap.size (sg_HV La Q)) args s 0 0 (sg_A La s.heap.size)) 2 G (sg_A La s.heap.size) La s0 0 0 0 [(0, sg_r 3), (1, sg_a (G.2.2.1 w1))] []
  refine gw_aload_n F 0 rfl rfl (by decide) dX9_mustBeWord_0 ?_
  refine gw_aload_na F 1 rfl rfl dX9_mustBeWord_1 ?_
  refine gk_HZ F (gc_V F (S := []) (As := [sg_a (G.2.2.1 w1)]) (T := TX9) (N := 8) (CX9_skipWord hst hw1 hf) (so_3 hst) (by decide) rfl kw_399 kw_92 kw_620 kw_397 kw_398 hcX9_skipWord ⟨by decide, by decide⟩ rfl rfl (Nat.le_of_ble_eq_true rfl) ⟨by decide, by decide⟩ dX9_mustBeWord_2) (fun u1 s3 h2 hf => ?_)
  refine gw_if_ne F (tgt := 13) dX9_mustBeWord_5 (by decide) (sg_B_R h2) (fun c4 => ?_) (fun c4 => ?_)
  · have hf := hf.1 c4
    exact gr_HV F hf (by decide) (by decide) dX9_mustBeWord_13
  · have hf := hf.2 c4
    refine gw_aload_n F 0 rfl rfl (by decide) dX9_mustBeWord_8 ?_
    refine gw_iconst F dX9_mustBeWord_9 ?_
    refine gk_HV F (gc_V F (S := []) (As := [sg_i 1]) (T := TX9) (N := 8) (CX9_fail hst (by decide) hf) (so_3 hst) (by decide) rfl kw_457 kw_92 kw_454 kw_455 kw_456 hcX9_fail ⟨by decide, by decide⟩ rfl rfl (Nat.le_of_ble_eq_true rfl) ⟨by decide, by decide⟩ dX9_mustBeWord_10) (fun s5 hf => ?_)
    exact gr_HV F hf (by decide) (by decide) dX9_mustBeWord_13

theorem dX9_skipSign_0 : decode cX9_skipSign 0 = .ok (.aload_n 0, 1) := by decide +kernel
theorem dX9_skipSign_1 : decode cX9_skipSign 1 = .ok (.iload_n 1, 1) := by decide +kernel
theorem dX9_skipSign_2 : decode cX9_skipSign 2 = .ok (.invokevirtual 75, 3) := by decide +kernel
theorem dX9_skipSign_5 : decode cX9_skipSign 5 = .ok (.istore_n 2, 1) := by decide +kernel
theorem dX9_skipSign_6 : decode cX9_skipSign 6 = .ok (.iload_n 2, 1) := by decide +kernel
theorem dX9_skipSign_7 : decode cX9_skipSign 7 = .ok (.ifCond .eq 7, 3) := by decide +kernel
theorem dX9_skipSign_10 : decode cX9_skipSign 10 = .ok (.aload_n 0, 1) := by decide +kernel
theorem dX9_skipSign_11 : decode cX9_skipSign 11 = .ok (.invokevirtual 35, 3) := by decide +kernel
theorem dX9_skipSign_14 : decode cX9_skipSign 14 = .ok (.iload_n 2, 1) := by decide +kernel
theorem dX9_skipSign_15 : decode cX9_skipSign 15 = .ok (.ireturn, 1) := by decide +kernel
theorem hcX9_skipSign : yX9_skipSign.cls ≠ "java/lang/invoke/MethodHandle" ∧ yX9_skipSign.cls ≠ "java/lang/invoke/VarHandle" ∧ (parseMethodDescriptor yX9_skipSign.desc).map (fun d => d.parameters.length) = some 1 := ⟨by decide +kernel, by decide +kernel, by decide +kernel⟩
def fX9_skipSign (s0 : sg_M) (x1 : Int) (Q : Int → sg_M → Prop) : Prop := fX9_isSign s0 x1 (fun u1 => ((u1 = 0 → Q u1 s0) ∧ (¬ (u1 = 0) → fX9_advance s0 (fun s4 => Q u1 s4))))
set_option maxHeartbeats 4000000 in
set_option maxRecDepth 100000 in
theorem CX9_skipSign {l : Launch} {G : sg_G} {La : sg_L} {s0 : sg_M} (hst : sg_St La) {x1 : Int} (r1 : sg_R x1) {Q : Int → sg_M → Prop} (hf : fX9_skipSign s0 x1 Q) : sg_C l G yX9_skipSign cX9_skipSign 3 (some .boolean) 3 0 0 La s0 [sg_r 3, sg_i x1] (sg_HZ La Q) := by
  refine sg_body (by decide +kernel) (Nat.le_of_ble_eq_true rfl) ?_
  intro p e s m args below meth c F hnm
  unfold fX9_skipSign at hf
  show sg_W p l e (sg_rm 3 0 0) s m args below meth c (MQ below (sg_Q (some .boolean) G La s.heap.size (sg_HZ La Q)) args s 0 0 (sg_A La s.heap.size)) 3 G (sg_A La s.heap.size) La s0 0 0 0 [(0, sg_r 3), (1, sg_i x1)] []
  refine gw_aload_n F 0 rfl rfl (by decide) dX9_skipSign_0 ?_
  refine gw_iload_n F 1 rfl rfl dX9_skipSign_1 ?_
  refine gk_PZ F (gc_V F (S := []) (As := [sg_i x1]) (T := TX9) (N := 8) (CX9_isSign hst r1 hf) (so_3 hst) (by decide) rfl kw_468 kw_92 kw_465 kw_466 kw_467 hcX9_isSign ⟨by decide, by decide⟩ rfl rfl (Nat.le_of_ble_eq_true rfl) ⟨by decide, by decide⟩ dX9_skipSign_2) (fun u1 h2 hf => ?_)
  refine gw_istore_n F rfl (by decide) rfl dX9_skipSign_5 ?_
  refine gw_iload_n F 0 rfl rfl dX9_skipSign_6 ?_
  refine gw_if_eq F (tgt := 14) dX9_skipSign_7 (by decide) (sg_B_R h2) (fun c3 => ?_) (fun c3 => ?_)
  · have hf := hf.1 c3
    refine gw_iload_n F 0 rfl rfl dX9_skipSign_14 ?_
    exact gr_HZ F h2 hf (by decide) (by decide) dX9_skipSign_15
  · have hf := hf.2 c3
    refine gw_aload_n F 1 rfl rfl (by decide) dX9_skipSign_10 ?_
    refine gk_HV F (gc_V F (S := []) (As := []) (T := TX9) (N := 8) (CX9_advance hst hf) (so_3 hst) (by decide) rfl kw_368 kw_92 kw_365 kw_366 kw_367 hcX9_advance ⟨by decide, by decide⟩ rfl rfl (Nat.le_of_ble_eq_true rfl) ⟨by decide, by decide⟩ dX9_skipSign_11) (fun s4 hf => ?_)
    refine gw_iload_n F 0 rfl rfl dX9_skipSign_14 ?_
    exact gr_HZ F h2 hf (by decide) (by decide) dX9_skipSign_15

theorem dX3_readMove_0 : decode cX3_readMove 0 = .ok (.aload_n 1, 1) := by decide +kernel
theorem dX3_readMove_1 : decode cX3_readMove 1 = .ok (.ldc 42, 2) := by decide +kernel
theorem dX3_readMove_3 : decode cX3_readMove 3 = .ok (.invokevirtual 44, 3) := by decide +kernel
theorem dX3_readMove_6 : decode cX3_readMove 6 = .ok (.ifCond .eq 54, 3) := by decide +kernel
theorem dX3_readMove_9 : decode cX3_readMove 9 = .ok (.aload_n 0, 1) := by decide +kernel
theorem dX3_readMove_10 : decode cX3_readMove 10 = .ok (.aload_n 1, 1) := by decide +kernel
theorem dX3_readMove_11 : decode cX3_readMove 11 = .ok (.bipush 45, 2) := by decide +kernel
theorem dX3_readMove_13 : decode cX3_readMove 13 = .ok (.invokevirtual 48, 3) := by decide +kernel
theorem dX3_readMove_16 : decode cX3_readMove 16 = .ok (.aload_n 1, 1) := by decide +kernel
theorem dX3_readMove_17 : decode cX3_readMove 17 = .ok (.iconst 0, 1) := by decide +kernel
theorem dX3_readMove_18 : decode cX3_readMove 18 = .ok (.sipush 9999, 3) := by decide +kernel
theorem dX3_readMove_21 : decode cX3_readMove 21 = .ok (.sipush 9999, 3) := by decide +kernel
theorem dX3_readMove_24 : decode cX3_readMove 24 = .ok (.invokevirtual 52, 3) := by decide +kernel
theorem dX3_readMove_27 : decode cX3_readMove 27 = .ok (.invokestatic 56, 3) := by decide +kernel
theorem dX3_readMove_30 : decode cX3_readMove 30 = .ok (.putfield 22, 3) := by decide +kernel
theorem dX3_readMove_33 : decode cX3_readMove 33 = .ok (.aload_n 0, 1) := by decide +kernel
theorem dX3_readMove_34 : decode cX3_readMove 34 = .ok (.aload_n 1, 1) := by decide +kernel
theorem dX3_readMove_35 : decode cX3_readMove 35 = .ok (.bipush 45, 2) := by decide +kernel
theorem dX3_readMove_37 : decode cX3_readMove 37 = .ok (.invokevirtual 48, 3) := by decide +kernel
theorem dX3_readMove_40 : decode cX3_readMove 40 = .ok (.aload_n 1, 1) := by decide +kernel
theorem dX3_readMove_41 : decode cX3_readMove 41 = .ok (.iconst 0, 1) := by decide +kernel
theorem dX3_readMove_42 : decode cX3_readMove 42 = .ok (.sipush 9999, 3) := by decide +kernel
theorem dX3_readMove_45 : decode cX3_readMove 45 = .ok (.sipush 9999, 3) := by decide +kernel
theorem dX3_readMove_48 : decode cX3_readMove 48 = .ok (.invokevirtual 52, 3) := by decide +kernel
theorem dX3_readMove_51 : decode cX3_readMove 51 = .ok (.invokestatic 56, 3) := by decide +kernel
theorem dX3_readMove_54 : decode cX3_readMove 54 = .ok (.putfield 25, 3) := by decide +kernel
theorem dX3_readMove_57 : decode cX3_readMove 57 = .ok (.goto 148, 3) := by decide +kernel
theorem dX3_readMove_60 : decode cX3_readMove 60 = .ok (.aload_n 1, 1) := by decide +kernel
theorem dX3_readMove_61 : decode cX3_readMove 61 = .ok (.ldc 60, 2) := by decide +kernel
theorem dX3_readMove_63 : decode cX3_readMove 63 = .ok (.invokevirtual 44, 3) := by decide +kernel
theorem dX3_readMove_66 : decode cX3_readMove 66 = .ok (.ifCond .eq 65, 3) := by decide +kernel
theorem dX3_readMove_69 : decode cX3_readMove 69 = .ok (.aload_n 1, 1) := by decide +kernel
theorem dX3_readMove_70 : decode cX3_readMove 70 = .ok (.bipush 45, 2) := by decide +kernel
theorem dX3_readMove_72 : decode cX3_readMove 72 = .ok (.invokevirtual 48, 3) := by decide +kernel
theorem dX3_readMove_75 : decode cX3_readMove 75 = .ok (.aload_n 1, 1) := by decide +kernel
theorem dX3_readMove_76 : decode cX3_readMove 76 = .ok (.iconst 0, 1) := by decide +kernel
theorem dX3_readMove_77 : decode cX3_readMove 77 = .ok (.sipush 9999, 3) := by decide +kernel
theorem dX3_readMove_80 : decode cX3_readMove 80 = .ok (.sipush 9999, 3) := by decide +kernel
theorem dX3_readMove_83 : decode cX3_readMove 83 = .ok (.invokevirtual 52, 3) := by decide +kernel
theorem dX3_readMove_86 : decode cX3_readMove 86 = .ok (.invokestatic 56, 3) := by decide +kernel
theorem dX3_readMove_89 : decode cX3_readMove 89 = .ok (.istore_n 2, 1) := by decide +kernel
theorem dX3_readMove_90 : decode cX3_readMove 90 = .ok (.aload_n 1, 1) := by decide +kernel
theorem dX3_readMove_91 : decode cX3_readMove 91 = .ok (.bipush 45, 2) := by decide +kernel
theorem dX3_readMove_93 : decode cX3_readMove 93 = .ok (.invokevirtual 48, 3) := by decide +kernel
theorem dX3_readMove_96 : decode cX3_readMove 96 = .ok (.aload_n 1, 1) := by decide +kernel
theorem dX3_readMove_97 : decode cX3_readMove 97 = .ok (.iconst 0, 1) := by decide +kernel
theorem dX3_readMove_98 : decode cX3_readMove 98 = .ok (.sipush 9999, 3) := by decide +kernel
theorem dX3_readMove_101 : decode cX3_readMove 101 = .ok (.sipush 9999, 3) := by decide +kernel
theorem dX3_readMove_104 : decode cX3_readMove 104 = .ok (.invokevirtual 52, 3) := by decide +kernel
theorem dX3_readMove_107 : decode cX3_readMove 107 = .ok (.invokestatic 56, 3) := by decide +kernel
theorem dX3_readMove_110 : decode cX3_readMove 110 = .ok (.istore_n 3, 1) := by decide +kernel
theorem dX3_readMove_111 : decode cX3_readMove 111 = .ok (.aload_n 1, 1) := by decide +kernel
theorem dX3_readMove_112 : decode cX3_readMove 112 = .ok (.ldc 62, 2) := by decide +kernel
theorem dX3_readMove_114 : decode cX3_readMove 114 = .ok (.invokevirtual 64, 3) := by decide +kernel
theorem dX3_readMove_117 : decode cX3_readMove 117 = .ok (.aload_n 0, 1) := by decide +kernel
theorem dX3_readMove_118 : decode cX3_readMove 118 = .ok (.iload_n 2, 1) := by decide +kernel
theorem dX3_readMove_119 : decode cX3_readMove 119 = .ok (.iload_n 3, 1) := by decide +kernel
theorem dX3_readMove_120 : decode cX3_readMove 120 = .ok (.aload_n 0, 1) := by decide +kernel
theorem dX3_readMove_121 : decode cX3_readMove 121 = .ok (.aload_n 1, 1) := by decide +kernel
theorem dX3_readMove_122 : decode cX3_readMove 122 = .ok (.invokevirtual 68, 3) := by decide +kernel
theorem dX3_readMove_125 : decode cX3_readMove 125 = .ok (.invokevirtual 72, 3) := by decide +kernel
theorem dX3_readMove_128 : decode cX3_readMove 128 = .ok (.goto 77, 3) := by decide +kernel
theorem dX3_readMove_131 : decode cX3_readMove 131 = .ok (.aload_n 1, 1) := by decide +kernel
theorem dX3_readMove_132 : decode cX3_readMove 132 = .ok (.ldc 76, 2) := by decide +kernel
theorem dX3_readMove_134 : decode cX3_readMove 134 = .ok (.invokevirtual 44, 3) := by decide +kernel
theorem dX3_readMove_137 : decode cX3_readMove 137 = .ok (.ifCond .eq 34, 3) := by decide +kernel
theorem dX3_readMove_140 : decode cX3_readMove 140 = .ok (.aload_n 1, 1) := by decide +kernel
theorem dX3_readMove_141 : decode cX3_readMove 141 = .ok (.iconst 0, 1) := by decide +kernel
theorem dX3_readMove_142 : decode cX3_readMove 142 = .ok (.sipush 999, 3) := by decide +kernel
theorem dX3_readMove_145 : decode cX3_readMove 145 = .ok (.sipush 999, 3) := by decide +kernel
theorem dX3_readMove_148 : decode cX3_readMove 148 = .ok (.invokevirtual 52, 3) := by decide +kernel
theorem dX3_readMove_151 : decode cX3_readMove 151 = .ok (.istore_n 2, 1) := by decide +kernel
theorem dX3_readMove_152 : decode cX3_readMove 152 = .ok (.aload_n 1, 1) := by decide +kernel
theorem dX3_readMove_153 : decode cX3_readMove 153 = .ok (.ldc 62, 2) := by decide +kernel
theorem dX3_readMove_155 : decode cX3_readMove 155 = .ok (.invokevirtual 64, 3) := by decide +kernel
theorem dX3_readMove_158 : decode cX3_readMove 158 = .ok (.aload_n 0, 1) := by decide +kernel
theorem dX3_readMove_159 : decode cX3_readMove 159 = .ok (.iload_n 2, 1) := by decide +kernel
theorem dX3_readMove_160 : decode cX3_readMove 160 = .ok (.aload_n 0, 1) := by decide +kernel
theorem dX3_readMove_161 : decode cX3_readMove 161 = .ok (.aload_n 1, 1) := by decide +kernel
theorem dX3_readMove_162 : decode cX3_readMove 162 = .ok (.invokevirtual 68, 3) := by decide +kernel
theorem dX3_readMove_165 : decode cX3_readMove 165 = .ok (.invokevirtual 78, 3) := by decide +kernel
theorem dX3_readMove_168 : decode cX3_readMove 168 = .ok (.goto 37, 3) := by decide +kernel
theorem dX3_readMove_171 : decode cX3_readMove 171 = .ok (.aload_n 1, 1) := by decide +kernel
theorem dX3_readMove_172 : decode cX3_readMove 172 = .ok (.ldc 81, 2) := by decide +kernel
theorem dX3_readMove_174 : decode cX3_readMove 174 = .ok (.invokevirtual 44, 3) := by decide +kernel
theorem dX3_readMove_177 : decode cX3_readMove 177 = .ok (.ifCond .eq 23, 3) := by decide +kernel
theorem dX3_readMove_180 : decode cX3_readMove 180 = .ok (.aload_n 0, 1) := by decide +kernel
theorem dX3_readMove_181 : decode cX3_readMove 181 = .ok (.aload_n 0, 1) := by decide +kernel
theorem dX3_readMove_182 : decode cX3_readMove 182 = .ok (.getfield 22, 3) := by decide +kernel
theorem dX3_readMove_185 : decode cX3_readMove 185 = .ok (.aload_n 0, 1) := by decide +kernel
theorem dX3_readMove_186 : decode cX3_readMove 186 = .ok (.getfield 25, 3) := by decide +kernel
theorem dX3_readMove_189 : decode cX3_readMove 189 = .ok (.aload_n 0, 1) := by decide +kernel
theorem dX3_readMove_190 : decode cX3_readMove 190 = .ok (.aload_n 1, 1) := by decide +kernel
theorem dX3_readMove_191 : decode cX3_readMove 191 = .ok (.invokevirtual 68, 3) := by decide +kernel
theorem dX3_readMove_194 : decode cX3_readMove 194 = .ok (.invokevirtual 72, 3) := by decide +kernel
theorem dX3_readMove_197 : decode cX3_readMove 197 = .ok (.goto 8, 3) := by decide +kernel
theorem dX3_readMove_200 : decode cX3_readMove 200 = .ok (.aload_n 1, 1) := by decide +kernel
theorem dX3_readMove_201 : decode cX3_readMove 201 = .ok (.iconst 1, 1) := by decide +kernel
theorem dX3_readMove_202 : decode cX3_readMove 202 = .ok (.invokevirtual 83, 3) := by decide +kernel
theorem dX3_readMove_205 : decode cX3_readMove 205 = .ok (.return_, 1) := by decide +kernel
theorem hcX3_readMove : yX3_readMove.cls ≠ "java/lang/invoke/MethodHandle" ∧ yX3_readMove.cls ≠ "java/lang/invoke/VarHandle" ∧ (parseMethodDescriptor yX3_readMove.desc).map (fun d => d.parameters.length) = some 1 := ⟨by decide +kernel, by decide +kernel, by decide +kernel⟩
def fX3_readMove (s0 : sg_M) (o : Int) (Q : sg_M → Prop) : Prop := fX9_skipWord s0 5 (fun u1 s3 => ((u1 = 0 → fX9_skipWord s3 6 (fun u5 s7 => ((u5 = 0 → fX9_skipWord s7 8 (fun u9 s11 => ((u9 = 0 → fX9_skipWord s11 9 (fun u13 s15 => ((u13 = 0 → fX9_fail s15 1 (fun s17 => Q s17)) ∧ (¬ (u13 = 0) → fX3_readTicks s15 o (fun u20 s22 => fX3_move s22 o (s15 o 3) (s15 o 4) u20 (fun s23 => Q s23)))))) ∧ (¬ (u9 = 0) → fX9_number s11 0 999 999 (fun u24 s26 => fX9_mustBeWord s26 7 (fun s27 => fX3_readTicks s27 o (fun u28 s30 => fX3_shake s30 o u24 u28 (fun s31 => Q s31)))))))) ∧ (¬ (u5 = 0) → fX9_skipSign s7 45 (fun u32 s34 => fX9_number s34 0 9999 9999 (fun u35 s37 => fX11_signed u32 u35 (fun u38 => fX9_skipSign s37 45 (fun u40 s42 => fX9_number s42 0 9999 9999 (fun u43 s45 => fX11_signed u40 u43 (fun u46 => fX9_mustBeWord s45 7 (fun s48 => fX3_readTicks s48 o (fun u49 s51 => fX3_move s51 o u38 u46 u49 (fun s52 => Q s52))))))))))))) ∧ (¬ (u1 = 0) → fX9_skipSign s3 45 (fun u53 s55 => fX9_number s55 0 9999 9999 (fun u56 s58 => fX11_signed u53 u56 (fun u59 => ∀ s61 : sg_M, s61 = sg_up s58 o 3 u59 → fX9_skipSign s61 45 (fun u63 s65 => fX9_number s65 0 9999 9999 (fun u66 s68 => fX11_signed u63 u66 (fun u69 => ∀ s71 : sg_M, s71 = sg_up s68 o 4 u69 → Q s71)))))))))
set_option maxHeartbeats 4000000 in
set_option maxRecDepth 100000 in
theorem CX3_readMove {l : Launch} {G : sg_G} {La : sg_L} {s0 : sg_M} (hst : sg_St La) {o : Int} (to : sg_O La o 3) {Q : sg_M → Prop} (hf : fX3_readMove s0 o Q) : sg_C l G yX3_readMove cX3_readMove 4 (none) 8 0 0 La s0 [sg_r o, sg_r 3] (sg_HV La Q) := by
  refine sg_body (by decide +kernel) (Nat.le_of_ble_eq_true rfl) ?_
  intro p e s m args below meth c F hnm
  unfold fX3_readMove at hf
  show sg_W p l e (sg_rm 8 0 0) s m args below meth c (MQ below (sg_Q (none) G La s.heap.size (sg_HV La Q)) args s 0 0 (sg_A La s.heap.size)) 4 G (sg_A La s.heap.size) La s0 0 0 0 [(0, sg_r o), (1, sg_r 3)] []
  refine gw_aload_n F 1 rfl rfl (by decide) dX3_readMove_0 ?_
  refine gw_ldcS F (i := 5) rfl dX3_readMove_1 ?_
  refine gk_HZ F (gc_V F (S := []) (As := [sg_a (G.2.2.1 5)]) (T := TX9) (N := 8) (CX9_skipWord hst (by decide) hf) (so_3 hst) (by decide) rfl kw_399 kw_92 kw_612 kw_397 kw_398 hcX9_skipWord ⟨by decide, by decide⟩ rfl rfl (Nat.le_of_ble_eq_true rfl) ⟨by decide, by decide⟩ dX3_readMove_3) (fun u1 s3 h2 hf => ?_)
  refine gw_if_eq F (tgt := 60) dX3_readMove_6 (by decide) (sg_B_R h2) (fun c4 => ?_) (fun c4 => ?_)
  · have hf := hf.1 c4
    refine gw_aload_n F 1 rfl rfl (by decide) dX3_readMove_60 ?_
    refine gw_ldcS F (i := 6) rfl dX3_readMove_61 ?_
    refine gk_HZ F (gc_V F (S := []) (As := [sg_a (G.2.2.1 6)]) (T := TX9) (N := 8) (CX9_skipWord hst (by decide) hf) (so_3 hst) (by decide) rfl kw_399 kw_92 kw_612 kw_397 kw_398 hcX9_skipWord ⟨by decide, by decide⟩ rfl rfl (Nat.le_of_ble_eq_true rfl) ⟨by decide, by decide⟩ dX3_readMove_63) (fun u5 s7 h6 hf => ?_)
    refine gw_if_eq F (tgt := 131) dX3_readMove_66 (by decide) (sg_B_R h6) (fun c8 => ?_) (fun c8 => ?_)
    · have hf := hf.1 c8
      refine gw_aload_n F 1 rfl rfl (by decide) dX3_readMove_131 ?_
      refine gw_ldcS F (i := 8) rfl dX3_readMove_132 ?_
      refine gk_HZ F (gc_V F (S := []) (As := [sg_a (G.2.2.1 8)]) (T := TX9) (N := 8) (CX9_skipWord hst (by decide) hf) (so_3 hst) (by decide) rfl kw_399 kw_92 kw_612 kw_397 kw_398 hcX9_skipWord ⟨by decide, by decide⟩ rfl rfl (Nat.le_of_ble_eq_true rfl) ⟨by decide, by decide⟩ dX3_readMove_134) (fun u9 s11 h10 hf => ?_)
      refine gw_if_eq F (tgt := 171) dX3_readMove_137 (by decide) (sg_B_R h10) (fun c12 => ?_) (fun c12 => ?_)
      · have hf := hf.1 c12
        refine gw_aload_n F 1 rfl rfl (by decide) dX3_readMove_171 ?_
        refine gw_ldcS F (i := 9) rfl dX3_readMove_172 ?_
        refine gk_HZ F (gc_V F (S := []) (As := [sg_a (G.2.2.1 9)]) (T := TX9) (N := 8) (CX9_skipWord hst (by decide) hf) (so_3 hst) (by decide) rfl kw_399 kw_92 kw_612 kw_397 kw_398 hcX9_skipWord ⟨by decide, by decide⟩ rfl rfl (Nat.le_of_ble_eq_true rfl) ⟨by decide, by decide⟩ dX3_readMove_174) (fun u13 s15 h14 hf => ?_)
        refine gw_if_eq F (tgt := 200) dX3_readMove_177 (by decide) (sg_B_R h14) (fun c16 => ?_) (fun c16 => ?_)
        · have hf := hf.1 c16
          refine gw_aload_n F 1 rfl rfl (by decide) dX3_readMove_200 ?_
          refine gw_iconst F dX3_readMove_201 ?_
          refine gk_HV F (gc_V F (S := []) (As := [sg_i 1]) (T := TX9) (N := 8) (CX9_fail hst (by decide) hf) (so_3 hst) (by decide) rfl kw_457 kw_92 kw_634 kw_455 kw_456 hcX9_fail ⟨by decide, by decide⟩ rfl rfl (Nat.le_of_ble_eq_true rfl) ⟨by decide, by decide⟩ dX3_readMove_202) (fun s17 hf => ?_)
          exact gr_HV F hf (by decide) (by decide) dX3_readMove_205
        · have hf := hf.2 c16
          refine gw_aload_n F 0 rfl rfl to.1 dX3_readMove_180 ?_
          refine gw_aload_n F 0 rfl rfl to.1 dX3_readMove_181 ?_
          refine gw_get0 F to (by decide) rfl sg_lay_RX3 (j := 3) (by decide) rfl (host := "") (.inl kw_182) dX3_readMove_182 (fun h18 => ?_)
          refine gw_aload_n F 0 rfl rfl to.1 dX3_readMove_185 ?_
          refine gw_get0 F to (by decide) rfl sg_lay_RX3 (j := 4) (by decide) rfl (host := "") (.inl kw_183) dX3_readMove_186 (fun h19 => ?_)
          refine gw_aload_n F 0 rfl rfl to.1 dX3_readMove_189 ?_
          refine gw_aload_n F 1 rfl rfl (by decide) dX3_readMove_190 ?_
          refine gk_HI F (gc_V F (S := [sg_i (s15 o 4), sg_i (s15 o 3), sg_r o]) (As := [sg_r 3]) (T := TX3) (N := 5) (CX3_readTicks hst to hf) to (by decide) rfl kw_623 kw_95 kw_621 kw_622 kw_15 hcX3_readTicks ⟨by decide, by decide⟩ rfl rfl (Nat.le_of_ble_eq_true rfl) ⟨by decide, by decide⟩ dX3_readMove_191) (fun u20 s22 h21 hf => ?_)
          refine gk_HV F (gc_V F (S := []) (As := [sg_i (s15 o 3), sg_i (s15 o 4), sg_i u20]) (T := TX3) (N := 5) (CX3_move to h18 h19 h21 hf) to (by decide) rfl kw_626 kw_95 kw_624 kw_625 kw_16 hcX3_move ⟨by decide, by decide⟩ rfl rfl (Nat.le_of_ble_eq_true rfl) ⟨by decide, by decide⟩ dX3_readMove_194) (fun s23 hf => ?_)
          refine gw_goto F (tgt := 205) dX3_readMove_197 (by decide) ?_
          exact gr_HV F hf (by decide) (by decide) dX3_readMove_205
      · have hf := hf.2 c12
        refine gw_aload_n F 1 rfl rfl (by decide) dX3_readMove_140 ?_
        refine gw_iconst F dX3_readMove_141 ?_
        refine gw_sipush F rfl dX3_readMove_142 ?_
        refine gw_sipush F rfl dX3_readMove_145 ?_
        refine gk_HI F (gc_V F (S := []) (As := [sg_i 0, sg_i 999, sg_i 999]) (T := TX9) (N := 8) (CX9_number hst (by decide) (by decide) (by decide) hf) (so_3 hst) (by decide) rfl kw_453 kw_92 kw_614 kw_451 kw_452 hcX9_number ⟨by decide, by decide⟩ rfl rfl (Nat.le_of_ble_eq_true rfl) ⟨by decide, by decide⟩ dX3_readMove_148) (fun u24 s26 h25 hf => ?_)
        refine gw_istore_n F rfl (by decide) rfl dX3_readMove_151 ?_
        refine gw_aload_n F 2 rfl rfl (by decide) dX3_readMove_152 ?_
        refine gw_ldcS F (i := 7) rfl dX3_readMove_153 ?_
        refine gk_HV F (gc_V F (S := []) (As := [sg_a (G.2.2.1 7)]) (T := TX9) (N := 8) (CX9_mustBeWord hst (by decide) hf) (so_3 hst) (by decide) rfl kw_619 kw_92 kw_616 kw_617 kw_618 hcX9_mustBeWord ⟨by decide, by decide⟩ rfl rfl (Nat.le_of_ble_eq_true rfl) ⟨by decide, by decide⟩ dX3_readMove_155) (fun s27 hf => ?_)
        refine gw_aload_n F 1 rfl rfl to.1 dX3_readMove_158 ?_
        refine gw_iload_n F 0 rfl rfl dX3_readMove_159 ?_
        refine gw_aload_n F 1 rfl rfl to.1 dX3_readMove_160 ?_
        refine gw_aload_n F 2 rfl rfl (by decide) dX3_readMove_161 ?_
        refine gk_HI F (gc_V F (S := [sg_i u24, sg_r o]) (As := [sg_r 3]) (T := TX3) (N := 5) (CX3_readTicks hst to hf) to (by decide) rfl kw_623 kw_95 kw_621 kw_622 kw_15 hcX3_readTicks ⟨by decide, by decide⟩ rfl rfl (Nat.le_of_ble_eq_true rfl) ⟨by decide, by decide⟩ dX3_readMove_162) (fun u28 s30 h29 hf => ?_)
        refine gk_HV F (gc_V F (S := []) (As := [sg_i u24, sg_i u28]) (T := TX3) (N := 5) (CX3_shake to h25 h29 hf) to (by decide) rfl kw_632 kw_95 kw_630 kw_631 kw_18 hcX3_shake ⟨by decide, by decide⟩ rfl rfl (Nat.le_of_ble_eq_true rfl) ⟨by decide, by decide⟩ dX3_readMove_165) (fun s31 hf => ?_)
        refine gw_goto F (tgt := 205) dX3_readMove_168 (by decide) ?_
        exact gr_HV F hf (by decide) (by decide) dX3_readMove_205
    · have hf := hf.2 c8
      refine gw_aload_n F 1 rfl rfl (by decide) dX3_readMove_69 ?_
      refine gw_bipush F rfl dX3_readMove_70 ?_
      refine gk_HZ F (gc_V F (S := []) (As := [sg_i 45]) (T := TX9) (N := 8) (CX9_skipSign hst (by decide) hf) (so_3 hst) (by decide) rfl kw_464 kw_92 kw_613 kw_462 kw_463 hcX9_skipSign ⟨by decide, by decide⟩ rfl rfl (Nat.le_of_ble_eq_true rfl) ⟨by decide, by decide⟩ dX3_readMove_72) (fun u32 s34 h33 hf => ?_)
      refine gw_aload_n F 1 rfl rfl (by decide) dX3_readMove_75 ?_
      refine gw_iconst F dX3_readMove_76 ?_
      refine gw_sipush F rfl dX3_readMove_77 ?_
      refine gw_sipush F rfl dX3_readMove_80 ?_
      refine gk_HI F (gc_V F (S := [sg_i u32]) (As := [sg_i 0, sg_i 9999, sg_i 9999]) (T := TX9) (N := 8) (CX9_number hst (by decide) (by decide) (by decide) hf) (so_3 hst) (by decide) rfl kw_453 kw_92 kw_614 kw_451 kw_452 hcX9_number ⟨by decide, by decide⟩ rfl rfl (Nat.le_of_ble_eq_true rfl) ⟨by decide, by decide⟩ dX3_readMove_83) (fun u35 s37 h36 hf => ?_)
      refine gk_PI F (gc_SN F (S := []) (As := [sg_i u32, sg_i u35]) (CX11_signed h33 h36 hf) kw_471 kw_90 kw_615 kw_470 hcX11_signed ⟨by decide, by decide⟩ rfl rfl (Nat.le_of_ble_eq_true rfl) ⟨by decide, by decide⟩ dX3_readMove_86) (fun u38 h39 hf => ?_)
      refine gw_istore_n F rfl (by decide) rfl dX3_readMove_89 ?_
      refine gw_aload_n F 2 rfl rfl (by decide) dX3_readMove_90 ?_
      refine gw_bipush F rfl dX3_readMove_91 ?_
      refine gk_HZ F (gc_V F (S := []) (As := [sg_i 45]) (T := TX9) (N := 8) (CX9_skipSign hst (by decide) hf) (so_3 hst) (by decide) rfl kw_464 kw_92 kw_613 kw_462 kw_463 hcX9_skipSign ⟨by decide, by decide⟩ rfl rfl (Nat.le_of_ble_eq_true rfl) ⟨by decide, by decide⟩ dX3_readMove_93) (fun u40 s42 h41 hf => ?_)
      refine gw_aload_n F 2 rfl rfl (by decide) dX3_readMove_96 ?_
      refine gw_iconst F dX3_readMove_97 ?_
      refine gw_sipush F rfl dX3_readMove_98 ?_
      refine gw_sipush F rfl dX3_readMove_101 ?_
      refine gk_HI F (gc_V F (S := [sg_i u40]) (As := [sg_i 0, sg_i 9999, sg_i 9999]) (T := TX9) (N := 8) (CX9_number hst (by decide) (by decide) (by decide) hf) (so_3 hst) (by decide) rfl kw_453 kw_92 kw_614 kw_451 kw_452 hcX9_number ⟨by decide, by decide⟩ rfl rfl (Nat.le_of_ble_eq_true rfl) ⟨by decide, by decide⟩ dX3_readMove_104) (fun u43 s45 h44 hf => ?_)
      refine gk_PI F (gc_SN F (S := []) (As := [sg_i u40, sg_i u43]) (CX11_signed h41 h44 hf) kw_471 kw_90 kw_615 kw_470 hcX11_signed ⟨by decide, by decide⟩ rfl rfl (Nat.le_of_ble_eq_true rfl) ⟨by decide, by decide⟩ dX3_readMove_107) (fun u46 h47 hf => ?_)
      refine gw_istore_n F rfl (by decide) rfl dX3_readMove_110 ?_
      refine gw_aload_n F 3 rfl rfl (by decide) dX3_readMove_111 ?_
      refine gw_ldcS F (i := 7) rfl dX3_readMove_112 ?_
      refine gk_HV F (gc_V F (S := []) (As := [sg_a (G.2.2.1 7)]) (T := TX9) (N := 8) (CX9_mustBeWord hst (by decide) hf) (so_3 hst) (by decide) rfl kw_619 kw_92 kw_616 kw_617 kw_618 hcX9_mustBeWord ⟨by decide, by decide⟩ rfl rfl (Nat.le_of_ble_eq_true rfl) ⟨by decide, by decide⟩ dX3_readMove_114) (fun s48 hf => ?_)
      refine gw_aload_n F 2 rfl rfl to.1 dX3_readMove_117 ?_
      refine gw_iload_n F 1 rfl rfl dX3_readMove_118 ?_
      refine gw_iload_n F 0 rfl rfl dX3_readMove_119 ?_
      refine gw_aload_n F 2 rfl rfl to.1 dX3_readMove_120 ?_
      refine gw_aload_n F 3 rfl rfl (by decide) dX3_readMove_121 ?_
      refine gk_HI F (gc_V F (S := [sg_i u46, sg_i u38, sg_r o]) (As := [sg_r 3]) (T := TX3) (N := 5) (CX3_readTicks hst to hf) to (by decide) rfl kw_623 kw_95 kw_621 kw_622 kw_15 hcX3_readTicks ⟨by decide, by decide⟩ rfl rfl (Nat.le_of_ble_eq_true rfl) ⟨by decide, by decide⟩ dX3_readMove_122) (fun u49 s51 h50 hf => ?_)
      refine gk_HV F (gc_V F (S := []) (As := [sg_i u38, sg_i u46, sg_i u49]) (T := TX3) (N := 5) (CX3_move to h39 h47 h50 hf) to (by decide) rfl kw_626 kw_95 kw_624 kw_625 kw_16 hcX3_move ⟨by decide, by decide⟩ rfl rfl (Nat.le_of_ble_eq_true rfl) ⟨by decide, by decide⟩ dX3_readMove_125) (fun s52 hf => ?_)
      refine gw_goto F (tgt := 205) dX3_readMove_128 (by decide) ?_
      exact gr_HV F hf (by decide) (by decide) dX3_readMove_205
  · have hf := hf.2 c4
    refine gw_aload_n F 0 rfl rfl to.1 dX3_readMove_9 ?_
    refine gw_aload_n F 1 rfl rfl (by decide) dX3_readMove_10 ?_
    refine gw_bipush F rfl dX3_readMove_11 ?_
    refine gk_HZ F (gc_V F (S := [sg_r o]) (As := [sg_i 45]) (T := TX9) (N := 8) (CX9_skipSign hst (by decide) hf) (so_3 hst) (by decide) rfl kw_464 kw_92 kw_613 kw_462 kw_463 hcX9_skipSign ⟨by decide, by decide⟩ rfl rfl (Nat.le_of_ble_eq_true rfl) ⟨by decide, by decide⟩ dX3_readMove_13) (fun u53 s55 h54 hf => ?_)
    refine gw_aload_n F 1 rfl rfl (by decide) dX3_readMove_16 ?_
    refine gw_iconst F dX3_readMove_17 ?_
    refine gw_sipush F rfl dX3_readMove_18 ?_
    refine gw_sipush F rfl dX3_readMove_21 ?_
    refine gk_HI F (gc_V F (S := [sg_i u53, sg_r o]) (As := [sg_i 0, sg_i 9999, sg_i 9999]) (T := TX9) (N := 8) (CX9_number hst (by decide) (by decide) (by decide) hf) (so_3 hst) (by decide) rfl kw_453 kw_92 kw_614 kw_451 kw_452 hcX9_number ⟨by decide, by decide⟩ rfl rfl (Nat.le_of_ble_eq_true rfl) ⟨by decide, by decide⟩ dX3_readMove_24) (fun u56 s58 h57 hf => ?_)
    refine gk_PI F (gc_SN F (S := [sg_r o]) (As := [sg_i u53, sg_i u56]) (CX11_signed h54 h57 hf) kw_471 kw_90 kw_615 kw_470 hcX11_signed ⟨by decide, by decide⟩ rfl rfl (Nat.le_of_ble_eq_true rfl) ⟨by decide, by decide⟩ dX3_readMove_27) (fun u59 h60 hf => ?_)
    obtain ⟨s61, e62⟩ : ∃ z : sg_M, z = sg_up s58 o 3 u59 := ⟨_, rfl⟩
    have hf := hf s61 e62
    refine gw_put0 F to (by decide) rfl sg_lay_RX3 (j := 3) (by decide) h60 e62 tyX3_ok nmX3 rfl (tyX3_ok 3 (by decide)) rfl (host := "") (.inl kw_182) dX3_readMove_30 ?_
    refine gw_aload_n F 0 rfl rfl to.1 dX3_readMove_33 ?_
    refine gw_aload_n F 1 rfl rfl (by decide) dX3_readMove_34 ?_
    refine gw_bipush F rfl dX3_readMove_35 ?_
    refine gk_HZ F (gc_V F (S := [sg_r o]) (As := [sg_i 45]) (T := TX9) (N := 8) (CX9_skipSign hst (by decide) hf) (so_3 hst) (by decide) rfl kw_464 kw_92 kw_613 kw_462 kw_463 hcX9_skipSign ⟨by decide, by decide⟩ rfl rfl (Nat.le_of_ble_eq_true rfl) ⟨by decide, by decide⟩ dX3_readMove_37) (fun u63 s65 h64 hf => ?_)
    refine gw_aload_n F 1 rfl rfl (by decide) dX3_readMove_40 ?_
    refine gw_iconst F dX3_readMove_41 ?_
    refine gw_sipush F rfl dX3_readMove_42 ?_
    refine gw_sipush F rfl dX3_readMove_45 ?_
    refine gk_HI F (gc_V F (S := [sg_i u63, sg_r o]) (As := [sg_i 0, sg_i 9999, sg_i 9999]) (T := TX9) (N := 8) (CX9_number hst (by decide) (by decide) (by decide) hf) (so_3 hst) (by decide) rfl kw_453 kw_92 kw_614 kw_451 kw_452 hcX9_number ⟨by decide, by decide⟩ rfl rfl (Nat.le_of_ble_eq_true rfl) ⟨by decide, by decide⟩ dX3_readMove_48) (fun u66 s68 h67 hf => ?_)
    refine gk_PI F (gc_SN F (S := [sg_r o]) (As := [sg_i u63, sg_i u66]) (CX11_signed h64 h67 hf) kw_471 kw_90 kw_615 kw_470 hcX11_signed ⟨by decide, by decide⟩ rfl rfl (Nat.le_of_ble_eq_true rfl) ⟨by decide, by decide⟩ dX3_readMove_51) (fun u69 h70 hf => ?_)
    obtain ⟨s71, e72⟩ : ∃ z : sg_M, z = sg_up s68 o 4 u69 := ⟨_, rfl⟩
    have hf := hf s71 e72
    refine gw_put0 F to (by decide) rfl sg_lay_RX3 (j := 4) (by decide) h70 e72 tyX3_ok nmX3 rfl (tyX3_ok 4 (by decide)) rfl (host := "") (.inl kw_183) dX3_readMove_54 ?_
    refine gw_goto F (tgt := 205) dX3_readMove_57 (by decide) ?_
    exact gr_HV F hf (by decide) (by decide) dX3_readMove_205

theorem dX11_hearParts_0 : decode cX11_hearParts 0 = .ok (.aload_n 0, 1) := by decide +kernel
theorem dX11_hearParts_1 : decode cX11_hearParts 1 = .ok (.getfield 39, 3) := by decide +kernel
theorem dX11_hearParts_4 : decode cX11_hearParts 4 = .ok (.getfield 237, 3) := by decide +kernel
theorem dX11_hearParts_7 : decode cX11_hearParts 7 = .ok (.getfield 352, 3) := by decide +kernel
theorem dX11_hearParts_10 : decode cX11_hearParts 10 = .ok (.iload_n 1, 1) := by decide +kernel
theorem dX11_hearParts_11 : decode cX11_hearParts 11 = .ok (.invokevirtual 182, 3) := by decide +kernel
theorem dX11_hearParts_14 : decode cX11_hearParts 14 = .ok (.istore_n 3, 1) := by decide +kernel
theorem dX11_hearParts_15 : decode cX11_hearParts 15 = .ok (.aload_n 0, 1) := by decide +kernel
theorem dX11_hearParts_16 : decode cX11_hearParts 16 = .ok (.getfield 39, 3) := by decide +kernel
theorem dX11_hearParts_19 : decode cX11_hearParts 19 = .ok (.getfield 237, 3) := by decide +kernel
theorem dX11_hearParts_22 : decode cX11_hearParts 22 = .ok (.getfield 355, 3) := by decide +kernel
theorem dX11_hearParts_25 : decode cX11_hearParts 25 = .ok (.iload_n 1, 1) := by decide +kernel
theorem dX11_hearParts_26 : decode cX11_hearParts 26 = .ok (.invokevirtual 182, 3) := by decide +kernel
theorem dX11_hearParts_29 : decode cX11_hearParts 29 = .ok (.istore 4, 2) := by decide +kernel
theorem dX11_hearParts_31 : decode cX11_hearParts 31 = .ok (.aload_n 0, 1) := by decide +kernel
theorem dX11_hearParts_32 : decode cX11_hearParts 32 = .ok (.getfield 39, 3) := by decide +kernel
theorem dX11_hearParts_35 : decode cX11_hearParts 35 = .ok (.getfield 237, 3) := by decide +kernel
theorem dX11_hearParts_38 : decode cX11_hearParts 38 = .ok (.getfield 352, 3) := by decide +kernel
theorem dX11_hearParts_41 : decode cX11_hearParts 41 = .ok (.iload_n 2, 1) := by decide +kernel
theorem dX11_hearParts_42 : decode cX11_hearParts 42 = .ok (.invokevirtual 182, 3) := by decide +kernel
theorem dX11_hearParts_45 : decode cX11_hearParts 45 = .ok (.iload_n 3, 1) := by decide +kernel
theorem dX11_hearParts_46 : decode cX11_hearParts 46 = .ok (.isub, 1) := by decide +kernel
theorem dX11_hearParts_47 : decode cX11_hearParts 47 = .ok (.istore 5, 2) := by decide +kernel
theorem dX11_hearParts_49 : decode cX11_hearParts 49 = .ok (.aload_n 0, 1) := by decide +kernel
theorem dX11_hearParts_50 : decode cX11_hearParts 50 = .ok (.getfield 39, 3) := by decide +kernel
theorem dX11_hearParts_53 : decode cX11_hearParts 53 = .ok (.getfield 237, 3) := by decide +kernel
theorem dX11_hearParts_56 : decode cX11_hearParts 56 = .ok (.getfield 355, 3) := by decide +kernel
theorem dX11_hearParts_59 : decode cX11_hearParts 59 = .ok (.iload_n 2, 1) := by decide +kernel
theorem dX11_hearParts_60 : decode cX11_hearParts 60 = .ok (.invokevirtual 182, 3) := by decide +kernel
theorem dX11_hearParts_63 : decode cX11_hearParts 63 = .ok (.iload 4, 2) := by decide +kernel
theorem dX11_hearParts_65 : decode cX11_hearParts 65 = .ok (.isub, 1) := by decide +kernel
theorem dX11_hearParts_66 : decode cX11_hearParts 66 = .ok (.istore 6, 2) := by decide +kernel
theorem dX11_hearParts_68 : decode cX11_hearParts 68 = .ok (.aload_n 0, 1) := by decide +kernel
theorem dX11_hearParts_69 : decode cX11_hearParts 69 = .ok (.getfield 90, 3) := by decide +kernel
theorem dX11_hearParts_72 : decode cX11_hearParts 72 = .ok (.invokevirtual 271, 3) := by decide +kernel
theorem dX11_hearParts_75 : decode cX11_hearParts 75 = .ok (.iconst 0, 1) := by decide +kernel
theorem dX11_hearParts_76 : decode cX11_hearParts 76 = .ok (.istore 7, 2) := by decide +kernel
theorem dX11_hearParts_78 : decode cX11_hearParts 78 = .ok (.iload 7, 2) := by decide +kernel
theorem dX11_hearParts_80 : decode cX11_hearParts 80 = .ok (.bipush 100, 2) := by decide +kernel
theorem dX11_hearParts_82 : decode cX11_hearParts 82 = .ok (.if_icmp .gt 55, 3) := by decide +kernel
theorem dX11_hearParts_85 : decode cX11_hearParts 85 = .ok (.aload_n 0, 1) := by decide +kernel
theorem dX11_hearParts_86 : decode cX11_hearParts 86 = .ok (.aload_n 0, 1) := by decide +kernel
theorem dX11_hearParts_87 : decode cX11_hearParts 87 = .ok (.getfield 39, 3) := by decide +kernel
theorem dX11_hearParts_90 : decode cX11_hearParts 90 = .ok (.getfield 112, 3) := by decide +kernel
theorem dX11_hearParts_93 : decode cX11_hearParts 93 = .ok (.iload_n 3, 1) := by decide +kernel
theorem dX11_hearParts_94 : decode cX11_hearParts 94 = .ok (.iload 5, 2) := by decide +kernel
theorem dX11_hearParts_96 : decode cX11_hearParts 96 = .ok (.iload 7, 2) := by decide +kernel
theorem dX11_hearParts_98 : decode cX11_hearParts 98 = .ok (.imul, 1) := by decide +kernel
theorem dX11_hearParts_99 : decode cX11_hearParts 99 = .ok (.bipush 100, 2) := by decide +kernel
theorem dX11_hearParts_101 : decode cX11_hearParts 101 = .ok (.idiv, 1) := by decide +kernel
theorem dX11_hearParts_102 : decode cX11_hearParts 102 = .ok (.iadd, 1) := by decide +kernel
theorem dX11_hearParts_103 : decode cX11_hearParts 103 = .ok (.iload 4, 2) := by decide +kernel
theorem dX11_hearParts_105 : decode cX11_hearParts 105 = .ok (.iload 6, 2) := by decide +kernel
theorem dX11_hearParts_107 : decode cX11_hearParts 107 = .ok (.iload 7, 2) := by decide +kernel
theorem dX11_hearParts_109 : decode cX11_hearParts 109 = .ok (.imul, 1) := by decide +kernel
theorem dX11_hearParts_110 : decode cX11_hearParts 110 = .ok (.bipush 100, 2) := by decide +kernel
theorem dX11_hearParts_112 : decode cX11_hearParts 112 = .ok (.idiv, 1) := by decide +kernel
theorem dX11_hearParts_113 : decode cX11_hearParts 113 = .ok (.iadd, 1) := by decide +kernel
theorem dX11_hearParts_114 : decode cX11_hearParts 114 = .ok (.invokevirtual 225, 3) := by decide +kernel
theorem dX11_hearParts_117 : decode cX11_hearParts 117 = .ok (.aload_n 0, 1) := by decide +kernel
theorem dX11_hearParts_118 : decode cX11_hearParts 118 = .ok (.getfield 90, 3) := by decide +kernel
theorem dX11_hearParts_121 : decode cX11_hearParts 121 = .ok (.aload_n 0, 1) := by decide +kernel
theorem dX11_hearParts_122 : decode cX11_hearParts 122 = .ok (.getfield 54, 3) := by decide +kernel
theorem dX11_hearParts_125 : decode cX11_hearParts 125 = .ok (.getfield 228, 3) := by decide +kernel
theorem dX11_hearParts_128 : decode cX11_hearParts 128 = .ok (.invokevirtual 278, 3) := by decide +kernel
theorem dX11_hearParts_131 : decode cX11_hearParts 131 = .ok (.iinc 7 1, 3) := by decide +kernel
theorem dX11_hearParts_134 : decode cX11_hearParts 134 = .ok (.goto (-56), 3) := by decide +kernel
theorem dX11_hearParts_137 : decode cX11_hearParts 137 = .ok (.return_, 1) := by decide +kernel
theorem hcX11_hearParts : yX11_hearParts.cls ≠ "java/lang/invoke/MethodHandle" ∧ yX11_hearParts.cls ≠ "java/lang/invoke/VarHandle" ∧ (parseMethodDescriptor yX11_hearParts.desc).map (fun d => d.parameters.length) = some 2 := ⟨by decide +kernel, by decide +kernel, by decide +kernel⟩
def fX11_hearParts_L78 (La : sg_L) (u4 : Int) (u9 : Int) (u14 : Int) (u19 : Int) (Q : sg_M → Prop) : Nat → sg_M → Int → Prop
  | 0, _, _ => False
  | n_78 + 1, s_78, x7_78 => ((100 < x7_78 → Q s_78) ∧ (¬ (100 < x7_78) → sg_R ((u14 - u4) * x7_78) ∧ sg_R ((u19 - u9) * x7_78) ∧ (0 ≤ (s_78 4 0)) ∧ sg_R (u4 + (Int.tdiv ((u14 - u4) * x7_78) 100)) ∧ sg_R (u9 + (Int.tdiv ((u19 - u9) * x7_78) 100)) ∧ fX11_listenTo La s_78 (s_78 4 0) (u4 + (Int.tdiv ((u14 - u4) * x7_78) 100)) (u9 + (Int.tdiv ((u19 - u9) * x7_78) 100)) (fun s32 => fX4_add La s32 56 (s32 32 7) (fun s36 => sg_R (x7_78 + 1) ∧ (fX11_hearParts_L78 La u4 u9 u14 u19 Q n_78) s36 (x7_78 + 1)))))
def fX11_hearParts (La : sg_L) (s0 : sg_M) (x1 : Int) (x2 : Int) (Q : sg_M → Prop) : Prop := fX4_at La s0 21 x1 (fun u4 => fX4_at La s0 23 x1 (fun u9 => fX4_at La s0 21 x2 (fun u14 => fX4_at La s0 23 x2 (fun u19 => fX4_clear s0 56 (fun s22 => (∃ n38 : Nat, fX11_hearParts_L78 La u4 u9 u14 u19 Q n38 s22 0))))))
set_option maxHeartbeats 4000000 in
set_option maxRecDepth 100000 in
theorem CX11_hearParts {l : Launch} {G : sg_G} {La : sg_L} {s0 : sg_M} (hst : sg_St La) {x1 : Int} (r1 : sg_R x1) {x2 : Int} (r2 : sg_R x2) {Q : sg_M → Prop} (hf : fX11_hearParts La s0 x1 x2 Q) : sg_C l G yX11_hearParts cX11_hearParts 8 (none) 6 0 0 La s0 [sg_r 0, sg_i x1, sg_i x2] (sg_HV La Q) := by
  refine sg_body (by decide +kernel) (Nat.le_of_ble_eq_true rfl) ?_
  intro p e s m args below meth c F hnm
  unfold fX11_hearParts at hf
  show sg_W p l e (sg_rm 6 0 0) s m args below meth c (MQ below (sg_Q (none) G La s.heap.size (sg_HV La Q)) args s 0 0 (sg_A La s.heap.size)) 8 G (sg_A La s.heap.size) La s0 0 0 0 [(0, sg_r 0), (1, sg_i x1), (2, sg_i x2)] []
  refine gw_aload_n F 0 rfl rfl (by decide) dX11_hearParts_0 ?_
  refine gw_get7 F (so_0 hst) (by decide) rfl sg_lay_RX11 (j := 2) (by decide) (o1 := 4) (by first | rfl | omega) rfl (host := "") (.inl kw_328) dX11_hearParts_1 (fun h1 => ?_)
  refine gw_get7 F (so_4 hst) (by decide) rfl sg_lay_RX7 (j := 3) (by decide) (o1 := 20) (by first | rfl | omega) rfl (.inr kw_240) dX11_hearParts_4 (fun h2 => ?_)
  refine gw_get3 F (so_20 hst) (by decide) rfl sg_lay_RX2 (j := 0) (by decide) (o1 := 21) (by first | rfl | omega) rfl (.inr kw_225) dX11_hearParts_7 (fun h3 => ?_)
  refine gw_iload_n F 1 rfl rfl dX11_hearParts_10 ?_
  refine gk_PI F (gc_V F (S := []) (As := [sg_i x1]) (T := TX4) (N := 3) (CX4_at (so_21 hst) r1 hf) (so_21 hst) (by decide) rfl kw_546 kw_97 kw_543 kw_544 kw_545 hcX4_at ⟨by decide, by decide⟩ rfl rfl (Nat.le_of_ble_eq_true rfl) ⟨by decide, by decide⟩ dX11_hearParts_11) (fun u4 h5 hf => ?_)
  refine gw_istore_n F rfl (by decide) rfl dX11_hearParts_14 ?_
  refine gw_aload_n F 1 rfl rfl (by decide) dX11_hearParts_15 ?_
  refine gw_get7 F (so_0 hst) (by decide) rfl sg_lay_RX11 (j := 2) (by decide) (o1 := 4) (by first | rfl | omega) rfl (host := "") (.inl kw_328) dX11_hearParts_16 (fun h6 => ?_)
  refine gw_get7 F (so_4 hst) (by decide) rfl sg_lay_RX7 (j := 3) (by decide) (o1 := 20) (by first | rfl | omega) rfl (.inr kw_240) dX11_hearParts_19 (fun h7 => ?_)
  refine gw_get3 F (so_20 hst) (by decide) rfl sg_lay_RX2 (j := 1) (by decide) (o1 := 23) (by first | rfl | omega) rfl (.inr kw_227) dX11_hearParts_22 (fun h8 => ?_)
  refine gw_iload_n F 2 rfl rfl dX11_hearParts_25 ?_
  refine gk_PI F (gc_V F (S := []) (As := [sg_i x1]) (T := TX4) (N := 3) (CX4_at (so_23 hst) r1 hf) (so_23 hst) (by decide) rfl kw_546 kw_97 kw_543 kw_544 kw_545 hcX4_at ⟨by decide, by decide⟩ rfl rfl (Nat.le_of_ble_eq_true rfl) ⟨by decide, by decide⟩ dX11_hearParts_26) (fun u9 h10 hf => ?_)
  refine gw_istore F (by decide) rfl dX11_hearParts_29 ?_
  refine gw_aload_n F 2 rfl rfl (by decide) dX11_hearParts_31 ?_
  refine gw_get7 F (so_0 hst) (by decide) rfl sg_lay_RX11 (j := 2) (by decide) (o1 := 4) (by first | rfl | omega) rfl (host := "") (.inl kw_328) dX11_hearParts_32 (fun h11 => ?_)
  refine gw_get7 F (so_4 hst) (by decide) rfl sg_lay_RX7 (j := 3) (by decide) (o1 := 20) (by first | rfl | omega) rfl (.inr kw_240) dX11_hearParts_35 (fun h12 => ?_)
  refine gw_get3 F (so_20 hst) (by decide) rfl sg_lay_RX2 (j := 0) (by decide) (o1 := 21) (by first | rfl | omega) rfl (.inr kw_225) dX11_hearParts_38 (fun h13 => ?_)
  refine gw_iload_n F 4 rfl rfl dX11_hearParts_41 ?_
  refine gk_PI F (gc_V F (S := []) (As := [sg_i x2]) (T := TX4) (N := 3) (CX4_at (so_21 hst) r2 hf) (so_21 hst) (by decide) rfl kw_546 kw_97 kw_543 kw_544 kw_545 hcX4_at ⟨by decide, by decide⟩ rfl rfl (Nat.le_of_ble_eq_true rfl) ⟨by decide, by decide⟩ dX11_hearParts_42) (fun u14 h15 hf => ?_)
  refine gw_iload_n F 1 rfl rfl dX11_hearParts_45 ?_
  refine gw_isub F rfl dX11_hearParts_46 ?_
  refine gw_istore F (by decide) rfl dX11_hearParts_47 ?_
  refine gw_aload_n F 3 rfl rfl (by decide) dX11_hearParts_49 ?_
  refine gw_get7 F (so_0 hst) (by decide) rfl sg_lay_RX11 (j := 2) (by decide) (o1 := 4) (by first | rfl | omega) rfl (host := "") (.inl kw_328) dX11_hearParts_50 (fun h16 => ?_)
  refine gw_get7 F (so_4 hst) (by decide) rfl sg_lay_RX7 (j := 3) (by decide) (o1 := 20) (by first | rfl | omega) rfl (.inr kw_240) dX11_hearParts_53 (fun h17 => ?_)
  refine gw_get3 F (so_20 hst) (by decide) rfl sg_lay_RX2 (j := 1) (by decide) (o1 := 23) (by first | rfl | omega) rfl (.inr kw_227) dX11_hearParts_56 (fun h18 => ?_)
  refine gw_iload_n F 5 rfl rfl dX11_hearParts_59 ?_
  refine gk_PI F (gc_V F (S := []) (As := [sg_i x2]) (T := TX4) (N := 3) (CX4_at (so_23 hst) r2 hf) (so_23 hst) (by decide) rfl kw_546 kw_97 kw_543 kw_544 kw_545 hcX4_at ⟨by decide, by decide⟩ rfl rfl (Nat.le_of_ble_eq_true rfl) ⟨by decide, by decide⟩ dX11_hearParts_60) (fun u19 h20 hf => ?_)
  refine gw_iload F 1 rfl dX11_hearParts_63 ?_
  refine gw_isub F rfl dX11_hearParts_65 ?_
  refine gw_istore F (by decide) rfl dX11_hearParts_66 ?_
  refine gw_aload_n F 4 rfl rfl (by decide) dX11_hearParts_68 ?_
  refine gw_get7 F (so_0 hst) (by decide) rfl sg_lay_RX11 (j := 12) (by decide) (o1 := 56) (by first | rfl | omega) rfl (host := "") (.inl kw_338) dX11_hearParts_69 (fun h21 => ?_)
  refine gk_HV F (gc_V F (S := []) (As := []) (T := TX4) (N := 3) (CX4_clear (so_56 hst) hf) (so_56 hst) (by decide) rfl kw_531 kw_97 kw_652 kw_529 kw_530 hcX4_clear ⟨by decide, by decide⟩ rfl rfl (Nat.le_of_ble_eq_true rfl) ⟨by decide, by decide⟩ dX11_hearParts_72) (fun s22 hf => ?_)
  refine gw_iconst F dX11_hearParts_75 ?_
  refine gw_istore F (by decide) rfl dX11_hearParts_76 ?_
  have L78 : ∀ n_78 : Nat, ∀ (s_78 : sg_M) (x7_78 : Int), sg_R x7_78 → fX11_hearParts_L78 La u4 u9 u14 u19 Q n_78 s_78 x7_78 → sg_W p l e (sg_rm 6 0 0) s m args below meth c (MQ below (sg_Q (none) G La s.heap.size (sg_HV La Q)) args s 0 0 (sg_A La s.heap.size)) 8 G (sg_A La s.heap.size) La s_78 0 0 78 [(0, sg_r 0), (3, sg_i u4), (4, sg_i u9), (5, sg_i (u14 - u4)), (6, sg_i (u19 - u9)), (7, sg_i x7_78)] [] := by
    intro n_78
    induction n_78 with
    | zero => intro s_78 x7_78 r7_78 hf; exact hf.elim
    | succ n_78 ih =>
      intro s_78 x7_78 r7_78 hf
      unfold fX11_hearParts_L78 at hf
      refine gw_iload F 5 rfl dX11_hearParts_78 ?_
      refine gw_bipush F rfl dX11_hearParts_80 ?_
      refine gw_icmp_gt F (tgt := 137) dX11_hearParts_82 (by decide) r7_78 (by decide) (fun c23 => ?_) (fun c23 => ?_)
      · have hf := hf.1 c23
        exact gr_HV F hf (by decide) (by decide) dX11_hearParts_137
      · have hf := hf.2 c23
        refine gw_aload_n F 0 rfl rfl (by decide) dX11_hearParts_85 ?_
        refine gw_aload_n F 0 rfl rfl (by decide) dX11_hearParts_86 ?_
        refine gw_get7 F (so_0 hst) (by decide) rfl sg_lay_RX11 (j := 2) (by decide) (o1 := 4) (by first | rfl | omega) rfl (host := "") (.inl kw_328) dX11_hearParts_87 (fun h24 => ?_)
        refine gw_get4 F (so_4 hst) (by decide) rfl sg_lay_RX7 (j := 0) (by decide) rfl (.inr kw_234) dX11_hearParts_90 (fun h25 => ?_)
        refine gw_iload_n F 1 rfl rfl dX11_hearParts_93 ?_
        refine gw_iload F 3 rfl dX11_hearParts_94 ?_
        refine gw_iload F 5 rfl dX11_hearParts_96 ?_
        refine gw_imul F rfl dX11_hearParts_98 ?_
        refine gw_bipush F rfl dX11_hearParts_99 ?_
        obtain ⟨g26, hf⟩ := hf
        refine gw_idiv F g26 (by decide) (by decide) rfl dX11_hearParts_101 ?_
        refine gw_iadd F rfl dX11_hearParts_102 ?_
        refine gw_iload F 2 rfl dX11_hearParts_103 ?_
        refine gw_iload F 4 rfl dX11_hearParts_105 ?_
        refine gw_iload F 5 rfl dX11_hearParts_107 ?_
        refine gw_imul F rfl dX11_hearParts_109 ?_
        refine gw_bipush F rfl dX11_hearParts_110 ?_
        obtain ⟨g27, hf⟩ := hf
        refine gw_idiv F g27 (by decide) (by decide) rfl dX11_hearParts_112 ?_
        refine gw_iadd F rfl dX11_hearParts_113 ?_
        obtain ⟨g28, hf⟩ := hf
        have t29 := sg_nn h25 g28
        obtain ⟨g30, hf⟩ := hf
        obtain ⟨g31, hf⟩ := hf
        refine gk_HV F (gc_V F (S := []) (As := [sg_r (s_78 4 0), sg_i (u4 + (Int.tdiv ((u14 - u4) * x7_78) 100)), sg_i (u9 + (Int.tdiv ((u19 - u9) * x7_78) 100))]) (T := TX11) (N := 19) (CX11_listenTo hst t29 g30 g31 hf) (so_0 hst) (by decide) rfl kw_655 kw_90 kw_653 kw_654 kw_20 hcX11_listenTo ⟨by decide, by decide⟩ rfl rfl (Nat.le_of_ble_eq_true rfl) ⟨by decide, by decide⟩ dX11_hearParts_114) (fun s32 hf => ?_)
        refine gw_aload_n F 0 rfl rfl (by decide) dX11_hearParts_117 ?_
        refine gw_get7 F (so_0 hst) (by decide) rfl sg_lay_RX11 (j := 12) (by decide) (o1 := 56) (by first | rfl | omega) rfl (host := "") (.inl kw_338) dX11_hearParts_118 (fun h33 => ?_)
        refine gw_aload_n F 0 rfl rfl (by decide) dX11_hearParts_121 ?_
        refine gw_get7 F (so_0 hst) (by decide) rfl sg_lay_RX11 (j := 5) (by decide) (o1 := 32) (by first | rfl | omega) rfl (host := "") (.inl kw_331) dX11_hearParts_122 (fun h34 => ?_)
        refine gw_get0 F (so_32 hst) (by decide) rfl sg_lay_RX0 (j := 7) (by decide) rfl (.inr kw_266) dX11_hearParts_125 (fun h35 => ?_)
        refine gk_HV F (gc_V F (S := []) (As := [sg_i (s32 32 7)]) (T := TX4) (N := 3) (CX4_add (so_56 hst) h35 hf) (so_56 hst) (by decide) rfl kw_538 kw_97 kw_663 kw_536 kw_537 hcX4_add ⟨by decide, by decide⟩ rfl rfl (Nat.le_of_ble_eq_true rfl) ⟨by decide, by decide⟩ dX11_hearParts_128) (fun s36 hf => ?_)
        refine gw_iinc F (z := (x7_78 + 1)) 5 rfl (by omega) (by decide) rfl dX11_hearParts_131 ?_
        refine gw_goto F (tgt := 78) dX11_hearParts_134 (by decide) ?_
        obtain ⟨g37, hf⟩ := hf
        refine gw_sub [1, 2, 3, 4, 5, 0] rfl ?_
        exact ih s36 (x7_78 + 1) g37 hf
  obtain ⟨n38, hf⟩ := hf
  refine gw_sub [5, 4, 3, 2, 1, 0] rfl ?_
  refine L78   n38 s22 0 (by decide) hf

theorem dX11_forgetAnswers_0 : decode cX11_forgetAnswers 0 = .ok (.aload_n 0, 1) := by decide +kernel
theorem dX11_forgetAnswers_1 : decode cX11_forgetAnswers 1 = .ok (.getfield 93, 3) := by decide +kernel
theorem dX11_forgetAnswers_4 : decode cX11_forgetAnswers 4 = .ok (.iconst 0, 1) := by decide +kernel
theorem dX11_forgetAnswers_5 : decode cX11_forgetAnswers 5 = .ok (.putfield 346, 3) := by decide +kernel
theorem dX11_forgetAnswers_8 : decode cX11_forgetAnswers 8 = .ok (.aload_n 0, 1) := by decide +kernel
theorem dX11_forgetAnswers_9 : decode cX11_forgetAnswers 9 = .ok (.getfield 99, 3) := by decide +kernel
theorem dX11_forgetAnswers_12 : decode cX11_forgetAnswers 12 = .ok (.iconst 0, 1) := by decide +kernel
theorem dX11_forgetAnswers_13 : decode cX11_forgetAnswers 13 = .ok (.putfield 346, 3) := by decide +kernel
theorem dX11_forgetAnswers_16 : decode cX11_forgetAnswers 16 = .ok (.return_, 1) := by decide +kernel
theorem hcX11_forgetAnswers : yX11_forgetAnswers.cls ≠ "java/lang/invoke/MethodHandle" ∧ yX11_forgetAnswers.cls ≠ "java/lang/invoke/VarHandle" ∧ (parseMethodDescriptor yX11_forgetAnswers.desc).map (fun d => d.parameters.length) = some 0 := ⟨by decide +kernel, by decide +kernel, by decide +kernel⟩
def fX11_forgetAnswers (s0 : sg_M) (Q : sg_M → Prop) : Prop := ∀ s2 : sg_M, s2 = sg_up s0 58 2 0 → ∀ s5 : sg_M, s5 = sg_up s2 62 2 0 → Q s5
set_option maxHeartbeats 4000000 in
set_option maxRecDepth 100000 in
theorem CX11_forgetAnswers {l : Launch} {G : sg_G} {La : sg_L} {s0 : sg_M} (hst : sg_St La) {Q : sg_M → Prop} (hf : fX11_forgetAnswers s0 Q) : sg_C l G yX11_forgetAnswers cX11_forgetAnswers 1 (none) 1 0 0 La s0 [sg_r 0] (sg_HV La Q) := by
  refine sg_body (by decide +kernel) (Nat.le_of_ble_eq_true rfl) ?_
  intro p e s m args below meth c F hnm
  unfold fX11_forgetAnswers at hf
  show sg_W p l e (sg_rm 1 0 0) s m args below meth c (MQ below (sg_Q (none) G La s.heap.size (sg_HV La Q)) args s 0 0 (sg_A La s.heap.size)) 1 G (sg_A La s.heap.size) La s0 0 0 0 [(0, sg_r 0)] []
  refine gw_aload_n F 0 rfl rfl (by decide) dX11_forgetAnswers_0 ?_
  refine gw_get7 F (so_0 hst) (by decide) rfl sg_lay_RX11 (j := 13) (by decide) (o1 := 58) (by first | rfl | omega) rfl (host := "") (.inl kw_339) dX11_forgetAnswers_1 (fun h1 => ?_)
  refine gw_iconst F dX11_forgetAnswers_4 ?_
  obtain ⟨s2, e3⟩ : ∃ z : sg_M, z = sg_up s0 58 2 0 := ⟨_, rfl⟩
  have hf := hf s2 e3
  refine gw_put1 F (so_58 hst) (by decide) rfl sg_lay_RX4 (j := 2) (by decide) (by decide) e3 tyX4_ok nmX4 rfl (tyX4_ok 2 (by decide)) rfl (.inr kw_206) dX11_forgetAnswers_5 ?_
  refine gw_aload_n F 0 rfl rfl (by decide) dX11_forgetAnswers_8 ?_
  refine gw_get7 F (so_0 hst) (by decide) rfl sg_lay_RX11 (j := 15) (by decide) (o1 := 62) (by first | rfl | omega) rfl (host := "") (.inl kw_341) dX11_forgetAnswers_9 (fun h4 => ?_)
  refine gw_iconst F dX11_forgetAnswers_12 ?_
  obtain ⟨s5, e6⟩ : ∃ z : sg_M, z = sg_up s2 62 2 0 := ⟨_, rfl⟩
  have hf := hf s5 e6
  refine gw_put1 F (so_62 hst) (by decide) rfl sg_lay_RX4 (j := 2) (by decide) (by decide) e6 tyX4_ok nmX4 rfl (tyX4_ok 2 (by decide)) rfl (.inr kw_206) dX11_forgetAnswers_13 ?_
  exact gr_HV F hf (by decide) (by decide) dX11_forgetAnswers_16

theorem dX7_copyFrom_0 : decode cX7_copyFrom 0 = .ok (.aload_n 0, 1) := by decide +kernel
theorem dX7_copyFrom_1 : decode cX7_copyFrom 1 = .ok (.aload_n 1, 1) := by decide +kernel
theorem dX7_copyFrom_2 : decode cX7_copyFrom 2 = .ok (.getfield 24, 3) := by decide +kernel
theorem dX7_copyFrom_5 : decode cX7_copyFrom 5 = .ok (.putfield 24, 3) := by decide +kernel
theorem dX7_copyFrom_8 : decode cX7_copyFrom 8 = .ok (.aload_n 0, 1) := by decide +kernel
theorem dX7_copyFrom_9 : decode cX7_copyFrom 9 = .ok (.aload_n 1, 1) := by decide +kernel
theorem dX7_copyFrom_10 : decode cX7_copyFrom 10 = .ok (.getfield 28, 3) := by decide +kernel
theorem dX7_copyFrom_13 : decode cX7_copyFrom 13 = .ok (.putfield 28, 3) := by decide +kernel
theorem dX7_copyFrom_16 : decode cX7_copyFrom 16 = .ok (.aload_n 0, 1) := by decide +kernel
theorem dX7_copyFrom_17 : decode cX7_copyFrom 17 = .ok (.aload_n 1, 1) := by decide +kernel
theorem dX7_copyFrom_18 : decode cX7_copyFrom 18 = .ok (.getfield 32, 3) := by decide +kernel
theorem dX7_copyFrom_21 : decode cX7_copyFrom 21 = .ok (.putfield 32, 3) := by decide +kernel
theorem dX7_copyFrom_24 : decode cX7_copyFrom 24 = .ok (.aload_n 0, 1) := by decide +kernel
theorem dX7_copyFrom_25 : decode cX7_copyFrom 25 = .ok (.getfield 12, 3) := by decide +kernel
theorem dX7_copyFrom_28 : decode cX7_copyFrom 28 = .ok (.aload_n 1, 1) := by decide +kernel
theorem dX7_copyFrom_29 : decode cX7_copyFrom 29 = .ok (.getfield 12, 3) := by decide +kernel
theorem dX7_copyFrom_32 : decode cX7_copyFrom 32 = .ok (.invokevirtual 36, 3) := by decide +kernel
theorem dX7_copyFrom_35 : decode cX7_copyFrom 35 = .ok (.iconst 0, 1) := by decide +kernel
theorem dX7_copyFrom_36 : decode cX7_copyFrom 36 = .ok (.istore_n 2, 1) := by decide +kernel
theorem dX7_copyFrom_37 : decode cX7_copyFrom 37 = .ok (.iload_n 2, 1) := by decide +kernel
theorem dX7_copyFrom_38 : decode cX7_copyFrom 38 = .ok (.iconst 4, 1) := by decide +kernel
theorem dX7_copyFrom_39 : decode cX7_copyFrom 39 = .ok (.if_icmp .ge 21, 3) := by decide +kernel
theorem dX7_copyFrom_42 : decode cX7_copyFrom 42 = .ok (.aload_n 0, 1) := by decide +kernel
theorem dX7_copyFrom_43 : decode cX7_copyFrom 43 = .ok (.getfield 20, 3) := by decide +kernel
theorem dX7_copyFrom_46 : decode cX7_copyFrom 46 = .ok (.iload_n 2, 1) := by decide +kernel
theorem dX7_copyFrom_47 : decode cX7_copyFrom 47 = .ok (.aload_n 1, 1) := by decide +kernel
theorem dX7_copyFrom_48 : decode cX7_copyFrom 48 = .ok (.getfield 20, 3) := by decide +kernel
theorem dX7_copyFrom_51 : decode cX7_copyFrom 51 = .ok (.iload_n 2, 1) := by decide +kernel
theorem dX7_copyFrom_52 : decode cX7_copyFrom 52 = .ok (.aaload, 1) := by decide +kernel
theorem dX7_copyFrom_53 : decode cX7_copyFrom 53 = .ok (.aastore, 1) := by decide +kernel
theorem dX7_copyFrom_54 : decode cX7_copyFrom 54 = .ok (.iinc 2 1, 3) := by decide +kernel
theorem dX7_copyFrom_57 : decode cX7_copyFrom 57 = .ok (.goto (-20), 3) := by decide +kernel
theorem dX7_copyFrom_60 : decode cX7_copyFrom 60 = .ok (.return_, 1) := by decide +kernel
theorem hcX7_copyFrom : yX7_copyFrom.cls ≠ "java/lang/invoke/MethodHandle" ∧ yX7_copyFrom.cls ≠ "java/lang/invoke/VarHandle" ∧ (parseMethodDescriptor yX7_copyFrom.desc).map (fun d => d.parameters.length) = some 1 := ⟨by decide +kernel, by decide +kernel, by decide +kernel⟩
def fX7_copyFrom_A_L37 (o1 : Int) (Q : sg_M → Prop) : Nat → sg_M → Int → Prop
  | 0, _, _ => False
  | n_37 + 1, s_37, x2_37 => ((4 ≤ x2_37 → Q s_37) ∧ (¬ (4 ≤ x2_37) → (0 ≤ x2_37 ∧ x2_37 < 4) ∧ (0 ≤ x2_37 ∧ x2_37 < 4) ∧ ∀ s25 : sg_M, s25 = sg_up s_37 25 x2_37 (s_37 (o1 + 6) x2_37) → sg_R (x2_37 + 1) ∧ (fX7_copyFrom_A_L37 o1 Q n_37) s25 (x2_37 + 1)))
def fX7_copyFrom_A (La : sg_L) (s0 : sg_M) (o1 : Int) (Q : sg_M → Prop) : Prop := (0 ≤ (s0 o1 0)) ∧ ∀ s4 : sg_M, s4 = sg_up s0 4 0 (s0 o1 0) → (0 ≤ (s4 o1 1)) ∧ ∀ s9 : sg_M, s9 = sg_up s4 4 1 (s4 o1 1) → (0 ≤ (s9 o1 2)) ∧ ∀ s14 : sg_M, s14 = sg_up s9 4 2 (s9 o1 2) → fX2_copyFrom La s14 20 (o1 + 1) (fun s18 => (∃ n28 : Nat, fX7_copyFrom_A_L37 o1 Q n28 s18 0))
set_option maxHeartbeats 4000000 in
set_option maxRecDepth 100000 in
theorem CX7_copyFrom_A {l : Launch} {G : sg_G} {La : sg_L} {s0 : sg_M} (hst : sg_St La) {o1 : Int} (t1 : sg_O La o1 7) {Q : sg_M → Prop} (hf : fX7_copyFrom_A La s0 o1 Q) : sg_C l G yX7_copyFrom cX7_copyFrom 3 (none) 4 0 0 La s0 [sg_r 4, sg_r o1] (sg_HV La Q) := by
  refine sg_body (by decide +kernel) (Nat.le_of_ble_eq_true rfl) ?_
  intro p e s m args below meth c F hnm
  unfold fX7_copyFrom_A at hf
  show sg_W p l e (sg_rm 4 0 0) s m args below meth c (MQ below (sg_Q (none) G La s.heap.size (sg_HV La Q)) args s 0 0 (sg_A La s.heap.size)) 3 G (sg_A La s.heap.size) La s0 0 0 0 [(0, sg_r 4), (1, sg_r o1)] []
  refine gw_aload_n F 0 rfl rfl (by decide) dX7_copyFrom_0 ?_
  refine gw_aload_n F 1 rfl rfl t1.1 dX7_copyFrom_1 ?_
  refine gw_get4 F t1 (by decide) rfl sg_lay_RX7 (j := 0) (by decide) rfl (host := "") (.inl kw_233) dX7_copyFrom_2 (fun h1 => ?_)
  obtain ⟨g2, hf⟩ := hf
  have t3 := sg_nn h1 g2
  obtain ⟨s4, e5⟩ : ∃ z : sg_M, z = sg_up s0 4 0 (s0 o1 0) := ⟨_, rfl⟩
  have hf := hf s4 e5
  refine gw_put4 F (so_4 hst) (by decide) rfl sg_lay_RX7 (j := 0) (by decide) t3.1 t3 e5 tyX7_ok nmX7 rfl (tyX7_ok 0 (by decide)) rfl (host := "") (.inl kw_233) dX7_copyFrom_5 ?_
  refine gw_aload_n F 0 rfl rfl (by decide) dX7_copyFrom_8 ?_
  refine gw_aload_n F 1 rfl rfl t1.1 dX7_copyFrom_9 ?_
  refine gw_get4 F t1 (by decide) rfl sg_lay_RX7 (j := 1) (by decide) rfl (host := "") (.inl kw_235) dX7_copyFrom_10 (fun h6 => ?_)
  obtain ⟨g7, hf⟩ := hf
  have t8 := sg_nn h6 g7
  obtain ⟨s9, e10⟩ : ∃ z : sg_M, z = sg_up s4 4 1 (s4 o1 1) := ⟨_, rfl⟩
  have hf := hf s9 e10
  refine gw_put4 F (so_4 hst) (by decide) rfl sg_lay_RX7 (j := 1) (by decide) t8.1 t8 e10 tyX7_ok nmX7 rfl (tyX7_ok 1 (by decide)) rfl (host := "") (.inl kw_235) dX7_copyFrom_13 ?_
  refine gw_aload_n F 0 rfl rfl (by decide) dX7_copyFrom_16 ?_
  refine gw_aload_n F 1 rfl rfl t1.1 dX7_copyFrom_17 ?_
  refine gw_get4 F t1 (by decide) rfl sg_lay_RX7 (j := 2) (by decide) rfl (host := "") (.inl kw_237) dX7_copyFrom_18 (fun h11 => ?_)
  obtain ⟨g12, hf⟩ := hf
  have t13 := sg_nn h11 g12
  obtain ⟨s14, e15⟩ : ∃ z : sg_M, z = sg_up s9 4 2 (s9 o1 2) := ⟨_, rfl⟩
  have hf := hf s14 e15
  refine gw_put4 F (so_4 hst) (by decide) rfl sg_lay_RX7 (j := 2) (by decide) t13.1 t13 e15 tyX7_ok nmX7 rfl (tyX7_ok 2 (by decide)) rfl (host := "") (.inl kw_237) dX7_copyFrom_21 ?_
  refine gw_aload_n F 0 rfl rfl (by decide) dX7_copyFrom_24 ?_
  refine gw_get7 F (so_4 hst) (by decide) rfl sg_lay_RX7 (j := 3) (by decide) (o1 := 20) (by first | rfl | omega) rfl (host := "") (.inl kw_239) dX7_copyFrom_25 (fun h16 => ?_)
  refine gw_aload_n F 1 rfl rfl t1.1 dX7_copyFrom_28 ?_
  refine gw_get3 F t1 (by decide) rfl sg_lay_RX7 (j := 3) (by decide) (o1 := (o1 + 1)) (by first | rfl | omega) rfl (host := "") (.inl kw_239) dX7_copyFrom_29 (fun h17 => ?_)
  refine gk_HV F (gc_V F (S := []) (As := [sg_r (o1 + 1)]) (T := TX2) (N := 3) (CX2_copyFrom (so_20 hst) (sg_O_of h17 (by decide)) hf) (so_20 hst) (by decide) rfl kw_865 kw_99 kw_862 kw_863 kw_864 hcX2_copyFrom ⟨by decide, by decide⟩ rfl rfl (Nat.le_of_ble_eq_true rfl) ⟨by decide, by decide⟩ dX7_copyFrom_32) (fun s18 hf => ?_)
  refine gw_iconst F dX7_copyFrom_35 ?_
  refine gw_istore_n F rfl (by decide) rfl dX7_copyFrom_36 ?_
  have L37 : ∀ n_37 : Nat, ∀ (s_37 : sg_M) (x2_37 : Int), sg_R x2_37 → fX7_copyFrom_A_L37 o1 Q n_37 s_37 x2_37 → sg_W p l e (sg_rm 4 0 0) s m args below meth c (MQ below (sg_Q (none) G La s.heap.size (sg_HV La Q)) args s 0 0 (sg_A La s.heap.size)) 3 G (sg_A La s.heap.size) La s_37 0 0 37 [(0, sg_r 4), (1, sg_r o1), (2, sg_i x2_37)] [] := by
    intro n_37
    induction n_37 with
    | zero => intro s_37 x2_37 r2_37 hf; exact hf.elim
    | succ n_37 ih =>
      intro s_37 x2_37 r2_37 hf
      unfold fX7_copyFrom_A_L37 at hf
      refine gw_iload_n F 2 rfl rfl dX7_copyFrom_37 ?_
      refine gw_iconst F dX7_copyFrom_38 ?_
      refine gw_icmp_ge F (tgt := 60) dX7_copyFrom_39 (by decide) r2_37 (by decide) (fun c19 => ?_) (fun c19 => ?_)
      · have hf := hf.1 c19
        exact gr_HV F hf (by decide) (by decide) dX7_copyFrom_60
      · have hf := hf.2 c19
        refine gw_aload_n F 0 rfl rfl (by decide) dX7_copyFrom_42 ?_
        refine gw_get7 F (so_4 hst) (by decide) rfl sg_lay_RX7 (j := 4) (by decide) (o1 := 25) (by first | rfl | omega) rfl (host := "") (.inl kw_241) dX7_copyFrom_43 (fun h20 => ?_)
        refine gw_iload_n F 2 rfl rfl dX7_copyFrom_46 ?_
        refine gw_aload_n F 1 rfl rfl t1.1 dX7_copyFrom_47 ?_
        refine gw_get3 F t1 (by decide) rfl sg_lay_RX7 (j := 4) (by decide) (o1 := (o1 + 6)) (by first | rfl | omega) rfl (host := "") (.inl kw_241) dX7_copyFrom_48 (fun h21 => ?_)
        refine gw_iload_n F 2 rfl rfl dX7_copyFrom_51 ?_
        obtain ⟨⟨b220, b221⟩, hf⟩ := hf
        refine gw_aaldB F (n := 4) (sg_O_of h21 (by decide)) (by decide) (by decide) (by decide) b220 b221 dX7_copyFrom_52 (fun h23 => ?_)
        obtain ⟨⟨b240, b241⟩, hf⟩ := hf
        obtain ⟨s25, e26⟩ : ∃ z : sg_M, z = sg_up s_37 25 x2_37 (s_37 (o1 + 6) x2_37) := ⟨_, rfl⟩
        have hf := hf s25 e26
        refine gw_aastBN F (n := 4) (so_25 hst) (by decide) (by decide) (by decide) b240 b241 h23 e26 dX7_copyFrom_53 ?_
        refine gw_iinc F (z := (x2_37 + 1)) 2 rfl (by omega) (by decide) rfl dX7_copyFrom_54 ?_
        refine gw_goto F (tgt := 37) dX7_copyFrom_57 (by decide) ?_
        obtain ⟨g27, hf⟩ := hf
        refine gw_sub [1, 2, 0] rfl ?_
        exact ih s25 (x2_37 + 1) g27 hf
  obtain ⟨n28, hf⟩ := hf
  refine gw_sub [1, 2, 0] rfl ?_
  refine L37   n28 s18 0 (by decide) hf

def fX7_copyFrom_B_L37 (o : Int) (Q : sg_M → Prop) : Nat → sg_M → Int → Prop
  | 0, _, _ => False
  | n_37 + 1, s_37, x2_37 => ((4 ≤ x2_37 → Q s_37) ∧ (¬ (4 ≤ x2_37) → (0 ≤ x2_37 ∧ x2_37 < 4) ∧ (0 ≤ x2_37 ∧ x2_37 < 4) ∧ ∀ s25 : sg_M, s25 = sg_up s_37 (o + 6) x2_37 (s_37 25 x2_37) → sg_R (x2_37 + 1) ∧ (fX7_copyFrom_B_L37 o Q n_37) s25 (x2_37 + 1)))
def fX7_copyFrom_B (La : sg_L) (s0 : sg_M) (o : Int) (Q : sg_M → Prop) : Prop := (0 ≤ (s0 4 0)) ∧ ∀ s4 : sg_M, s4 = sg_up s0 o 0 (s0 4 0) → (0 ≤ (s4 4 1)) ∧ ∀ s9 : sg_M, s9 = sg_up s4 o 1 (s4 4 1) → (0 ≤ (s9 4 2)) ∧ ∀ s14 : sg_M, s14 = sg_up s9 o 2 (s9 4 2) → fX2_copyFrom La s14 (o + 1) 20 (fun s18 => (∃ n28 : Nat, fX7_copyFrom_B_L37 o Q n28 s18 0))
set_option maxHeartbeats 4000000 in
set_option maxRecDepth 100000 in
theorem CX7_copyFrom_B {l : Launch} {G : sg_G} {La : sg_L} {s0 : sg_M} (hst : sg_St La) {o : Int} (to : sg_O La o 7) {Q : sg_M → Prop} (hf : fX7_copyFrom_B La s0 o Q) : sg_C l G yX7_copyFrom cX7_copyFrom 3 (none) 4 0 0 La s0 [sg_r o, sg_r 4] (sg_HV La Q) := by
  refine sg_body (by decide +kernel) (Nat.le_of_ble_eq_true rfl) ?_
  intro p e s m args below meth c F hnm
  unfold fX7_copyFrom_B at hf
  show sg_W p l e (sg_rm 4 0 0) s m args below meth c (MQ below (sg_Q (none) G La s.heap.size (sg_HV La Q)) args s 0 0 (sg_A La s.heap.size)) 3 G (sg_A La s.heap.size) La s0 0 0 0 [(0, sg_r o), (1, sg_r 4)] []
  refine gw_aload_n F 0 rfl rfl to.1 dX7_copyFrom_0 ?_
  refine gw_aload_n F 1 rfl rfl (by decide) dX7_copyFrom_1 ?_
  refine gw_get4 F (so_4 hst) (by decide) rfl sg_lay_RX7 (j := 0) (by decide) rfl (host := "") (.inl kw_233) dX7_copyFrom_2 (fun h1 => ?_)
  obtain ⟨g2, hf⟩ := hf
  have t3 := sg_nn h1 g2
  obtain ⟨s4, e5⟩ : ∃ z : sg_M, z = sg_up s0 o 0 (s0 4 0) := ⟨_, rfl⟩
  have hf := hf s4 e5
  refine gw_put4 F to (by decide) rfl sg_lay_RX7 (j := 0) (by decide) t3.1 t3 e5 tyX7_ok nmX7 rfl (tyX7_ok 0 (by decide)) rfl (host := "") (.inl kw_233) dX7_copyFrom_5 ?_
  refine gw_aload_n F 0 rfl rfl to.1 dX7_copyFrom_8 ?_
  refine gw_aload_n F 1 rfl rfl (by decide) dX7_copyFrom_9 ?_
  refine gw_get4 F (so_4 hst) (by decide) rfl sg_lay_RX7 (j := 1) (by decide) rfl (host := "") (.inl kw_235) dX7_copyFrom_10 (fun h6 => ?_)
  obtain ⟨g7, hf⟩ := hf
  have t8 := sg_nn h6 g7
  obtain ⟨s9, e10⟩ : ∃ z : sg_M, z = sg_up s4 o 1 (s4 4 1) := ⟨_, rfl⟩
  have hf := hf s9 e10
  refine gw_put4 F to (by decide) rfl sg_lay_RX7 (j := 1) (by decide) t8.1 t8 e10 tyX7_ok nmX7 rfl (tyX7_ok 1 (by decide)) rfl (host := "") (.inl kw_235) dX7_copyFrom_13 ?_
  refine gw_aload_n F 0 rfl rfl to.1 dX7_copyFrom_16 ?_
  refine gw_aload_n F 1 rfl rfl (by decide) dX7_copyFrom_17 ?_
  refine gw_get4 F (so_4 hst) (by decide) rfl sg_lay_RX7 (j := 2) (by decide) rfl (host := "") (.inl kw_237) dX7_copyFrom_18 (fun h11 => ?_)
  obtain ⟨g12, hf⟩ := hf
  have t13 := sg_nn h11 g12
  obtain ⟨s14, e15⟩ : ∃ z : sg_M, z = sg_up s9 o 2 (s9 4 2) := ⟨_, rfl⟩
  have hf := hf s14 e15
  refine gw_put4 F to (by decide) rfl sg_lay_RX7 (j := 2) (by decide) t13.1 t13 e15 tyX7_ok nmX7 rfl (tyX7_ok 2 (by decide)) rfl (host := "") (.inl kw_237) dX7_copyFrom_21 ?_
  refine gw_aload_n F 0 rfl rfl to.1 dX7_copyFrom_24 ?_
  refine gw_get3 F to (by decide) rfl sg_lay_RX7 (j := 3) (by decide) (o1 := (o + 1)) (by first | rfl | omega) rfl (host := "") (.inl kw_239) dX7_copyFrom_25 (fun h16 => ?_)
  refine gw_aload_n F 1 rfl rfl (by decide) dX7_copyFrom_28 ?_
  refine gw_get7 F (so_4 hst) (by decide) rfl sg_lay_RX7 (j := 3) (by decide) (o1 := 20) (by first | rfl | omega) rfl (host := "") (.inl kw_239) dX7_copyFrom_29 (fun h17 => ?_)
  refine gk_HV F (gc_V F (S := []) (As := [sg_r 20]) (T := TX2) (N := 3) (CX2_copyFrom (sg_O_of h16 (by decide)) (so_20 hst) hf) (sg_O_of h16 (by decide)) (by decide) rfl kw_865 kw_99 kw_862 kw_863 kw_864 hcX2_copyFrom ⟨by decide, by decide⟩ rfl rfl (Nat.le_of_ble_eq_true rfl) ⟨by decide, by decide⟩ dX7_copyFrom_32) (fun s18 hf => ?_)
  refine gw_iconst F dX7_copyFrom_35 ?_
  refine gw_istore_n F rfl (by decide) rfl dX7_copyFrom_36 ?_
  have L37 : ∀ n_37 : Nat, ∀ (s_37 : sg_M) (x2_37 : Int), sg_R x2_37 → fX7_copyFrom_B_L37 o Q n_37 s_37 x2_37 → sg_W p l e (sg_rm 4 0 0) s m args below meth c (MQ below (sg_Q (none) G La s.heap.size (sg_HV La Q)) args s 0 0 (sg_A La s.heap.size)) 3 G (sg_A La s.heap.size) La s_37 0 0 37 [(0, sg_r o), (1, sg_r 4), (2, sg_i x2_37)] [] := by
    intro n_37
    induction n_37 with
    | zero => intro s_37 x2_37 r2_37 hf; exact hf.elim
    | succ n_37 ih =>
      intro s_37 x2_37 r2_37 hf
      unfold fX7_copyFrom_B_L37 at hf
      refine gw_iload_n F 2 rfl rfl dX7_copyFrom_37 ?_
      refine gw_iconst F dX7_copyFrom_38 ?_
      refine gw_icmp_ge F (tgt := 60) dX7_copyFrom_39 (by decide) r2_37 (by decide) (fun c19 => ?_) (fun c19 => ?_)
      · have hf := hf.1 c19
        exact gr_HV F hf (by decide) (by decide) dX7_copyFrom_60
      · have hf := hf.2 c19
        refine gw_aload_n F 0 rfl rfl to.1 dX7_copyFrom_42 ?_
        refine gw_get3 F to (by decide) rfl sg_lay_RX7 (j := 4) (by decide) (o1 := (o + 6)) (by first | rfl | omega) rfl (host := "") (.inl kw_241) dX7_copyFrom_43 (fun h20 => ?_)
        refine gw_iload_n F 2 rfl rfl dX7_copyFrom_46 ?_
        refine gw_aload_n F 1 rfl rfl (by decide) dX7_copyFrom_47 ?_
        refine gw_get7 F (so_4 hst) (by decide) rfl sg_lay_RX7 (j := 4) (by decide) (o1 := 25) (by first | rfl | omega) rfl (host := "") (.inl kw_241) dX7_copyFrom_48 (fun h21 => ?_)
        refine gw_iload_n F 2 rfl rfl dX7_copyFrom_51 ?_
        obtain ⟨⟨b220, b221⟩, hf⟩ := hf
        refine gw_aaldB F (n := 4) (so_25 hst) (by decide) (by decide) (by decide) b220 b221 dX7_copyFrom_52 (fun h23 => ?_)
        obtain ⟨⟨b240, b241⟩, hf⟩ := hf
        obtain ⟨s25, e26⟩ : ∃ z : sg_M, z = sg_up s_37 (o + 6) x2_37 (s_37 25 x2_37) := ⟨_, rfl⟩
        have hf := hf s25 e26
        refine gw_aastBN F (n := 4) (sg_O_of h20 (by decide)) (by decide) (by decide) (by decide) b240 b241 h23 e26 dX7_copyFrom_53 ?_
        refine gw_iinc F (z := (x2_37 + 1)) 2 rfl (by omega) (by decide) rfl dX7_copyFrom_54 ?_
        refine gw_goto F (tgt := 37) dX7_copyFrom_57 (by decide) ?_
        obtain ⟨g27, hf⟩ := hf
        refine gw_sub [1, 2, 0] rfl ?_
        exact ih s25 (x2_37 + 1) g27 hf
  obtain ⟨n28, hf⟩ := hf
  refine gw_sub [1, 2, 0] rfl ?_
  refine L37   n28 s18 0 (by decide) hf

theorem dX11_restore_0 : decode cX11_restore 0 = .ok (.iload_n 1, 1) := by decide +kernel
theorem dX11_restore_1 : decode cX11_restore 1 = .ok (.ifCond .lt 17, 3) := by decide +kernel
theorem dX11_restore_4 : decode cX11_restore 4 = .ok (.iload_n 1, 1) := by decide +kernel
theorem dX11_restore_5 : decode cX11_restore 5 = .ok (.iconst 2, 1) := by decide +kernel
theorem dX11_restore_6 : decode cX11_restore 6 = .ok (.if_icmp .ge 12, 3) := by decide +kernel
theorem dX11_restore_9 : decode cX11_restore 9 = .ok (.aload_n 0, 1) := by decide +kernel
theorem dX11_restore_10 : decode cX11_restore 10 = .ok (.getfield 43, 3) := by decide +kernel
theorem dX11_restore_13 : decode cX11_restore 13 = .ok (.iload_n 1, 1) := by decide +kernel
theorem dX11_restore_14 : decode cX11_restore 14 = .ok (.aaload, 1) := by decide +kernel
theorem dX11_restore_15 : decode cX11_restore 15 = .ok (.ifnonnull 5, 3) := by decide +kernel
theorem dX11_restore_18 : decode cX11_restore 18 = .ok (.iconst 0, 1) := by decide +kernel
theorem dX11_restore_19 : decode cX11_restore 19 = .ok (.ireturn, 1) := by decide +kernel
theorem dX11_restore_20 : decode cX11_restore 20 = .ok (.aload_n 0, 1) := by decide +kernel
theorem dX11_restore_21 : decode cX11_restore 21 = .ok (.getfield 39, 3) := by decide +kernel
theorem dX11_restore_24 : decode cX11_restore 24 = .ok (.aload_n 0, 1) := by decide +kernel
theorem dX11_restore_25 : decode cX11_restore 25 = .ok (.getfield 43, 3) := by decide +kernel
theorem dX11_restore_28 : decode cX11_restore 28 = .ok (.iload_n 1, 1) := by decide +kernel
theorem dX11_restore_29 : decode cX11_restore 29 = .ok (.aaload, 1) := by decide +kernel
theorem dX11_restore_30 : decode cX11_restore 30 = .ok (.invokevirtual 334, 3) := by decide +kernel
theorem dX11_restore_33 : decode cX11_restore 33 = .ok (.aload_n 0, 1) := by decide +kernel
theorem dX11_restore_34 : decode cX11_restore 34 = .ok (.invokevirtual 248, 3) := by decide +kernel
theorem dX11_restore_37 : decode cX11_restore 37 = .ok (.iconst 1, 1) := by decide +kernel
theorem dX11_restore_38 : decode cX11_restore 38 = .ok (.ireturn, 1) := by decide +kernel
theorem hcX11_restore : yX11_restore.cls ≠ "java/lang/invoke/MethodHandle" ∧ yX11_restore.cls ≠ "java/lang/invoke/VarHandle" ∧ (parseMethodDescriptor yX11_restore.desc).map (fun d => d.parameters.length) = some 1 := ⟨by decide +kernel, by decide +kernel, by decide +kernel⟩
def fX11_restore (La : sg_L) (s0 : sg_M) (x1 : Int) (Q : Int → sg_M → Prop) : Prop := ((x1 < 0 → Q 0 s0) ∧ (¬ (x1 < 0) → ((2 ≤ x1 → Q 0 s0) ∧ (¬ (2 ≤ x1) → (0 ≤ x1 ∧ x1 < 2) ∧ ((0 ≤ (s0 26 x1) → (0 ≤ x1 ∧ x1 < 2) ∧ (0 ≤ (s0 26 x1)) ∧ fX7_copyFrom_A La s0 (s0 26 x1) (fun s14 => fX11_forgetAnswers s14 (fun s15 => Q 1 s15))) ∧ ((s0 26 x1) < 0 → Q 0 s0))))))
set_option maxHeartbeats 4000000 in
set_option maxRecDepth 100000 in
theorem CX11_restore {l : Launch} {G : sg_G} {La : sg_L} {s0 : sg_M} (hst : sg_St La) {x1 : Int} (r1 : sg_R x1) {Q : Int → sg_M → Prop} (hf : fX11_restore La s0 x1 Q) : sg_C l G yX11_restore cX11_restore 2 (some .boolean) 5 0 0 La s0 [sg_r 0, sg_i x1] (sg_HZ La Q) := by
  refine sg_body (by decide +kernel) (Nat.le_of_ble_eq_true rfl) ?_
  intro p e s m args below meth c F hnm
  unfold fX11_restore at hf
  show sg_W p l e (sg_rm 5 0 0) s m args below meth c (MQ below (sg_Q (some .boolean) G La s.heap.size (sg_HZ La Q)) args s 0 0 (sg_A La s.heap.size)) 2 G (sg_A La s.heap.size) La s0 0 0 0 [(0, sg_r 0), (1, sg_i x1)] []
  refine gw_iload_n F 1 rfl rfl dX11_restore_0 ?_
  refine gw_if_lt F (tgt := 18) dX11_restore_1 (by decide) r1 (fun c1 => ?_) (fun c1 => ?_)
  · have hf := hf.1 c1
    refine gw_iconst F dX11_restore_18 ?_
    exact gr_HZ F (by decide) hf (by decide) (by decide) dX11_restore_19
  · have hf := hf.2 c1
    refine gw_iload_n F 1 rfl rfl dX11_restore_4 ?_
    refine gw_iconst F dX11_restore_5 ?_
    refine gw_icmp_ge F (tgt := 18) dX11_restore_6 (by decide) r1 (by decide) (fun c2 => ?_) (fun c2 => ?_)
    · have hf := hf.1 c2
      refine gw_iconst F dX11_restore_18 ?_
      exact gr_HZ F (by decide) hf (by decide) (by decide) dX11_restore_19
    · have hf := hf.2 c2
      refine gw_aload_n F 0 rfl rfl (by decide) dX11_restore_9 ?_
      refine gw_get7 F (so_0 hst) (by decide) rfl sg_lay_RX11 (j := 3) (by decide) (o1 := 26) (by first | rfl | omega) rfl (host := "") (.inl kw_329) dX11_restore_10 (fun h3 => ?_)
      refine gw_iload_n F 1 rfl rfl dX11_restore_13 ?_
      obtain ⟨⟨b40, b41⟩, hf⟩ := hf
      refine gw_aaldS F (n := 2) (so_26 hst) (by decide) (by decide) (by decide) b40 b41 dX11_restore_14 (fun h5 => ?_)
      refine gw_ifnonnull F (tgt := 20) dX11_restore_15 (by decide) (fun c6 => ?_) (fun c6 => ?_)
      · have hf := hf.1 c6
        have t7 := sg_nn h5 c6
        refine gw_aload_n F 0 rfl rfl (by decide) dX11_restore_20 ?_
        refine gw_get7 F (so_0 hst) (by decide) rfl sg_lay_RX11 (j := 2) (by decide) (o1 := 4) (by first | rfl | omega) rfl (host := "") (.inl kw_328) dX11_restore_21 (fun h8 => ?_)
        refine gw_aload_n F 0 rfl rfl (by decide) dX11_restore_24 ?_
        refine gw_get7 F (so_0 hst) (by decide) rfl sg_lay_RX11 (j := 3) (by decide) (o1 := 26) (by first | rfl | omega) rfl (host := "") (.inl kw_329) dX11_restore_25 (fun h9 => ?_)
        refine gw_iload_n F 1 rfl rfl dX11_restore_28 ?_
        obtain ⟨⟨b100, b101⟩, hf⟩ := hf
        refine gw_aaldS F (n := 2) (so_26 hst) (by decide) (by decide) (by decide) b100 b101 dX11_restore_29 (fun h11 => ?_)
        obtain ⟨g12, hf⟩ := hf
        have t13 := sg_nn h11 g12
        refine gk_HV F (gc_V F (S := []) (As := [sg_r (s0 26 x1)]) (T := TX7) (N := 5) (CX7_copyFrom_A hst t13 hf) (so_4 hst) (by decide) rfl kw_861 kw_93 kw_858 kw_859 kw_860 hcX7_copyFrom ⟨by decide, by decide⟩ rfl rfl (Nat.le_of_ble_eq_true rfl) ⟨by decide, by decide⟩ dX11_restore_30) (fun s14 hf => ?_)
        refine gw_aload_n F 0 rfl rfl (by decide) dX11_restore_33 ?_
        refine gk_HV F (gc_V F (S := []) (As := []) (T := TX11) (N := 19) (CX11_forgetAnswers hst hf) (so_0 hst) (by decide) rfl kw_490 kw_90 kw_488 kw_489 kw_3 hcX11_forgetAnswers ⟨by decide, by decide⟩ rfl rfl (Nat.le_of_ble_eq_true rfl) ⟨by decide, by decide⟩ dX11_restore_34) (fun s15 hf => ?_)
        refine gw_iconst F dX11_restore_37 ?_
        exact gr_HZ F (by decide) hf (by decide) (by decide) dX11_restore_38
      · have hf := hf.2 c6
        refine gw_iconst F dX11_restore_18 ?_
        exact gr_HZ F (by decide) hf (by decide) (by decide) dX11_restore_19

theorem dX11_formBy_0 : decode cX11_formBy 0 = .ok (.aload_n 0, 1) := by decide +kernel
theorem dX11_formBy_1 : decode cX11_formBy 1 = .ok (.getfield 109, 3) := by decide +kernel
theorem dX11_formBy_4 : decode cX11_formBy 4 = .ok (.ireturn, 1) := by decide +kernel
theorem hcX11_formBy : yX11_formBy.cls ≠ "java/lang/invoke/MethodHandle" ∧ yX11_formBy.cls ≠ "java/lang/invoke/VarHandle" ∧ (parseMethodDescriptor yX11_formBy.desc).map (fun d => d.parameters.length) = some 0 := ⟨by decide +kernel, by decide +kernel, by decide +kernel⟩
def fX11_formBy (s0 : sg_M) (Q : Int → Prop) : Prop := Q (s0 0 18)
set_option maxHeartbeats 4000000 in
set_option maxRecDepth 100000 in
theorem CX11_formBy {l : Launch} {G : sg_G} {La : sg_L} {s0 : sg_M} (hst : sg_St La) {Q : Int → Prop} (hf : fX11_formBy s0 Q) : sg_C l G yX11_formBy cX11_formBy 1 (some .int) 1 0 0 La s0 [sg_r 0] (sg_PI La s0 Q) := by
  refine sg_body (by decide +kernel) (Nat.le_of_ble_eq_true rfl) ?_
  intro p e s m args below meth c F hnm
  unfold fX11_formBy at hf
  show sg_W p l e (sg_rm 1 0 0) s m args below meth c (MQ below (sg_Q (some .int) G La s.heap.size (sg_PI La s0 Q)) args s 0 0 (sg_A La s.heap.size)) 1 G (sg_A La s.heap.size) La s0 0 0 0 [(0, sg_r 0)] []
  refine gw_aload_n F 0 rfl rfl (by decide) dX11_formBy_0 ?_
  refine gw_get0 F (so_0 hst) (by decide) rfl sg_lay_RX11 (j := 18) (by decide) rfl (host := "") (.inl kw_344) dX11_formBy_1 (fun h1 => ?_)
  exact gr_PI F h1 hf (by decide) (by decide) dX11_formBy_4

theorem dX11_worth_0 : decode cX11_worth 0 = .ok (.aload_n 0, 1) := by decide +kernel
theorem dX11_worth_1 : decode cX11_worth 1 = .ok (.getfield 106, 3) := by decide +kernel
theorem dX11_worth_4 : decode cX11_worth 4 = .ok (.ireturn, 1) := by decide +kernel
theorem hcX11_worth : yX11_worth.cls ≠ "java/lang/invoke/MethodHandle" ∧ yX11_worth.cls ≠ "java/lang/invoke/VarHandle" ∧ (parseMethodDescriptor yX11_worth.desc).map (fun d => d.parameters.length) = some 0 := ⟨by decide +kernel, by decide +kernel, by decide +kernel⟩
def fX11_worth (s0 : sg_M) (Q : Int → Prop) : Prop := Q (s0 0 17)
set_option maxHeartbeats 4000000 in
set_option maxRecDepth 100000 in
theorem CX11_worth {l : Launch} {G : sg_G} {La : sg_L} {s0 : sg_M} (hst : sg_St La) {Q : Int → Prop} (hf : fX11_worth s0 Q) : sg_C l G yX11_worth cX11_worth 1 (some .int) 1 0 0 La s0 [sg_r 0] (sg_PI La s0 Q) := by
  refine sg_body (by decide +kernel) (Nat.le_of_ble_eq_true rfl) ?_
  intro p e s m args below meth c F hnm
  unfold fX11_worth at hf
  show sg_W p l e (sg_rm 1 0 0) s m args below meth c (MQ below (sg_Q (some .int) G La s.heap.size (sg_PI La s0 Q)) args s 0 0 (sg_A La s.heap.size)) 1 G (sg_A La s.heap.size) La s0 0 0 0 [(0, sg_r 0)] []
  refine gw_aload_n F 0 rfl rfl (by decide) dX11_worth_0 ?_
  refine gw_get0 F (so_0 hst) (by decide) rfl sg_lay_RX11 (j := 17) (by decide) rfl (host := "") (.inl kw_343) dX11_worth_1 (fun h1 => ?_)
  exact gr_PI F h1 hf (by decide) (by decide) dX11_worth_4

theorem dX8_append_0 : decode cX8_append 0 = .ok (.bipush 24, 2) := by decide +kernel
theorem dX8_append_2 : decode cX8_append 2 = .ok (.istore_n 2, 1) := by decide +kernel
theorem dX8_append_3 : decode cX8_append 3 = .ok (.iload_n 2, 1) := by decide +kernel
theorem dX8_append_4 : decode cX8_append 4 = .ok (.ifCond .lt 54, 3) := by decide +kernel
theorem dX8_append_7 : decode cX8_append 7 = .ok (.aload_n 0, 1) := by decide +kernel
theorem dX8_append_8 : decode cX8_append 8 = .ok (.getfield 15, 3) := by decide +kernel
theorem dX8_append_11 : decode cX8_append 11 = .ok (.ifCond .lt 41, 3) := by decide +kernel
theorem dX8_append_14 : decode cX8_append 14 = .ok (.aload_n 0, 1) := by decide +kernel
theorem dX8_append_15 : decode cX8_append 15 = .ok (.getfield 15, 3) := by decide +kernel
theorem dX8_append_18 : decode cX8_append 18 = .ok (.aload_n 0, 1) := by decide +kernel
theorem dX8_append_19 : decode cX8_append 19 = .ok (.getfield 9, 3) := by decide +kernel
theorem dX8_append_22 : decode cX8_append 22 = .ok (.arraylength, 1) := by decide +kernel
theorem dX8_append_23 : decode cX8_append 23 = .ok (.if_icmp .ge 29, 3) := by decide +kernel
theorem dX8_append_26 : decode cX8_append 26 = .ok (.aload_n 0, 1) := by decide +kernel
theorem dX8_append_27 : decode cX8_append 27 = .ok (.getfield 9, 3) := by decide +kernel
theorem dX8_append_30 : decode cX8_append 30 = .ok (.aload_n 0, 1) := by decide +kernel
theorem dX8_append_31 : decode cX8_append 31 = .ok (.getfield 15, 3) := by decide +kernel
theorem dX8_append_34 : decode cX8_append 34 = .ok (.iload_n 1, 1) := by decide +kernel
theorem dX8_append_35 : decode cX8_append 35 = .ok (.iload_n 2, 1) := by decide +kernel
theorem dX8_append_36 : decode cX8_append 36 = .ok (.iushr, 1) := by decide +kernel
theorem dX8_append_37 : decode cX8_append 37 = .ok (.sipush 255, 3) := by decide +kernel
theorem dX8_append_40 : decode cX8_append 40 = .ok (.iand, 1) := by decide +kernel
theorem dX8_append_41 : decode cX8_append 41 = .ok (.iastore, 1) := by decide +kernel
theorem dX8_append_42 : decode cX8_append 42 = .ok (.aload_n 0, 1) := by decide +kernel
theorem dX8_append_43 : decode cX8_append 43 = .ok (.dup, 1) := by decide +kernel
theorem dX8_append_44 : decode cX8_append 44 = .ok (.getfield 15, 3) := by decide +kernel
theorem dX8_append_47 : decode cX8_append 47 = .ok (.iconst 1, 1) := by decide +kernel
theorem dX8_append_48 : decode cX8_append 48 = .ok (.iadd, 1) := by decide +kernel
theorem dX8_append_49 : decode cX8_append 49 = .ok (.putfield 15, 3) := by decide +kernel
theorem dX8_append_52 : decode cX8_append 52 = .ok (.iinc 2 (-8), 3) := by decide +kernel
theorem dX8_append_55 : decode cX8_append 55 = .ok (.goto (-52), 3) := by decide +kernel
theorem dX8_append_58 : decode cX8_append 58 = .ok (.return_, 1) := by decide +kernel
theorem hcX8_append : yX8_append.cls ≠ "java/lang/invoke/MethodHandle" ∧ yX8_append.cls ≠ "java/lang/invoke/VarHandle" ∧ (parseMethodDescriptor yX8_append.desc).map (fun d => d.parameters.length) = some 1 := ⟨by decide +kernel, by decide +kernel, by decide +kernel⟩
def fX8_append_j52 (x2_3 : Int) (k3 : sg_M → Int → Prop) (s_52 : sg_M) : Prop := sg_R (x2_3 - 8) ∧ k3 s_52 (x2_3 - 8)
def fX8_append_L3 (x1 : Int) (Q : sg_M → Prop) : Nat → sg_M → Int → Prop
  | 0, _, _ => False
  | n_3 + 1, s_3, x2_3 => ((x2_3 < 0 → Q s_3) ∧ (¬ (x2_3 < 0) → (((s_3 1 1) < 0 → (fX8_append_j52 x2_3 (fX8_append_L3 x1 Q n_3)) s_3) ∧ (¬ ((s_3 1 1) < 0) → sg_R 540 ∧ ((540 ≤ (s_3 1 1) → (fX8_append_j52 x2_3 (fX8_append_L3 x1 Q n_3)) s_3) ∧ (¬ (540 ≤ (s_3 1 1)) → (0 ≤ (s_3 1 1) ∧ (s_3 1 1) < 540) ∧ ∀ s12 : sg_M, s12 = sg_up s_3 2 (s_3 1 1) (sg_and (sg_ushr x1 x2_3) 255) → sg_R ((s12 1 1) + 1) ∧ ∀ s16 : sg_M, s16 = sg_up s12 1 1 ((s12 1 1) + 1) → (fX8_append_j52 x2_3 (fX8_append_L3 x1 Q n_3)) s16))))))
def fX8_append (s0 : sg_M) (x1 : Int) (Q : sg_M → Prop) : Prop := (∃ n18 : Nat, fX8_append_L3 x1 Q n18 s0 24)
set_option maxHeartbeats 4000000 in
set_option maxRecDepth 100000 in
theorem CX8_append {l : Launch} {G : sg_G} {La : sg_L} {s0 : sg_M} (hst : sg_St La) {x1 : Int} (r1 : sg_R x1) {Q : sg_M → Prop} (hf : fX8_append s0 x1 Q) : sg_C l G yX8_append cX8_append 3 (none) 1 0 0 La s0 [sg_r 1, sg_i x1] (sg_HV La Q) := by
  refine sg_body (by decide +kernel) (Nat.le_of_ble_eq_true rfl) ?_
  intro p e s m args below meth c F hnm
  unfold fX8_append at hf
  show sg_W p l e (sg_rm 1 0 0) s m args below meth c (MQ below (sg_Q (none) G La s.heap.size (sg_HV La Q)) args s 0 0 (sg_A La s.heap.size)) 3 G (sg_A La s.heap.size) La s0 0 0 0 [(0, sg_r 1), (1, sg_i x1)] []
  refine gw_bipush F rfl dX8_append_0 ?_
  refine gw_istore_n F rfl (by decide) rfl dX8_append_2 ?_
  have L3 : ∀ n_3 : Nat, ∀ (s_3 : sg_M) (x2_3 : Int), sg_R x2_3 → fX8_append_L3 x1 Q n_3 s_3 x2_3 → sg_W p l e (sg_rm 1 0 0) s m args below meth c (MQ below (sg_Q (none) G La s.heap.size (sg_HV La Q)) args s 0 0 (sg_A La s.heap.size)) 3 G (sg_A La s.heap.size) La s_3 0 0 3 [(0, sg_r 1), (1, sg_i x1), (2, sg_i x2_3)] [] := by
    intro n_3
    induction n_3 with
    | zero => intro s_3 x2_3 r2_3 hf; exact hf.elim
    | succ n_3 ih =>
      intro s_3 x2_3 r2_3 hf
      unfold fX8_append_L3 at hf
      refine gw_iload_n F 2 rfl rfl dX8_append_3 ?_
      refine gw_if_lt F (tgt := 58) dX8_append_4 (by decide) r2_3 (fun c1 => ?_) (fun c1 => ?_)
      · have hf := hf.1 c1
        exact gr_HV F hf (by decide) (by decide) dX8_append_58
      · have hf := hf.2 c1
        refine gw_aload_n F 0 rfl rfl (by decide) dX8_append_7 ?_
        refine gw_get0 F (so_1 hst) (by decide) rfl sg_lay_RX8 (j := 1) (by decide) rfl (host := "") (.inl kw_127) dX8_append_8 (fun h2 => ?_)
        have J52 : ∀ (s_52 : sg_M), (fX8_append_j52 x2_3 (fX8_append_L3 x1 Q n_3)) s_52 → sg_W p l e (sg_rm 1 0 0) s m args below meth c (MQ below (sg_Q (none) G La s.heap.size (sg_HV La Q)) args s 0 0 (sg_A La s.heap.size)) 3 G (sg_A La s.heap.size) La s_52 0 0 52 [(0, sg_r 1), (1, sg_i x1), (2, sg_i x2_3)] [] := by
          intro s_52 hf
          unfold fX8_append_j52 at hf
          refine gw_iinc F (z := (x2_3 - 8)) 2 rfl (by omega) (by decide) rfl dX8_append_52 ?_
          refine gw_goto F (tgt := 3) dX8_append_55 (by decide) ?_
          obtain ⟨g3, hf⟩ := hf
          refine gw_sub [1, 2, 0] rfl ?_
          exact ih s_52 (x2_3 - 8) g3 hf
        refine gw_if_lt F (tgt := 52) dX8_append_11 (by decide) h2 (fun c4 => ?_) (fun c4 => ?_)
        · have hf := hf.1 c4
          refine gw_sub [0, 1, 2] rfl ?_
          exact J52 s_3 hf
        · have hf := hf.2 c4
          refine gw_aload_n F 0 rfl rfl (by decide) dX8_append_14 ?_
          refine gw_get0 F (so_1 hst) (by decide) rfl sg_lay_RX8 (j := 1) (by decide) rfl (host := "") (.inl kw_127) dX8_append_15 (fun h5 => ?_)
          refine gw_aload_n F 0 rfl rfl (by decide) dX8_append_18 ?_
          refine gw_get3 F (so_1 hst) (by decide) rfl sg_lay_RX8 (j := 0) (by decide) (o1 := 2) (by first | rfl | omega) rfl (host := "") (.inl kw_126) dX8_append_19 (fun h6 => ?_)
          refine gw_alen F (sa_2 hst) dX8_append_22 ?_
          obtain ⟨g7, hf⟩ := hf
          refine gw_icmp_ge F (tgt := 52) dX8_append_23 (by decide) h5 g7 (fun c8 => ?_) (fun c8 => ?_)
          · have hf := hf.1 c8
            refine gw_sub [0, 1, 2] rfl ?_
            exact J52 s_3 hf
          · have hf := hf.2 c8
            refine gw_aload_n F 0 rfl rfl (by decide) dX8_append_26 ?_
            refine gw_get3 F (so_1 hst) (by decide) rfl sg_lay_RX8 (j := 0) (by decide) (o1 := 2) (by first | rfl | omega) rfl (host := "") (.inl kw_126) dX8_append_27 (fun h9 => ?_)
            refine gw_aload_n F 0 rfl rfl (by decide) dX8_append_30 ?_
            refine gw_get0 F (so_1 hst) (by decide) rfl sg_lay_RX8 (j := 1) (by decide) rfl (host := "") (.inl kw_127) dX8_append_31 (fun h10 => ?_)
            refine gw_iload_n F 1 rfl rfl dX8_append_34 ?_
            refine gw_iload_n F 2 rfl rfl dX8_append_35 ?_
            refine gw_iushr F rfl dX8_append_36 ?_
            refine gw_sipush F rfl dX8_append_37 ?_
            refine gw_iand F rfl dX8_append_40 ?_
            obtain ⟨⟨b110, b111⟩, hf⟩ := hf
            obtain ⟨s12, e13⟩ : ∃ z : sg_M, z = sg_up s_3 2 (s_3 1 1) (sg_and (sg_ushr x1 x2_3) 255) := ⟨_, rfl⟩
            have hf := hf s12 e13
            refine gw_iast F (sa_2 hst) b110 b111 (sg_and_R _ _) e13 dX8_append_41 ?_
            refine gw_aload_n F 0 rfl rfl (by decide) dX8_append_42 ?_
            refine gw_dup F rfl dX8_append_43 ?_
            refine gw_get0 F (so_1 hst) (by decide) rfl sg_lay_RX8 (j := 1) (by decide) rfl (host := "") (.inl kw_127) dX8_append_44 (fun h14 => ?_)
            refine gw_iconst F dX8_append_47 ?_
            refine gw_iadd F rfl dX8_append_48 ?_
            obtain ⟨g15, hf⟩ := hf
            obtain ⟨s16, e17⟩ : ∃ z : sg_M, z = sg_up s12 1 1 ((s12 1 1) + 1) := ⟨_, rfl⟩
            have hf := hf s16 e17
            refine gw_put0 F (so_1 hst) (by decide) rfl sg_lay_RX8 (j := 1) (by decide) g15 e17 tyX8_ok nmX8 rfl (tyX8_ok 1 (by decide)) rfl (host := "") (.inl kw_127) dX8_append_49 ?_
            refine gw_sub [0, 1, 2] rfl ?_
            exact J52 s16 hf
  obtain ⟨n18, hf⟩ := hf
  refine gw_sub [1, 2, 0] rfl ?_
  refine L3   n18 s0 24 (by decide) hf

theorem dX11_feed_0 : decode cX11_feed 0 = .ok (.aload_n 0, 1) := by decide +kernel
theorem dX11_feed_1 : decode cX11_feed 1 = .ok (.getfield 10, 3) := by decide +kernel
theorem dX11_feed_4 : decode cX11_feed 4 = .ok (.getfield 122, 3) := by decide +kernel
theorem dX11_feed_7 : decode cX11_feed 7 = .ok (.bipush 20, 2) := by decide +kernel
theorem dX11_feed_9 : decode cX11_feed 9 = .ok (.iadd, 1) := by decide +kernel
theorem dX11_feed_10 : decode cX11_feed 10 = .ok (.sipush 540, 3) := by decide +kernel
theorem dX11_feed_13 : decode cX11_feed 13 = .ok (.if_icmp .le 5, 3) := by decide +kernel
theorem dX11_feed_16 : decode cX11_feed 16 = .ok (.iconst (-1), 1) := by decide +kernel
theorem dX11_feed_17 : decode cX11_feed 17 = .ok (.ireturn, 1) := by decide +kernel
theorem dX11_feed_18 : decode cX11_feed 18 = .ok (.aload_n 0, 1) := by decide +kernel
theorem dX11_feed_19 : decode cX11_feed 19 = .ok (.getfield 10, 3) := by decide +kernel
theorem dX11_feed_22 : decode cX11_feed 22 = .ok (.iload_n 1, 1) := by decide +kernel
theorem dX11_feed_23 : decode cX11_feed 23 = .ok (.invokevirtual 125, 3) := by decide +kernel
theorem dX11_feed_26 : decode cX11_feed 26 = .ok (.aload_n 0, 1) := by decide +kernel
theorem dX11_feed_27 : decode cX11_feed 27 = .ok (.getfield 10, 3) := by decide +kernel
theorem dX11_feed_30 : decode cX11_feed 30 = .ok (.iload_n 2, 1) := by decide +kernel
theorem dX11_feed_31 : decode cX11_feed 31 = .ok (.invokevirtual 125, 3) := by decide +kernel
theorem dX11_feed_34 : decode cX11_feed 34 = .ok (.aload_n 0, 1) := by decide +kernel
theorem dX11_feed_35 : decode cX11_feed 35 = .ok (.getfield 10, 3) := by decide +kernel
theorem dX11_feed_38 : decode cX11_feed 38 = .ok (.iload_n 3, 1) := by decide +kernel
theorem dX11_feed_39 : decode cX11_feed 39 = .ok (.invokevirtual 125, 3) := by decide +kernel
theorem dX11_feed_42 : decode cX11_feed 42 = .ok (.aload_n 0, 1) := by decide +kernel
theorem dX11_feed_43 : decode cX11_feed 43 = .ok (.getfield 10, 3) := by decide +kernel
theorem dX11_feed_46 : decode cX11_feed 46 = .ok (.iload 4, 2) := by decide +kernel
theorem dX11_feed_48 : decode cX11_feed 48 = .ok (.invokevirtual 125, 3) := by decide +kernel
theorem dX11_feed_51 : decode cX11_feed 51 = .ok (.aload_n 0, 1) := by decide +kernel
theorem dX11_feed_52 : decode cX11_feed 52 = .ok (.getfield 10, 3) := by decide +kernel
theorem dX11_feed_55 : decode cX11_feed 55 = .ok (.iload 5, 2) := by decide +kernel
theorem dX11_feed_57 : decode cX11_feed 57 = .ok (.invokevirtual 125, 3) := by decide +kernel
theorem dX11_feed_60 : decode cX11_feed 60 = .ok (.aload_n 0, 1) := by decide +kernel
theorem dX11_feed_61 : decode cX11_feed 61 = .ok (.getfield 10, 3) := by decide +kernel
theorem dX11_feed_64 : decode cX11_feed 64 = .ok (.getfield 122, 3) := by decide +kernel
theorem dX11_feed_67 : decode cX11_feed 67 = .ok (.ireturn, 1) := by decide +kernel
theorem hcX11_feed : yX11_feed.cls ≠ "java/lang/invoke/MethodHandle" ∧ yX11_feed.cls ≠ "java/lang/invoke/VarHandle" ∧ (parseMethodDescriptor yX11_feed.desc).map (fun d => d.parameters.length) = some 5 := ⟨by decide +kernel, by decide +kernel, by decide +kernel⟩
def fX11_feed (s0 : sg_M) (x1 : Int) (x2 : Int) (x3 : Int) (x4 : Int) (x5 : Int) (Q : Int → sg_M → Prop) : Prop := sg_R ((s0 1 1) + 20) ∧ ((((s0 1 1) + 20) ≤ 540 → fX8_append s0 x1 (fun s6 => fX8_append s6 x2 (fun s8 => fX8_append s8 x3 (fun s10 => fX8_append s10 x4 (fun s12 => fX8_append s12 x5 (fun s14 => Q (s14 1 1) s14)))))) ∧ (¬ (((s0 1 1) + 20) ≤ 540) → Q (-1) s0))
set_option maxHeartbeats 4000000 in
set_option maxRecDepth 100000 in
theorem CX11_feed {l : Launch} {G : sg_G} {La : sg_L} {s0 : sg_M} (hst : sg_St La) {x1 : Int} (r1 : sg_R x1) {x2 : Int} (r2 : sg_R x2) {x3 : Int} (r3 : sg_R x3) {x4 : Int} (r4 : sg_R x4) {x5 : Int} (r5 : sg_R x5) {Q : Int → sg_M → Prop} (hf : fX11_feed s0 x1 x2 x3 x4 x5 Q) : sg_C l G yX11_feed cX11_feed 6 (some .int) 2 0 0 La s0 [sg_r 0, sg_i x1, sg_i x2, sg_i x3, sg_i x4, sg_i x5] (sg_HI La Q) := by
  refine sg_body (by decide +kernel) (Nat.le_of_ble_eq_true rfl) ?_
  intro p e s m args below meth c F hnm
  unfold fX11_feed at hf
  show sg_W p l e (sg_rm 2 0 0) s m args below meth c (MQ below (sg_Q (some .int) G La s.heap.size (sg_HI La Q)) args s 0 0 (sg_A La s.heap.size)) 6 G (sg_A La s.heap.size) La s0 0 0 0 [(0, sg_r 0), (1, sg_i x1), (2, sg_i x2), (3, sg_i x3), (4, sg_i x4), (5, sg_i x5)] []
  refine gw_aload_n F 0 rfl rfl (by decide) dX11_feed_0 ?_
  refine gw_get7 F (so_0 hst) (by decide) rfl sg_lay_RX11 (j := 0) (by decide) (o1 := 1) (by first | rfl | omega) rfl (host := "") (.inl kw_326) dX11_feed_1 (fun h1 => ?_)
  refine gw_get0 F (so_1 hst) (by decide) rfl sg_lay_RX8 (j := 1) (by decide) rfl (.inr kw_128) dX11_feed_4 (fun h2 => ?_)
  refine gw_bipush F rfl dX11_feed_7 ?_
  refine gw_iadd F rfl dX11_feed_9 ?_
  refine gw_sipush F rfl dX11_feed_10 ?_
  obtain ⟨g3, hf⟩ := hf
  refine gw_icmp_le F (tgt := 18) dX11_feed_13 (by decide) g3 (by decide) (fun c4 => ?_) (fun c4 => ?_)
  · have hf := hf.1 c4
    refine gw_aload_n F 0 rfl rfl (by decide) dX11_feed_18 ?_
    refine gw_get7 F (so_0 hst) (by decide) rfl sg_lay_RX11 (j := 0) (by decide) (o1 := 1) (by first | rfl | omega) rfl (host := "") (.inl kw_326) dX11_feed_19 (fun h5 => ?_)
    refine gw_iload_n F 1 rfl rfl dX11_feed_22 ?_
    refine gk_HV F (gc_V F (S := []) (As := [sg_i x1]) (T := TX8) (N := 2) (CX8_append hst r1 hf) (so_1 hst) (by decide) rfl kw_352 kw_91 kw_349 kw_350 kw_351 hcX8_append ⟨by decide, by decide⟩ rfl rfl (Nat.le_of_ble_eq_true rfl) ⟨by decide, by decide⟩ dX11_feed_23) (fun s6 hf => ?_)
    refine gw_aload_n F 0 rfl rfl (by decide) dX11_feed_26 ?_
    refine gw_get7 F (so_0 hst) (by decide) rfl sg_lay_RX11 (j := 0) (by decide) (o1 := 1) (by first | rfl | omega) rfl (host := "") (.inl kw_326) dX11_feed_27 (fun h7 => ?_)
    refine gw_iload_n F 2 rfl rfl dX11_feed_30 ?_
    refine gk_HV F (gc_V F (S := []) (As := [sg_i x2]) (T := TX8) (N := 2) (CX8_append hst r2 hf) (so_1 hst) (by decide) rfl kw_352 kw_91 kw_349 kw_350 kw_351 hcX8_append ⟨by decide, by decide⟩ rfl rfl (Nat.le_of_ble_eq_true rfl) ⟨by decide, by decide⟩ dX11_feed_31) (fun s8 hf => ?_)
    refine gw_aload_n F 0 rfl rfl (by decide) dX11_feed_34 ?_
    refine gw_get7 F (so_0 hst) (by decide) rfl sg_lay_RX11 (j := 0) (by decide) (o1 := 1) (by first | rfl | omega) rfl (host := "") (.inl kw_326) dX11_feed_35 (fun h9 => ?_)
    refine gw_iload_n F 3 rfl rfl dX11_feed_38 ?_
    refine gk_HV F (gc_V F (S := []) (As := [sg_i x3]) (T := TX8) (N := 2) (CX8_append hst r3 hf) (so_1 hst) (by decide) rfl kw_352 kw_91 kw_349 kw_350 kw_351 hcX8_append ⟨by decide, by decide⟩ rfl rfl (Nat.le_of_ble_eq_true rfl) ⟨by decide, by decide⟩ dX11_feed_39) (fun s10 hf => ?_)
    refine gw_aload_n F 0 rfl rfl (by decide) dX11_feed_42 ?_
    refine gw_get7 F (so_0 hst) (by decide) rfl sg_lay_RX11 (j := 0) (by decide) (o1 := 1) (by first | rfl | omega) rfl (host := "") (.inl kw_326) dX11_feed_43 (fun h11 => ?_)
    refine gw_iload F 4 rfl dX11_feed_46 ?_
    refine gk_HV F (gc_V F (S := []) (As := [sg_i x4]) (T := TX8) (N := 2) (CX8_append hst r4 hf) (so_1 hst) (by decide) rfl kw_352 kw_91 kw_349 kw_350 kw_351 hcX8_append ⟨by decide, by decide⟩ rfl rfl (Nat.le_of_ble_eq_true rfl) ⟨by decide, by decide⟩ dX11_feed_48) (fun s12 hf => ?_)
    refine gw_aload_n F 0 rfl rfl (by decide) dX11_feed_51 ?_
    refine gw_get7 F (so_0 hst) (by decide) rfl sg_lay_RX11 (j := 0) (by decide) (o1 := 1) (by first | rfl | omega) rfl (host := "") (.inl kw_326) dX11_feed_52 (fun h13 => ?_)
    refine gw_iload F 5 rfl dX11_feed_55 ?_
    refine gk_HV F (gc_V F (S := []) (As := [sg_i x5]) (T := TX8) (N := 2) (CX8_append hst r5 hf) (so_1 hst) (by decide) rfl kw_352 kw_91 kw_349 kw_350 kw_351 hcX8_append ⟨by decide, by decide⟩ rfl rfl (Nat.le_of_ble_eq_true rfl) ⟨by decide, by decide⟩ dX11_feed_57) (fun s14 hf => ?_)
    refine gw_aload_n F 0 rfl rfl (by decide) dX11_feed_60 ?_
    refine gw_get7 F (so_0 hst) (by decide) rfl sg_lay_RX11 (j := 0) (by decide) (o1 := 1) (by first | rfl | omega) rfl (host := "") (.inl kw_326) dX11_feed_61 (fun h15 => ?_)
    refine gw_get0 F (so_1 hst) (by decide) rfl sg_lay_RX8 (j := 1) (by decide) rfl (.inr kw_128) dX11_feed_64 (fun h16 => ?_)
    exact gr_HI F h16 hf (by decide) (by decide) dX11_feed_67
  · have hf := hf.2 c4
    refine gw_iconst F dX11_feed_16 ?_
    exact gr_HI F (by decide) hf (by decide) (by decide) dX11_feed_17

theorem dX11_nearestPart_0 : decode cX11_nearestPart 0 = .ok (.iconst 0, 1) := by decide +kernel
theorem dX11_nearestPart_1 : decode cX11_nearestPart 1 = .ok (.istore_n 2, 1) := by decide +kernel
theorem dX11_nearestPart_2 : decode cX11_nearestPart 2 = .ok (.sipush 4000, 3) := by decide +kernel
theorem dX11_nearestPart_5 : decode cX11_nearestPart 5 = .ok (.istore_n 3, 1) := by decide +kernel
theorem dX11_nearestPart_6 : decode cX11_nearestPart 6 = .ok (.iconst 0, 1) := by decide +kernel
theorem dX11_nearestPart_7 : decode cX11_nearestPart 7 = .ok (.istore 4, 2) := by decide +kernel
theorem dX11_nearestPart_9 : decode cX11_nearestPart 9 = .ok (.iload 4, 2) := by decide +kernel
theorem dX11_nearestPart_11 : decode cX11_nearestPart 11 = .ok (.aload_n 0, 1) := by decide +kernel
theorem dX11_nearestPart_12 : decode cX11_nearestPart 12 = .ok (.getfield 90, 3) := by decide +kernel
theorem dX11_nearestPart_15 : decode cX11_nearestPart 15 = .ok (.getfield 181, 3) := by decide +kernel
theorem dX11_nearestPart_18 : decode cX11_nearestPart 18 = .ok (.if_icmp .ge 46, 3) := by decide +kernel
theorem dX11_nearestPart_21 : decode cX11_nearestPart 21 = .ok (.aload_n 0, 1) := by decide +kernel
theorem dX11_nearestPart_22 : decode cX11_nearestPart 22 = .ok (.getfield 90, 3) := by decide +kernel
theorem dX11_nearestPart_25 : decode cX11_nearestPart 25 = .ok (.iload 4, 2) := by decide +kernel
theorem dX11_nearestPart_27 : decode cX11_nearestPart 27 = .ok (.invokevirtual 182, 3) := by decide +kernel
theorem dX11_nearestPart_30 : decode cX11_nearestPart 30 = .ok (.istore 5, 2) := by decide +kernel
theorem dX11_nearestPart_32 : decode cX11_nearestPart 32 = .ok (.iload 5, 2) := by decide +kernel
theorem dX11_nearestPart_34 : decode cX11_nearestPart 34 = .ok (.iload_n 1, 1) := by decide +kernel
theorem dX11_nearestPart_35 : decode cX11_nearestPart 35 = .ok (.isub, 1) := by decide +kernel
theorem dX11_nearestPart_36 : decode cX11_nearestPart 36 = .ok (.invokestatic 286, 3) := by decide +kernel
theorem dX11_nearestPart_39 : decode cX11_nearestPart 39 = .ok (.istore 6, 2) := by decide +kernel
theorem dX11_nearestPart_41 : decode cX11_nearestPart 41 = .ok (.iload 5, 2) := by decide +kernel
theorem dX11_nearestPart_43 : decode cX11_nearestPart 43 = .ok (.ifCond .le 15, 3) := by decide +kernel
theorem dX11_nearestPart_46 : decode cX11_nearestPart 46 = .ok (.iload 6, 2) := by decide +kernel
theorem dX11_nearestPart_48 : decode cX11_nearestPart 48 = .ok (.iload_n 3, 1) := by decide +kernel
theorem dX11_nearestPart_49 : decode cX11_nearestPart 49 = .ok (.if_icmp .ge 9, 3) := by decide +kernel
theorem dX11_nearestPart_52 : decode cX11_nearestPart 52 = .ok (.iload 4, 2) := by decide +kernel
theorem dX11_nearestPart_54 : decode cX11_nearestPart 54 = .ok (.istore_n 2, 1) := by decide +kernel
theorem dX11_nearestPart_55 : decode cX11_nearestPart 55 = .ok (.iload 6, 2) := by decide +kernel
theorem dX11_nearestPart_57 : decode cX11_nearestPart 57 = .ok (.istore_n 3, 1) := by decide +kernel
theorem dX11_nearestPart_58 : decode cX11_nearestPart 58 = .ok (.iinc 4 1, 3) := by decide +kernel
theorem dX11_nearestPart_61 : decode cX11_nearestPart 61 = .ok (.goto (-52), 3) := by decide +kernel
theorem dX11_nearestPart_64 : decode cX11_nearestPart 64 = .ok (.iload_n 2, 1) := by decide +kernel
theorem dX11_nearestPart_65 : decode cX11_nearestPart 65 = .ok (.ireturn, 1) := by decide +kernel
theorem hcX11_nearestPart : yX11_nearestPart.cls ≠ "java/lang/invoke/MethodHandle" ∧ yX11_nearestPart.cls ≠ "java/lang/invoke/VarHandle" ∧ (parseMethodDescriptor yX11_nearestPart.desc).map (fun d => d.parameters.length) = some 1 := ⟨by decide +kernel, by decide +kernel, by decide +kernel⟩
def fX11_nearestPart_j58 (x4_9 : Int) (k9 : Int → Int → Int → Prop) (x2_58 : Int) (x3_58 : Int) : Prop := sg_R (x4_9 + 1) ∧ k9 x2_58 x3_58 (x4_9 + 1)
def fX11_nearestPart_L9 (La : sg_L) (s0 : sg_M) (x1 : Int) (Q : Int → Prop) : Nat → Int → Int → Int → Prop
  | 0, _, _, _ => False
  | n_9 + 1, x2_9, x3_9, x4_9 => (((s0 56 1) ≤ x4_9 → Q x2_9) ∧ (¬ ((s0 56 1) ≤ x4_9) → fX4_at La s0 56 x4_9 (fun u5 => sg_R (u5 - x1) ∧ ((u5 ≤ 0 → (fX11_nearestPart_j58 x4_9 (fX11_nearestPart_L9 La s0 x1 Q n_9)) x2_9 x3_9) ∧ (¬ (u5 ≤ 0) → sg_R (sg_abs (u5 - x1)) ∧ ((x3_9 ≤ (sg_abs (u5 - x1)) → (fX11_nearestPart_j58 x4_9 (fX11_nearestPart_L9 La s0 x1 Q n_9)) x2_9 x3_9) ∧ (¬ (x3_9 ≤ (sg_abs (u5 - x1))) → (fX11_nearestPart_j58 x4_9 (fX11_nearestPart_L9 La s0 x1 Q n_9)) x4_9 (sg_abs (u5 - x1)))))))))
def fX11_nearestPart (La : sg_L) (s0 : sg_M) (x1 : Int) (Q : Int → Prop) : Prop := (∃ n12 : Nat, fX11_nearestPart_L9 La s0 x1 Q n12 0 4000 0)
set_option maxHeartbeats 4000000 in
set_option maxRecDepth 100000 in
theorem CX11_nearestPart {l : Launch} {G : sg_G} {La : sg_L} {s0 : sg_M} (hst : sg_St La) {x1 : Int} (r1 : sg_R x1) {Q : Int → Prop} (hf : fX11_nearestPart La s0 x1 Q) : sg_C l G yX11_nearestPart cX11_nearestPart 7 (some .int) 2 0 0 La s0 [sg_r 0, sg_i x1] (sg_PI La s0 Q) := by
  refine sg_body (by decide +kernel) (Nat.le_of_ble_eq_true rfl) ?_
  intro p e s m args below meth c F hnm
  unfold fX11_nearestPart at hf
  show sg_W p l e (sg_rm 2 0 0) s m args below meth c (MQ below (sg_Q (some .int) G La s.heap.size (sg_PI La s0 Q)) args s 0 0 (sg_A La s.heap.size)) 7 G (sg_A La s.heap.size) La s0 0 0 0 [(0, sg_r 0), (1, sg_i x1)] []
  refine gw_iconst F dX11_nearestPart_0 ?_
  refine gw_istore_n F rfl (by decide) rfl dX11_nearestPart_1 ?_
  refine gw_sipush F rfl dX11_nearestPart_2 ?_
  refine gw_istore_n F rfl (by decide) rfl dX11_nearestPart_5 ?_
  refine gw_iconst F dX11_nearestPart_6 ?_
  refine gw_istore F (by decide) rfl dX11_nearestPart_7 ?_
  have L9 : ∀ n_9 : Nat, ∀ (x2_9 : Int) (x3_9 : Int) (x4_9 : Int), sg_R x2_9 → sg_R x3_9 → sg_R x4_9 → fX11_nearestPart_L9 La s0 x1 Q n_9 x2_9 x3_9 x4_9 → sg_W p l e (sg_rm 2 0 0) s m args below meth c (MQ below (sg_Q (some .int) G La s.heap.size (sg_PI La s0 Q)) args s 0 0 (sg_A La s.heap.size)) 7 G (sg_A La s.heap.size) La s0 0 0 9 [(0, sg_r 0), (1, sg_i x1), (2, sg_i x2_9), (3, sg_i x3_9), (4, sg_i x4_9)] [] := by
    intro n_9
    induction n_9 with
    | zero => intro x2_9 x3_9 x4_9 r2_9 r3_9 r4_9 hf; exact hf.elim
    | succ n_9 ih =>
      intro x2_9 x3_9 x4_9 r2_9 r3_9 r4_9 hf
      unfold fX11_nearestPart_L9 at hf
      refine gw_iload F 4 rfl dX11_nearestPart_9 ?_
      refine gw_aload_n F 0 rfl rfl (by decide) dX11_nearestPart_11 ?_
      refine gw_get7 F (so_0 hst) (by decide) rfl sg_lay_RX11 (j := 12) (by decide) (o1 := 56) (by first | rfl | omega) rfl (host := "") (.inl kw_338) dX11_nearestPart_12 (fun h1 => ?_)
      refine gw_get0 F (so_56 hst) (by decide) rfl sg_lay_RX4 (j := 1) (by decide) rfl (.inr kw_204) dX11_nearestPart_15 (fun h2 => ?_)
      refine gw_icmp_ge F (tgt := 64) dX11_nearestPart_18 (by decide) r4_9 h2 (fun c3 => ?_) (fun c3 => ?_)
      · have hf := hf.1 c3
        refine gw_iload_n F 2 rfl rfl dX11_nearestPart_64 ?_
        exact gr_PI F r2_9 hf (by decide) (by decide) dX11_nearestPart_65
      · have hf := hf.2 c3
        refine gw_aload_n F 0 rfl rfl (by decide) dX11_nearestPart_21 ?_
        refine gw_get7 F (so_0 hst) (by decide) rfl sg_lay_RX11 (j := 12) (by decide) (o1 := 56) (by first | rfl | omega) rfl (host := "") (.inl kw_338) dX11_nearestPart_22 (fun h4 => ?_)
        refine gw_iload F 4 rfl dX11_nearestPart_25 ?_
        refine gk_PI F (gc_V F (S := []) (As := [sg_i x4_9]) (T := TX4) (N := 3) (CX4_at (so_56 hst) r4_9 hf) (so_56 hst) (by decide) rfl kw_546 kw_97 kw_543 kw_544 kw_545 hcX4_at ⟨by decide, by decide⟩ rfl rfl (Nat.le_of_ble_eq_true rfl) ⟨by decide, by decide⟩ dX11_nearestPart_27) (fun u5 h6 hf => ?_)
        refine gw_istore F (by decide) rfl dX11_nearestPart_30 ?_
        refine gw_iload F 0 rfl dX11_nearestPart_32 ?_
        refine gw_iload_n F 2 rfl rfl dX11_nearestPart_34 ?_
        refine gw_isub F rfl dX11_nearestPart_35 ?_
        obtain ⟨g7, hf⟩ := hf
        refine gw_abs F g7 rfl kw_697 kw_abs1 kw_math kw_abs2 (Nat.le_of_ble_eq_true rfl) (by decide) (by decide) (by decide) (by decide) dX11_nearestPart_36 ?_
        refine gw_istore F (by decide) rfl dX11_nearestPart_39 ?_
        refine gw_iload F 1 rfl dX11_nearestPart_41 ?_
        have J58 : ∀ (x2_58 : Int) (x3_58 : Int), sg_R x2_58 → sg_R x3_58 → (fX11_nearestPart_j58 x4_9 (fX11_nearestPart_L9 La s0 x1 Q n_9)) x2_58 x3_58 → sg_W p l e (sg_rm 2 0 0) s m args below meth c (MQ below (sg_Q (some .int) G La s.heap.size (sg_PI La s0 Q)) args s 0 0 (sg_A La s.heap.size)) 7 G (sg_A La s.heap.size) La s0 0 0 58 [(0, sg_r 0), (1, sg_i x1), (2, sg_i x2_58), (3, sg_i x3_58), (4, sg_i x4_9)] [] := by
          intro x2_58 x3_58 r2_58 r3_58 hf
          unfold fX11_nearestPart_j58 at hf
          refine gw_iinc F (z := (x4_9 + 1)) 4 rfl (by omega) (by decide) rfl dX11_nearestPart_58 ?_
          refine gw_goto F (tgt := 9) dX11_nearestPart_61 (by decide) ?_
          obtain ⟨g8, hf⟩ := hf
          refine gw_sub [1, 2, 3, 4, 0] rfl ?_
          exact ih x2_58 x3_58 (x4_9 + 1) r2_58 r3_58 g8 hf
        refine gw_if_le F (tgt := 58) dX11_nearestPart_43 (by decide) h6 (fun c9 => ?_) (fun c9 => ?_)
        · have hf := hf.1 c9
          refine gw_sub [2, 3, 4, 5, 6] rfl ?_
          exact J58 x2_9 x3_9 r2_9 r3_9 hf
        · have hf := hf.2 c9
          refine gw_iload F 0 rfl dX11_nearestPart_46 ?_
          refine gw_iload_n F 5 rfl rfl dX11_nearestPart_48 ?_
          obtain ⟨g10, hf⟩ := hf
          refine gw_icmp_ge F (tgt := 58) dX11_nearestPart_49 (by decide) g10 r3_9 (fun c11 => ?_) (fun c11 => ?_)
          · have hf := hf.1 c11
            refine gw_sub [2, 3, 4, 5, 6] rfl ?_
            exact J58 x2_9 x3_9 r2_9 r3_9 hf
          · have hf := hf.2 c11
            refine gw_iload F 6 rfl dX11_nearestPart_52 ?_
            refine gw_istore_n F rfl (by decide) rfl dX11_nearestPart_54 ?_
            refine gw_iload F 1 rfl dX11_nearestPart_55 ?_
            refine gw_istore_n F rfl (by decide) rfl dX11_nearestPart_57 ?_
            refine gw_sub [4, 5, 1, 0, 6] rfl ?_
            exact J58 x4_9 (sg_abs (u5 - x1)) r4_9 g10 hf
  obtain ⟨n12, hf⟩ := hf
  refine gw_sub [3, 4, 2, 1, 0] rfl ?_
  refine L9   n12 0 4000 0 (by decide) (by decide) (by decide) hf

theorem dX1_init_0 : decode cX1_init 0 = .ok (.aload_n 0, 1) := by decide +kernel
theorem dX1_init_1 : decode cX1_init 1 = .ok (.invokespecial 3, 3) := by decide +kernel
theorem dX1_init_4 : decode cX1_init 4 = .ok (.aload_n 0, 1) := by decide +kernel
theorem dX1_init_5 : decode cX1_init 5 = .ok (.bipush 60, 2) := by decide +kernel
theorem dX1_init_7 : decode cX1_init 7 = .ok (.newarray .int, 2) := by decide +kernel
theorem dX1_init_9 : decode cX1_init 9 = .ok (.putfield 9, 3) := by decide +kernel
theorem dX1_init_12 : decode cX1_init 12 = .ok (.aload_n 0, 1) := by decide +kernel
theorem dX1_init_13 : decode cX1_init 13 = .ok (.bipush 60, 2) := by decide +kernel
theorem dX1_init_15 : decode cX1_init 15 = .ok (.newarray .int, 2) := by decide +kernel
theorem dX1_init_17 : decode cX1_init 17 = .ok (.putfield 15, 3) := by decide +kernel
theorem dX1_init_20 : decode cX1_init 20 = .ok (.aload_n 0, 1) := by decide +kernel
theorem dX1_init_21 : decode cX1_init 21 = .ok (.bipush 60, 2) := by decide +kernel
theorem dX1_init_23 : decode cX1_init 23 = .ok (.newarray .int, 2) := by decide +kernel
theorem dX1_init_25 : decode cX1_init 25 = .ok (.putfield 18, 3) := by decide +kernel
theorem dX1_init_28 : decode cX1_init 28 = .ok (.aload_n 0, 1) := by decide +kernel
theorem dX1_init_29 : decode cX1_init 29 = .ok (.bipush 60, 2) := by decide +kernel
theorem dX1_init_31 : decode cX1_init 31 = .ok (.newarray .int, 2) := by decide +kernel
theorem dX1_init_33 : decode cX1_init 33 = .ok (.putfield 21, 3) := by decide +kernel
theorem dX1_init_36 : decode cX1_init 36 = .ok (.aload_n 0, 1) := by decide +kernel
theorem dX1_init_37 : decode cX1_init 37 = .ok (.iconst 0, 1) := by decide +kernel
theorem dX1_init_38 : decode cX1_init 38 = .ok (.putfield 24, 3) := by decide +kernel
theorem dX1_init_41 : decode cX1_init 41 = .ok (.aload_n 0, 1) := by decide +kernel
theorem dX1_init_42 : decode cX1_init 42 = .ok (.iconst 0, 1) := by decide +kernel
theorem dX1_init_43 : decode cX1_init 43 = .ok (.putfield 28, 3) := by decide +kernel
theorem dX1_init_46 : decode cX1_init 46 = .ok (.aload_n 0, 1) := by decide +kernel
theorem dX1_init_47 : decode cX1_init 47 = .ok (.iconst 0, 1) := by decide +kernel
theorem dX1_init_48 : decode cX1_init 48 = .ok (.putfield 31, 3) := by decide +kernel
theorem dX1_init_51 : decode cX1_init 51 = .ok (.return_, 1) := by decide +kernel
theorem hcX1_init : yX1_init.cls ≠ "java/lang/invoke/MethodHandle" ∧ yX1_init.cls ≠ "java/lang/invoke/VarHandle" ∧ (parseMethodDescriptor yX1_init.desc).map (fun d => d.parameters.length) = some 0 := ⟨by decide +kernel, by decide +kernel, by decide +kernel⟩
def fX1_init (La : sg_L) (s0 : sg_M) (o : Int) (Q : sg_L → sg_M → Prop) : Prop := ∀ (q1 : Nat) (La2 : sg_L), La2 = sg_pu La 10060 q1 → ∀ s3 : sg_M, s3 = sg_nw s0 La.1 10060 → ∀ o4 : Int, o4 = (La.1 : Int) → ∀ s14 : sg_M, s14 = sg_up s3 o 0 o4 → ∀ (q16 : Nat) (La17 : sg_L), La17 = sg_pu La2 10060 q16 → ∀ s18 : sg_M, s18 = sg_nw s14 La2.1 10060 → ∀ o19 : Int, o19 = (La2.1 : Int) → ∀ s29 : sg_M, s29 = sg_up s18 o 1 o19 → ∀ (q31 : Nat) (La32 : sg_L), La32 = sg_pu La17 10060 q31 → ∀ s33 : sg_M, s33 = sg_nw s29 La17.1 10060 → ∀ o34 : Int, o34 = (La17.1 : Int) → ∀ s44 : sg_M, s44 = sg_up s33 o 2 o34 → ∀ (q46 : Nat) (La47 : sg_L), La47 = sg_pu La32 10060 q46 → ∀ s48 : sg_M, s48 = sg_nw s44 La32.1 10060 → ∀ o49 : Int, o49 = (La32.1 : Int) → ∀ s59 : sg_M, s59 = sg_up s48 o 3 o49 → ∀ s61 : sg_M, s61 = sg_up s59 o 4 0 → ∀ s63 : sg_M, s63 = sg_up s61 o 5 0 → ∀ s65 : sg_M, s65 = sg_up s63 o 6 0 → sg_sealed La47 s65 o 21 1 ∧ ∀ La67 : sg_L, La67 = sg_se La47 o.toNat 1 → Q La67 s65
set_option maxHeartbeats 4000000 in
set_option maxRecDepth 100000 in
theorem CX1_init {l : Launch} {G : sg_G} {La : sg_L} {s0 : sg_M} {o : Int} (to : sg_O La o 21) {Q : sg_L → sg_M → Prop} (hf : fX1_init La s0 o Q) : sg_C l G yX1_init cX1_init 1 (none) 1 4 240 La s0 [sg_r o] (sg_BV (sg_se La o.toNat 1) Q) := by
  refine sg_body (by decide +kernel) (Nat.le_of_ble_eq_true rfl) ?_
  intro p e s m args below meth c F hnm
  unfold fX1_init at hf
  show sg_W p l e (sg_rm 1 4 240) s m args below meth c (MQ below (sg_Q (none) G La s.heap.size (sg_BV (sg_se La o.toNat 1) Q)) args s 4 240 (sg_A La s.heap.size)) 1 G (sg_A La s.heap.size) La s0 0 0 0 [(0, sg_r o)] []
  have hin : meth.name = "<init>" := hnm
  refine gw_aload_n F 0 rfl rfl to.1 dX1_init_0 ?_
  refine gw_objInit F to.1 kw_157 kw_OI kw_OC (Nat.le_of_ble_eq_true rfl) (by decide) (by decide) dX1_init_1 ?_
  refine gw_aload_n F 0 rfl rfl to.1 dX1_init_4 ?_
  refine gw_bipush F rfl dX1_init_5 ?_
  refine gy_newI F (N := 60) kw_131 rfl (by decide) (by decide) (by decide) (List.forall_mem_cons.mpr ⟨(Or.inl to.2.1), (fun _ h => absurd h List.not_mem_nil)⟩) (List.forall_mem_cons.mpr ⟨(Or.inl to.2.1), (fun _ h => absurd h List.not_mem_nil)⟩) dX1_init_7 (fun q1 La2 s3 o4 e5 e6 e7 t8 hX9 => ?_)
  have hf := hf q1 La2 e5 s3 e6 o4 e7
  have hn10 : La.1 ≤ o4.toNat := by rw [e7, Int.toNat_natCast]; exact (sg_X.rf : sg_X La La).1
  have t11 := to.X hX9
  have hX12 := sg_X.tr (sg_X.rf) hX9
  have t13 := sg_AN_of (n := 60) t8 (by decide) (by decide) (by decide)
  obtain ⟨s14, e15⟩ : ∃ z : sg_M, z = sg_up s3 o 0 o4 := ⟨_, rfl⟩
  have hf := hf s14 e15
  refine gw_put5F F t11 (by decide) rfl sg_lay_RX1 (j := 0) (by decide) (D0 := tyX1 0) (fun _ => ⟨rfl, rfl⟩) t13.1 t13.2.1 e15 tyX1_ok nmX1 rfl hin rfl (tyX1_ok 0 (by decide)) rfl (host := "") kw_158 dX1_init_9 ?_
  refine gw_aload_n F 0 rfl rfl t11.1 dX1_init_12 ?_
  refine gw_bipush F rfl dX1_init_13 ?_
  refine gy_newI F (N := 60) kw_131 rfl (by decide) (by decide) (by decide) (List.forall_mem_cons.mpr ⟨(Or.inl t11.2.1), (fun _ h => absurd h List.not_mem_nil)⟩) (List.forall_mem_cons.mpr ⟨(Or.inl t11.2.1), (fun _ h => absurd h List.not_mem_nil)⟩) dX1_init_15 (fun q16 La17 s18 o19 e20 e21 e22 t23 hX24 => ?_)
  have hf := hf q16 La17 e20 s18 e21 o19 e22
  have hn25 : La.1 ≤ o19.toNat := by rw [e22, Int.toNat_natCast]; exact (hX12 : sg_X La La2).1
  have t26 := t11.X hX24
  have hX27 := sg_X.tr (hX12) hX24
  have t28 := sg_AN_of (n := 60) t23 (by decide) (by decide) (by decide)
  obtain ⟨s29, e30⟩ : ∃ z : sg_M, z = sg_up s18 o 1 o19 := ⟨_, rfl⟩
  have hf := hf s29 e30
  refine gw_put5F F t26 (by decide) rfl sg_lay_RX1 (j := 1) (by decide) (D0 := tyX1 1) (fun _ => ⟨rfl, rfl⟩) t28.1 t28.2.1 e30 tyX1_ok nmX1 rfl hin rfl (tyX1_ok 1 (by decide)) rfl (host := "") kw_159 dX1_init_17 ?_
  refine gw_aload_n F 0 rfl rfl t26.1 dX1_init_20 ?_
  refine gw_bipush F rfl dX1_init_21 ?_
  refine gy_newI F (N := 60) kw_131 rfl (by decide) (by decide) (by decide) (List.forall_mem_cons.mpr ⟨(Or.inl t26.2.1), (fun _ h => absurd h List.not_mem_nil)⟩) (List.forall_mem_cons.mpr ⟨(Or.inl t26.2.1), (fun _ h => absurd h List.not_mem_nil)⟩) dX1_init_23 (fun q31 La32 s33 o34 e35 e36 e37 t38 hX39 => ?_)
  have hf := hf q31 La32 e35 s33 e36 o34 e37
  have hn40 : La.1 ≤ o34.toNat := by rw [e37, Int.toNat_natCast]; exact (hX27 : sg_X La La17).1
  have t41 := t26.X hX39
  have hX42 := sg_X.tr (hX27) hX39
  have t43 := sg_AN_of (n := 60) t38 (by decide) (by decide) (by decide)
  obtain ⟨s44, e45⟩ : ∃ z : sg_M, z = sg_up s33 o 2 o34 := ⟨_, rfl⟩
  have hf := hf s44 e45
  refine gw_put5F F t41 (by decide) rfl sg_lay_RX1 (j := 2) (by decide) (D0 := tyX1 2) (fun _ => ⟨rfl, rfl⟩) t43.1 t43.2.1 e45 tyX1_ok nmX1 rfl hin rfl (tyX1_ok 2 (by decide)) rfl (host := "") kw_161 dX1_init_25 ?_
  refine gw_aload_n F 0 rfl rfl t41.1 dX1_init_28 ?_
  refine gw_bipush F rfl dX1_init_29 ?_
  refine gy_newI F (N := 60) kw_131 rfl (by decide) (by decide) (by decide) (List.forall_mem_cons.mpr ⟨(Or.inl t41.2.1), (fun _ h => absurd h List.not_mem_nil)⟩) (List.forall_mem_cons.mpr ⟨(Or.inl t41.2.1), (fun _ h => absurd h List.not_mem_nil)⟩) dX1_init_31 (fun q46 La47 s48 o49 e50 e51 e52 t53 hX54 => ?_)
  have hf := hf q46 La47 e50 s48 e51 o49 e52
  have hn55 : La.1 ≤ o49.toNat := by rw [e52, Int.toNat_natCast]; exact (hX42 : sg_X La La32).1
  have t56 := t41.X hX54
  have hX57 := sg_X.tr (hX42) hX54
  have t58 := sg_AN_of (n := 60) t53 (by decide) (by decide) (by decide)
  obtain ⟨s59, e60⟩ : ∃ z : sg_M, z = sg_up s48 o 3 o49 := ⟨_, rfl⟩
  have hf := hf s59 e60
  refine gw_put5F F t56 (by decide) rfl sg_lay_RX1 (j := 3) (by decide) (D0 := tyX1 3) (fun _ => ⟨rfl, rfl⟩) t58.1 t58.2.1 e60 tyX1_ok nmX1 rfl hin rfl (tyX1_ok 3 (by decide)) rfl (host := "") kw_162 dX1_init_33 ?_
  refine gw_aload_n F 0 rfl rfl t56.1 dX1_init_36 ?_
  refine gw_iconst F dX1_init_37 ?_
  obtain ⟨s61, e62⟩ : ∃ z : sg_M, z = sg_up s59 o 4 0 := ⟨_, rfl⟩
  have hf := hf s61 e62
  refine gw_put0 F t56 (by decide) rfl sg_lay_RX1 (j := 4) (by decide) (by decide) e62 tyX1_ok nmX1 rfl (tyX1_ok 4 (by decide)) rfl (host := "") (.inl kw_163) dX1_init_38 ?_
  refine gw_aload_n F 0 rfl rfl t56.1 dX1_init_41 ?_
  refine gw_iconst F dX1_init_42 ?_
  obtain ⟨s63, e64⟩ : ∃ z : sg_M, z = sg_up s61 o 5 0 := ⟨_, rfl⟩
  have hf := hf s63 e64
  refine gw_put0 F t56 (by decide) rfl sg_lay_RX1 (j := 5) (by decide) (by decide) e64 tyX1_ok nmX1 rfl (tyX1_ok 5 (by decide)) rfl (host := "") (.inl kw_166) dX1_init_43 ?_
  refine gw_aload_n F 0 rfl rfl t56.1 dX1_init_46 ?_
  refine gw_iconst F dX1_init_47 ?_
  obtain ⟨s65, e66⟩ : ∃ z : sg_M, z = sg_up s63 o 6 0 := ⟨_, rfl⟩
  have hf := hf s65 e66
  refine gw_put0 F t56 (by decide) rfl sg_lay_RX1 (j := 6) (by decide) (by decide) e66 tyX1_ok nmX1 rfl (tyX1_ok 6 (by decide)) rfl (host := "") (.inl kw_169) dX1_init_48 ?_
  obtain ⟨g68, hf⟩ := hf
  obtain ⟨La67, e69⟩ : ∃ z : sg_L, z = sg_se La47 o.toNat 1 := ⟨_, rfl⟩
  have hf := hf La67 e69
  refine gy_seal t56 ⟨by decide, by decide, by decide⟩ (by decide) (by decide) g68 e69 ?_
  exact gr_BC F (o := o.toNat) (kd := 1) hf (by rw [e69]; exact sg_X.both hX57) (by decide) (by decide) dX1_init_51

theorem dX11_count_0 : decode cX11_count 0 = .ok (.iload_n 1, 1) := by decide +kernel
theorem dX11_count_1 : decode cX11_count 1 = .ok (.tableswitch 102 0 5 #[39, 50, 61, 72, 83, 94], 39) := by decide +kernel
theorem dX11_count_40 : decode cX11_count 40 = .ok (.aload_n 0, 1) := by decide +kernel
theorem dX11_count_41 : decode cX11_count 41 = .ok (.getfield 39, 3) := by decide +kernel
theorem dX11_count_44 : decode cX11_count 44 = .ok (.getfield 112, 3) := by decide +kernel
theorem dX11_count_47 : decode cX11_count 47 = .ok (.getfield 138, 3) := by decide +kernel
theorem dX11_count_50 : decode cX11_count 50 = .ok (.ireturn, 1) := by decide +kernel
theorem dX11_count_51 : decode cX11_count 51 = .ok (.aload_n 0, 1) := by decide +kernel
theorem dX11_count_52 : decode cX11_count 52 = .ok (.getfield 39, 3) := by decide +kernel
theorem dX11_count_55 : decode cX11_count 55 = .ok (.getfield 112, 3) := by decide +kernel
theorem dX11_count_58 : decode cX11_count 58 = .ok (.getfield 337, 3) := by decide +kernel
theorem dX11_count_61 : decode cX11_count 61 = .ok (.ireturn, 1) := by decide +kernel
theorem dX11_count_62 : decode cX11_count 62 = .ok (.aload_n 0, 1) := by decide +kernel
theorem dX11_count_63 : decode cX11_count 63 = .ok (.getfield 39, 3) := by decide +kernel
theorem dX11_count_66 : decode cX11_count 66 = .ok (.getfield 112, 3) := by decide +kernel
theorem dX11_count_69 : decode cX11_count 69 = .ok (.getfield 340, 3) := by decide +kernel
theorem dX11_count_72 : decode cX11_count 72 = .ok (.ireturn, 1) := by decide +kernel
theorem dX11_count_73 : decode cX11_count 73 = .ok (.aload_n 0, 1) := by decide +kernel
theorem dX11_count_74 : decode cX11_count 74 = .ok (.getfield 39, 3) := by decide +kernel
theorem dX11_count_77 : decode cX11_count 77 = .ok (.getfield 212, 3) := by decide +kernel
theorem dX11_count_80 : decode cX11_count 80 = .ok (.getfield 216, 3) := by decide +kernel
theorem dX11_count_83 : decode cX11_count 83 = .ok (.ireturn, 1) := by decide +kernel
theorem dX11_count_84 : decode cX11_count 84 = .ok (.aload_n 0, 1) := by decide +kernel
theorem dX11_count_85 : decode cX11_count 85 = .ok (.getfield 39, 3) := by decide +kernel
theorem dX11_count_88 : decode cX11_count 88 = .ok (.getfield 237, 3) := by decide +kernel
theorem dX11_count_91 : decode cX11_count 91 = .ok (.getfield 241, 3) := by decide +kernel
theorem dX11_count_94 : decode cX11_count 94 = .ok (.ireturn, 1) := by decide +kernel
theorem dX11_count_95 : decode cX11_count 95 = .ok (.aload_n 0, 1) := by decide +kernel
theorem dX11_count_96 : decode cX11_count 96 = .ok (.getfield 10, 3) := by decide +kernel
theorem dX11_count_99 : decode cX11_count 99 = .ok (.getfield 122, 3) := by decide +kernel
theorem dX11_count_102 : decode cX11_count 102 = .ok (.ireturn, 1) := by decide +kernel
theorem dX11_count_103 : decode cX11_count 103 = .ok (.iconst (-1), 1) := by decide +kernel
theorem dX11_count_104 : decode cX11_count 104 = .ok (.ireturn, 1) := by decide +kernel
theorem hcX11_count : yX11_count.cls ≠ "java/lang/invoke/MethodHandle" ∧ yX11_count.cls ≠ "java/lang/invoke/VarHandle" ∧ (parseMethodDescriptor yX11_count.desc).map (fun d => d.parameters.length) = some 1 := ⟨by decide +kernel, by decide +kernel, by decide +kernel⟩
def fX11_count (s0 : sg_M) (x1 : Int) (Q : Int → Prop) : Prop := ((x1 < 0 ∨ 5 < x1 → Q (-1)) ∧ (x1 = 0 → (0 ≤ (s0 4 0)) ∧ Q (s0 (s0 4 0) 4)) ∧ (x1 = 1 → (0 ≤ (s0 4 0)) ∧ Q (s0 (s0 4 0) 5)) ∧ (x1 = 2 → (0 ≤ (s0 4 0)) ∧ Q (s0 (s0 4 0) 6)) ∧ (x1 = 3 → (0 ≤ (s0 4 1)) ∧ Q (s0 (s0 4 1) 2)) ∧ (x1 = 4 → Q (s0 20 2)) ∧ (x1 = 5 → Q (s0 1 1)))
set_option maxHeartbeats 4000000 in
set_option maxRecDepth 100000 in
theorem CX11_count {l : Launch} {G : sg_G} {La : sg_L} {s0 : sg_M} (hst : sg_St La) {x1 : Int} (r1 : sg_R x1) {Q : Int → Prop} (hf : fX11_count s0 x1 Q) : sg_C l G yX11_count cX11_count 2 (some .int) 1 0 0 La s0 [sg_r 0, sg_i x1] (sg_PI La s0 Q) := by
  refine sg_body (by decide +kernel) (Nat.le_of_ble_eq_true rfl) ?_
  intro p e s m args below meth c F hnm
  unfold fX11_count at hf
  show sg_W p l e (sg_rm 1 0 0) s m args below meth c (MQ below (sg_Q (some .int) G La s.heap.size (sg_PI La s0 Q)) args s 0 0 (sg_A La s.heap.size)) 2 G (sg_A La s.heap.size) La s0 0 0 0 [(0, sg_r 0), (1, sg_i x1)] []
  refine gw_iload_n F 1 rfl rfl dX11_count_0 ?_
  refine gw_switch F dX11_count_1 r1 (td := 103) (by decide) (fun c1 => ?_) (fun i hi1 hi2 => ?_)
  · have hf := hf.1 c1
    refine gw_iconst F dX11_count_103 ?_
    exact gr_PI F (by decide) hf (by decide) (by decide) dX11_count_104
  · rcases (show i = 0 ∨ i = 1 ∨ i = 2 ∨ i = 3 ∨ i = 4 ∨ i = 5 by omega) with rfl | rfl | rfl | rfl | rfl | rfl
    · have hf := hf.2.1 (by omega)
      refine ⟨39, 40, rfl, by decide, ?_⟩
      refine gw_aload_n F 0 rfl rfl (by decide) dX11_count_40 ?_
      refine gw_get7 F (so_0 hst) (by decide) rfl sg_lay_RX11 (j := 2) (by decide) (o1 := 4) (by first | rfl | omega) rfl (host := "") (.inl kw_328) dX11_count_41 (fun h2 => ?_)
      refine gw_get4 F (so_4 hst) (by decide) rfl sg_lay_RX7 (j := 0) (by decide) rfl (.inr kw_234) dX11_count_44 (fun h3 => ?_)
      obtain ⟨g4, hf⟩ := hf
      have t5 := sg_nn h3 g4
      refine gw_get0 F t5 (by decide) rfl sg_lay_RX1 (j := 4) (by decide) rfl (.inr kw_165) dX11_count_47 (fun h6 => ?_)
      exact gr_PI F h6 hf (by decide) (by decide) dX11_count_50
    · have hf := hf.2.2.1 (by omega)
      refine ⟨50, 51, rfl, by decide, ?_⟩
      refine gw_aload_n F 0 rfl rfl (by decide) dX11_count_51 ?_
      refine gw_get7 F (so_0 hst) (by decide) rfl sg_lay_RX11 (j := 2) (by decide) (o1 := 4) (by first | rfl | omega) rfl (host := "") (.inl kw_328) dX11_count_52 (fun h7 => ?_)
      refine gw_get4 F (so_4 hst) (by decide) rfl sg_lay_RX7 (j := 0) (by decide) rfl (.inr kw_234) dX11_count_55 (fun h8 => ?_)
      obtain ⟨g9, hf⟩ := hf
      have t10 := sg_nn h8 g9
      refine gw_get0 F t10 (by decide) rfl sg_lay_RX1 (j := 5) (by decide) rfl (.inr kw_168) dX11_count_58 (fun h11 => ?_)
      exact gr_PI F h11 hf (by decide) (by decide) dX11_count_61
    · have hf := hf.2.2.2.1 (by omega)
      refine ⟨61, 62, rfl, by decide, ?_⟩
      refine gw_aload_n F 0 rfl rfl (by decide) dX11_count_62 ?_
      refine gw_get7 F (so_0 hst) (by decide) rfl sg_lay_RX11 (j := 2) (by decide) (o1 := 4) (by first | rfl | omega) rfl (host := "") (.inl kw_328) dX11_count_63 (fun h12 => ?_)
      refine gw_get4 F (so_4 hst) (by decide) rfl sg_lay_RX7 (j := 0) (by decide) rfl (.inr kw_234) dX11_count_66 (fun h13 => ?_)
      obtain ⟨g14, hf⟩ := hf
      have t15 := sg_nn h13 g14
      refine gw_get0 F t15 (by decide) rfl sg_lay_RX1 (j := 6) (by decide) rfl (.inr kw_171) dX11_count_69 (fun h16 => ?_)
      exact gr_PI F h16 hf (by decide) (by decide) dX11_count_72
    · have hf := hf.2.2.2.2.1 (by omega)
      refine ⟨72, 73, rfl, by decide, ?_⟩
      refine gw_aload_n F 0 rfl rfl (by decide) dX11_count_73 ?_
      refine gw_get7 F (so_0 hst) (by decide) rfl sg_lay_RX11 (j := 2) (by decide) (o1 := 4) (by first | rfl | omega) rfl (host := "") (.inl kw_328) dX11_count_74 (fun h17 => ?_)
      refine gw_get4 F (so_4 hst) (by decide) rfl sg_lay_RX7 (j := 1) (by decide) rfl (.inr kw_236) dX11_count_77 (fun h18 => ?_)
      obtain ⟨g19, hf⟩ := hf
      have t20 := sg_nn h18 g19
      refine gw_get0 F t20 (by decide) rfl sg_lay_RX3 (j := 2) (by decide) rfl (.inr kw_181) dX11_count_80 (fun h21 => ?_)
      exact gr_PI F h21 hf (by decide) (by decide) dX11_count_83
    · have hf := hf.2.2.2.2.2.1 (by omega)
      refine ⟨83, 84, rfl, by decide, ?_⟩
      refine gw_aload_n F 0 rfl rfl (by decide) dX11_count_84 ?_
      refine gw_get7 F (so_0 hst) (by decide) rfl sg_lay_RX11 (j := 2) (by decide) (o1 := 4) (by first | rfl | omega) rfl (host := "") (.inl kw_328) dX11_count_85 (fun h22 => ?_)
      refine gw_get7 F (so_4 hst) (by decide) rfl sg_lay_RX7 (j := 3) (by decide) (o1 := 20) (by first | rfl | omega) rfl (.inr kw_240) dX11_count_88 (fun h23 => ?_)
      refine gw_get0 F (so_20 hst) (by decide) rfl sg_lay_RX2 (j := 2) (by decide) rfl (.inr kw_230) dX11_count_91 (fun h24 => ?_)
      exact gr_PI F h24 hf (by decide) (by decide) dX11_count_94
    · have hf := hf.2.2.2.2.2.2 (by omega)
      refine ⟨94, 95, rfl, by decide, ?_⟩
      refine gw_aload_n F 0 rfl rfl (by decide) dX11_count_95 ?_
      refine gw_get7 F (so_0 hst) (by decide) rfl sg_lay_RX11 (j := 0) (by decide) (o1 := 1) (by first | rfl | omega) rfl (host := "") (.inl kw_326) dX11_count_96 (fun h25 => ?_)
      refine gw_get0 F (so_1 hst) (by decide) rfl sg_lay_RX8 (j := 1) (by decide) rfl (.inr kw_128) dX11_count_99 (fun h26 => ?_)
      exact gr_PI F h26 hf (by decide) (by decide) dX11_count_102

theorem dX8_pairAt_0 : decode cX8_pairAt 0 = .ok (.aload_n 0, 1) := by decide +kernel
theorem dX8_pairAt_1 : decode cX8_pairAt 1 = .ok (.iload_n 1, 1) := by decide +kernel
theorem dX8_pairAt_2 : decode cX8_pairAt 2 = .ok (.invokevirtual 19, 3) := by decide +kernel
theorem dX8_pairAt_5 : decode cX8_pairAt 5 = .ok (.sipush 256, 3) := by decide +kernel
theorem dX8_pairAt_8 : decode cX8_pairAt 8 = .ok (.imul, 1) := by decide +kernel
theorem dX8_pairAt_9 : decode cX8_pairAt 9 = .ok (.aload_n 0, 1) := by decide +kernel
theorem dX8_pairAt_10 : decode cX8_pairAt 10 = .ok (.iload_n 1, 1) := by decide +kernel
theorem dX8_pairAt_11 : decode cX8_pairAt 11 = .ok (.iconst 1, 1) := by decide +kernel
theorem dX8_pairAt_12 : decode cX8_pairAt 12 = .ok (.iadd, 1) := by decide +kernel
theorem dX8_pairAt_13 : decode cX8_pairAt 13 = .ok (.invokevirtual 19, 3) := by decide +kernel
theorem dX8_pairAt_16 : decode cX8_pairAt 16 = .ok (.iadd, 1) := by decide +kernel
theorem dX8_pairAt_17 : decode cX8_pairAt 17 = .ok (.ireturn, 1) := by decide +kernel
theorem hcX8_pairAt : yX8_pairAt.cls ≠ "java/lang/invoke/MethodHandle" ∧ yX8_pairAt.cls ≠ "java/lang/invoke/VarHandle" ∧ (parseMethodDescriptor yX8_pairAt.desc).map (fun d => d.parameters.length) = some 1 := ⟨by decide +kernel, by decide +kernel, by decide +kernel⟩
def fX8_pairAt (s0 : sg_M) (x1 : Int) (Q : Int → Prop) : Prop := fX8_byteAt s0 x1 (fun u1 => sg_R (x1 + 1) ∧ fX8_byteAt s0 (x1 + 1) (fun u4 => sg_R ((u1 * 256) + u4) ∧ Q ((u1 * 256) + u4)))
set_option maxHeartbeats 4000000 in
set_option maxRecDepth 100000 in
theorem CX8_pairAt {l : Launch} {G : sg_G} {La : sg_L} {s0 : sg_M} (hst : sg_St La) {x1 : Int} (r1 : sg_R x1) {Q : Int → Prop} (hf : fX8_pairAt s0 x1 Q) : sg_C l G yX8_pairAt cX8_pairAt 2 (some .int) 2 0 0 La s0 [sg_r 1, sg_i x1] (sg_PI La s0 Q) := by
  refine sg_body (by decide +kernel) (Nat.le_of_ble_eq_true rfl) ?_
  intro p e s m args below meth c F hnm
  unfold fX8_pairAt at hf
  show sg_W p l e (sg_rm 2 0 0) s m args below meth c (MQ below (sg_Q (some .int) G La s.heap.size (sg_PI La s0 Q)) args s 0 0 (sg_A La s.heap.size)) 2 G (sg_A La s.heap.size) La s0 0 0 0 [(0, sg_r 1), (1, sg_i x1)] []
  refine gw_aload_n F 0 rfl rfl (by decide) dX8_pairAt_0 ?_
  refine gw_iload_n F 1 rfl rfl dX8_pairAt_1 ?_
  refine gk_PI F (gc_V F (S := []) (As := [sg_i x1]) (T := TX8) (N := 2) (CX8_byteAt hst r1 hf) (so_1 hst) (by decide) rfl kw_372 kw_91 kw_681 kw_370 kw_371 hcX8_byteAt ⟨by decide, by decide⟩ rfl rfl (Nat.le_of_ble_eq_true rfl) ⟨by decide, by decide⟩ dX8_pairAt_2) (fun u1 h2 hf => ?_)
  refine gw_sipush F rfl dX8_pairAt_5 ?_
  refine gw_imul F rfl dX8_pairAt_8 ?_
  refine gw_aload_n F 0 rfl rfl (by decide) dX8_pairAt_9 ?_
  refine gw_iload_n F 1 rfl rfl dX8_pairAt_10 ?_
  refine gw_iconst F dX8_pairAt_11 ?_
  refine gw_iadd F rfl dX8_pairAt_12 ?_
  obtain ⟨g3, hf⟩ := hf
  refine gk_PI F (gc_V F (S := [sg_i (u1 * 256)]) (As := [sg_i (x1 + 1)]) (T := TX8) (N := 2) (CX8_byteAt hst g3 hf) (so_1 hst) (by decide) rfl kw_372 kw_91 kw_681 kw_370 kw_371 hcX8_byteAt ⟨by decide, by decide⟩ rfl rfl (Nat.le_of_ble_eq_true rfl) ⟨by decide, by decide⟩ dX8_pairAt_13) (fun u4 h5 hf => ?_)
  refine gw_iadd F rfl dX8_pairAt_16 ?_
  obtain ⟨g6, hf⟩ := hf
  exact gr_PI F g6 hf (by decide) (by decide) dX8_pairAt_17

theorem dX6_readNotes_0 : decode cX6_readNotes 0 = .ok (.aload_n 0, 1) := by decide +kernel
theorem dX6_readNotes_1 : decode cX6_readNotes 1 = .ok (.getfield 20, 3) := by decide +kernel
theorem dX6_readNotes_4 : decode cX6_readNotes 4 = .ok (.invokevirtual 27, 3) := by decide +kernel
theorem dX6_readNotes_7 : decode cX6_readNotes 7 = .ok (.aload_n 1, 1) := by decide +kernel
theorem dX6_readNotes_8 : decode cX6_readNotes 8 = .ok (.getfield 30, 3) := by decide +kernel
theorem dX6_readNotes_11 : decode cX6_readNotes 11 = .ok (.iconst 2, 1) := by decide +kernel
theorem dX6_readNotes_12 : decode cX6_readNotes 12 = .ok (.if_icmp .lt 21, 3) := by decide +kernel
theorem dX6_readNotes_15 : decode cX6_readNotes 15 = .ok (.aload_n 1, 1) := by decide +kernel
theorem dX6_readNotes_16 : decode cX6_readNotes 16 = .ok (.getfield 30, 3) := by decide +kernel
theorem dX6_readNotes_19 : decode cX6_readNotes 19 = .ok (.bipush 120, 2) := by decide +kernel
theorem dX6_readNotes_21 : decode cX6_readNotes 21 = .ok (.if_icmp .gt 12, 3) := by decide +kernel
theorem dX6_readNotes_24 : decode cX6_readNotes 24 = .ok (.aload_n 1, 1) := by decide +kernel
theorem dX6_readNotes_25 : decode cX6_readNotes 25 = .ok (.getfield 30, 3) := by decide +kernel
theorem dX6_readNotes_28 : decode cX6_readNotes 28 = .ok (.iconst 2, 1) := by decide +kernel
theorem dX6_readNotes_29 : decode cX6_readNotes 29 = .ok (.irem, 1) := by decide +kernel
theorem dX6_readNotes_30 : decode cX6_readNotes 30 = .ok (.ifCond .eq 5, 3) := by decide +kernel
theorem dX6_readNotes_33 : decode cX6_readNotes 33 = .ok (.iconst 0, 1) := by decide +kernel
theorem dX6_readNotes_34 : decode cX6_readNotes 34 = .ok (.ireturn, 1) := by decide +kernel
theorem dX6_readNotes_35 : decode cX6_readNotes 35 = .ok (.iconst 0, 1) := by decide +kernel
theorem dX6_readNotes_36 : decode cX6_readNotes 36 = .ok (.istore_n 2, 1) := by decide +kernel
theorem dX6_readNotes_37 : decode cX6_readNotes 37 = .ok (.iload_n 2, 1) := by decide +kernel
theorem dX6_readNotes_38 : decode cX6_readNotes 38 = .ok (.aload_n 1, 1) := by decide +kernel
theorem dX6_readNotes_39 : decode cX6_readNotes 39 = .ok (.getfield 30, 3) := by decide +kernel
theorem dX6_readNotes_42 : decode cX6_readNotes 42 = .ok (.if_icmp .ge 34, 3) := by decide +kernel
theorem dX6_readNotes_45 : decode cX6_readNotes 45 = .ok (.aload_n 1, 1) := by decide +kernel
theorem dX6_readNotes_46 : decode cX6_readNotes 46 = .ok (.iload_n 2, 1) := by decide +kernel
theorem dX6_readNotes_47 : decode cX6_readNotes 47 = .ok (.invokevirtual 36, 3) := by decide +kernel
theorem dX6_readNotes_50 : decode cX6_readNotes 50 = .ok (.invokestatic 40, 3) := by decide +kernel
theorem dX6_readNotes_53 : decode cX6_readNotes 53 = .ok (.ifCond .ne 5, 3) := by decide +kernel
theorem dX6_readNotes_56 : decode cX6_readNotes 56 = .ok (.iconst 0, 1) := by decide +kernel
theorem dX6_readNotes_57 : decode cX6_readNotes 57 = .ok (.ireturn, 1) := by decide +kernel
theorem dX6_readNotes_58 : decode cX6_readNotes 58 = .ok (.aload_n 0, 1) := by decide +kernel
theorem dX6_readNotes_59 : decode cX6_readNotes 59 = .ok (.getfield 20, 3) := by decide +kernel
theorem dX6_readNotes_62 : decode cX6_readNotes 62 = .ok (.aload_n 1, 1) := by decide +kernel
theorem dX6_readNotes_63 : decode cX6_readNotes 63 = .ok (.iload_n 2, 1) := by decide +kernel
theorem dX6_readNotes_64 : decode cX6_readNotes 64 = .ok (.invokevirtual 36, 3) := by decide +kernel
theorem dX6_readNotes_67 : decode cX6_readNotes 67 = .ok (.invokevirtual 44, 3) := by decide +kernel
theorem dX6_readNotes_70 : decode cX6_readNotes 70 = .ok (.iinc 2 2, 3) := by decide +kernel
theorem dX6_readNotes_73 : decode cX6_readNotes 73 = .ok (.goto (-36), 3) := by decide +kernel
theorem dX6_readNotes_76 : decode cX6_readNotes 76 = .ok (.iconst 1, 1) := by decide +kernel
theorem dX6_readNotes_77 : decode cX6_readNotes 77 = .ok (.ireturn, 1) := by decide +kernel
theorem hcX6_readNotes : yX6_readNotes.cls ≠ "java/lang/invoke/MethodHandle" ∧ yX6_readNotes.cls ≠ "java/lang/invoke/VarHandle" ∧ (parseMethodDescriptor yX6_readNotes.desc).map (fun d => d.parameters.length) = some 1 := ⟨by decide +kernel, by decide +kernel, by decide +kernel⟩
def fX6_readNotes_L37 (La : sg_L) (Q : Int → sg_M → Prop) : Nat → sg_M → Int → Prop
  | 0, _, _ => False
  | n_37 + 1, s_37, x2_37 => (((s_37 1 1) ≤ x2_37 → Q 1 s_37) ∧ (¬ ((s_37 1 1) ≤ x2_37) → fX8_pairAt s_37 x2_37 (fun u12 => fX11_isTone u12 (fun u14 => ((u14 ≠ 0 → fX8_pairAt s_37 x2_37 (fun u18 => fX4_add La s_37 48 u18 (fun s20 => sg_R (x2_37 + 2) ∧ (fX6_readNotes_L37 La Q n_37) s20 (x2_37 + 2)))) ∧ (u14 = 0 → Q 0 s_37))))))
def fX6_readNotes (La : sg_L) (s0 : sg_M) (Q : Int → sg_M → Prop) : Prop := fX4_clear s0 48 (fun s2 => (((s2 1 1) < 2 → Q 0 s2) ∧ (¬ ((s2 1 1) < 2) → ((120 < (s2 1 1) → Q 0 s2) ∧ (¬ (120 < (s2 1 1)) → sg_R (Int.tmod (s2 1 1) 2) ∧ (((Int.tmod (s2 1 1) 2) = 0 → (∃ n22 : Nat, fX6_readNotes_L37 La Q n22 s2 0)) ∧ (¬ ((Int.tmod (s2 1 1) 2) = 0) → Q 0 s2)))))))
set_option maxHeartbeats 4000000 in
set_option maxRecDepth 100000 in
theorem CX6_readNotes {l : Launch} {G : sg_G} {La : sg_L} {s0 : sg_M} (hst : sg_St La) {Q : Int → sg_M → Prop} (hf : fX6_readNotes La s0 Q) : sg_C l G yX6_readNotes cX6_readNotes 3 (some .boolean) 3 0 0 La s0 [sg_r 46, sg_r 1] (sg_HZ La Q) := by
  refine sg_body (by decide +kernel) (Nat.le_of_ble_eq_true rfl) ?_
  intro p e s m args below meth c F hnm
  unfold fX6_readNotes at hf
  show sg_W p l e (sg_rm 3 0 0) s m args below meth c (MQ below (sg_Q (some .boolean) G La s.heap.size (sg_HZ La Q)) args s 0 0 (sg_A La s.heap.size)) 3 G (sg_A La s.heap.size) La s0 0 0 0 [(0, sg_r 46), (1, sg_r 1)] []
  refine gw_aload_n F 0 rfl rfl (by decide) dX6_readNotes_0 ?_
  refine gw_get3 F (so_46 hst) (by decide) rfl sg_lay_RX6 (j := 1) (by decide) (o1 := 48) (by first | rfl | omega) rfl (host := "") (.inl kw_313) dX6_readNotes_1 (fun h1 => ?_)
  refine gk_HV F (gc_V F (S := []) (As := []) (T := TX4) (N := 3) (CX4_clear (so_48 hst) hf) (so_48 hst) (by decide) rfl kw_531 kw_97 kw_676 kw_529 kw_530 hcX4_clear ⟨by decide, by decide⟩ rfl rfl (Nat.le_of_ble_eq_true rfl) ⟨by decide, by decide⟩ dX6_readNotes_4) (fun s2 hf => ?_)
  refine gw_aload_n F 1 rfl rfl (by decide) dX6_readNotes_7 ?_
  refine gw_get0 F (so_1 hst) (by decide) rfl sg_lay_RX8 (j := 1) (by decide) rfl (.inr kw_129) dX6_readNotes_8 (fun h3 => ?_)
  refine gw_iconst F dX6_readNotes_11 ?_
  refine gw_icmp_lt F (tgt := 33) dX6_readNotes_12 (by decide) h3 (by decide) (fun c4 => ?_) (fun c4 => ?_)
  · have hf := hf.1 c4
    refine gw_iconst F dX6_readNotes_33 ?_
    exact gr_HZ F (by decide) hf (by decide) (by decide) dX6_readNotes_34
  · have hf := hf.2 c4
    refine gw_aload_n F 1 rfl rfl (by decide) dX6_readNotes_15 ?_
    refine gw_get0 F (so_1 hst) (by decide) rfl sg_lay_RX8 (j := 1) (by decide) rfl (.inr kw_129) dX6_readNotes_16 (fun h5 => ?_)
    refine gw_bipush F rfl dX6_readNotes_19 ?_
    refine gw_icmp_gt F (tgt := 33) dX6_readNotes_21 (by decide) h5 (by decide) (fun c6 => ?_) (fun c6 => ?_)
    · have hf := hf.1 c6
      refine gw_iconst F dX6_readNotes_33 ?_
      exact gr_HZ F (by decide) hf (by decide) (by decide) dX6_readNotes_34
    · have hf := hf.2 c6
      refine gw_aload_n F 1 rfl rfl (by decide) dX6_readNotes_24 ?_
      refine gw_get0 F (so_1 hst) (by decide) rfl sg_lay_RX8 (j := 1) (by decide) rfl (.inr kw_129) dX6_readNotes_25 (fun h7 => ?_)
      refine gw_iconst F dX6_readNotes_28 ?_
      refine gw_irem F h7 (by decide) (by decide) rfl dX6_readNotes_29 ?_
      obtain ⟨g8, hf⟩ := hf
      refine gw_if_eq F (tgt := 35) dX6_readNotes_30 (by decide) g8 (fun c9 => ?_) (fun c9 => ?_)
      · have hf := hf.1 c9
        refine gw_iconst F dX6_readNotes_35 ?_
        refine gw_istore_n F rfl (by decide) rfl dX6_readNotes_36 ?_
        have L37 : ∀ n_37 : Nat, ∀ (s_37 : sg_M) (x2_37 : Int), sg_R x2_37 → fX6_readNotes_L37 La Q n_37 s_37 x2_37 → sg_W p l e (sg_rm 3 0 0) s m args below meth c (MQ below (sg_Q (some .boolean) G La s.heap.size (sg_HZ La Q)) args s 0 0 (sg_A La s.heap.size)) 3 G (sg_A La s.heap.size) La s_37 0 0 37 [(0, sg_r 46), (1, sg_r 1), (2, sg_i x2_37)] [] := by
          intro n_37
          induction n_37 with
          | zero => intro s_37 x2_37 r2_37 hf; exact hf.elim
          | succ n_37 ih =>
            intro s_37 x2_37 r2_37 hf
            unfold fX6_readNotes_L37 at hf
            refine gw_iload_n F 2 rfl rfl dX6_readNotes_37 ?_
            refine gw_aload_n F 1 rfl rfl (by decide) dX6_readNotes_38 ?_
            refine gw_get0 F (so_1 hst) (by decide) rfl sg_lay_RX8 (j := 1) (by decide) rfl (.inr kw_129) dX6_readNotes_39 (fun h10 => ?_)
            refine gw_icmp_ge F (tgt := 76) dX6_readNotes_42 (by decide) r2_37 h10 (fun c11 => ?_) (fun c11 => ?_)
            · have hf := hf.1 c11
              refine gw_iconst F dX6_readNotes_76 ?_
              exact gr_HZ F (by decide) hf (by decide) (by decide) dX6_readNotes_77
            · have hf := hf.2 c11
              refine gw_aload_n F 1 rfl rfl (by decide) dX6_readNotes_45 ?_
              refine gw_iload_n F 2 rfl rfl dX6_readNotes_46 ?_
              refine gk_PI F (gc_V F (S := []) (As := [sg_i x2_37]) (T := TX8) (N := 2) (CX8_pairAt hst r2_37 hf) (so_1 hst) (by decide) rfl kw_680 kw_91 kw_677 kw_678 kw_679 hcX8_pairAt ⟨by decide, by decide⟩ rfl rfl (Nat.le_of_ble_eq_true rfl) ⟨by decide, by decide⟩ dX6_readNotes_47) (fun u12 h13 hf => ?_)
              refine gk_PZ F (gc_SN F (S := []) (As := [sg_i u12]) (CX11_isTone h13 hf) kw_684 kw_90 kw_682 kw_683 hcX11_isTone ⟨by decide, by decide⟩ rfl rfl (Nat.le_of_ble_eq_true rfl) ⟨by decide, by decide⟩ dX6_readNotes_50) (fun u14 h15 hf => ?_)
              refine gw_if_ne F (tgt := 58) dX6_readNotes_53 (by decide) (sg_B_R h15) (fun c16 => ?_) (fun c16 => ?_)
              · have hf := hf.1 c16
                refine gw_aload_n F 0 rfl rfl (by decide) dX6_readNotes_58 ?_
                refine gw_get3 F (so_46 hst) (by decide) rfl sg_lay_RX6 (j := 1) (by decide) (o1 := 48) (by first | rfl | omega) rfl (host := "") (.inl kw_313) dX6_readNotes_59 (fun h17 => ?_)
                refine gw_aload_n F 1 rfl rfl (by decide) dX6_readNotes_62 ?_
                refine gw_iload_n F 2 rfl rfl dX6_readNotes_63 ?_
                refine gk_PI F (gc_V F (S := [sg_r 48]) (As := [sg_i x2_37]) (T := TX8) (N := 2) (CX8_pairAt hst r2_37 hf) (so_1 hst) (by decide) rfl kw_680 kw_91 kw_677 kw_678 kw_679 hcX8_pairAt ⟨by decide, by decide⟩ rfl rfl (Nat.le_of_ble_eq_true rfl) ⟨by decide, by decide⟩ dX6_readNotes_64) (fun u18 h19 hf => ?_)
                refine gk_HV F (gc_V F (S := []) (As := [sg_i u18]) (T := TX4) (N := 3) (CX4_add (so_48 hst) h19 hf) (so_48 hst) (by decide) rfl kw_538 kw_97 kw_685 kw_536 kw_537 hcX4_add ⟨by decide, by decide⟩ rfl rfl (Nat.le_of_ble_eq_true rfl) ⟨by decide, by decide⟩ dX6_readNotes_67) (fun s20 hf => ?_)
                refine gw_iinc F (z := (x2_37 + 2)) 2 rfl (by omega) (by decide) rfl dX6_readNotes_70 ?_
                refine gw_goto F (tgt := 37) dX6_readNotes_73 (by decide) ?_
                obtain ⟨g21, hf⟩ := hf
                refine gw_sub [1, 2, 0] rfl ?_
                exact ih s20 (x2_37 + 2) g21 hf
              · have hf := hf.2 c16
                refine gw_iconst F dX6_readNotes_56 ?_
                exact gr_HZ F (by decide) hf (by decide) (by decide) dX6_readNotes_57
        obtain ⟨n22, hf⟩ := hf
        refine gw_sub [1, 2, 0] rfl ?_
        refine L37   n22 s2 0 (by decide) hf
      · have hf := hf.2 c9
        refine gw_iconst F dX6_readNotes_33 ?_
        exact gr_HZ F (by decide) hf (by decide) (by decide) dX6_readNotes_34

theorem dX2_way_0 : decode cX2_way 0 = .ok (.aload_n 0, 1) := by decide +kernel
theorem dX2_way_1 : decode cX2_way 1 = .ok (.getfield 14, 3) := by decide +kernel
theorem dX2_way_4 : decode cX2_way 4 = .ok (.iload_n 1, 1) := by decide +kernel
theorem dX2_way_5 : decode cX2_way 5 = .ok (.invokevirtual 34, 3) := by decide +kernel
theorem dX2_way_8 : decode cX2_way 8 = .ok (.aload_n 0, 1) := by decide +kernel
theorem dX2_way_9 : decode cX2_way 9 = .ok (.getfield 14, 3) := by decide +kernel
theorem dX2_way_12 : decode cX2_way 12 = .ok (.iload_n 2, 1) := by decide +kernel
theorem dX2_way_13 : decode cX2_way 13 = .ok (.invokevirtual 34, 3) := by decide +kernel
theorem dX2_way_16 : decode cX2_way 16 = .ok (.isub, 1) := by decide +kernel
theorem dX2_way_17 : decode cX2_way 17 = .ok (.invokestatic 38, 3) := by decide +kernel
theorem dX2_way_20 : decode cX2_way 20 = .ok (.aload_n 0, 1) := by decide +kernel
theorem dX2_way_21 : decode cX2_way 21 = .ok (.getfield 20, 3) := by decide +kernel
theorem dX2_way_24 : decode cX2_way 24 = .ok (.iload_n 1, 1) := by decide +kernel
theorem dX2_way_25 : decode cX2_way 25 = .ok (.invokevirtual 34, 3) := by decide +kernel
theorem dX2_way_28 : decode cX2_way 28 = .ok (.aload_n 0, 1) := by decide +kernel
theorem dX2_way_29 : decode cX2_way 29 = .ok (.getfield 20, 3) := by decide +kernel
theorem dX2_way_32 : decode cX2_way 32 = .ok (.iload_n 2, 1) := by decide +kernel
theorem dX2_way_33 : decode cX2_way 33 = .ok (.invokevirtual 34, 3) := by decide +kernel
theorem dX2_way_36 : decode cX2_way 36 = .ok (.isub, 1) := by decide +kernel
theorem dX2_way_37 : decode cX2_way 37 = .ok (.invokestatic 38, 3) := by decide +kernel
theorem dX2_way_40 : decode cX2_way 40 = .ok (.iadd, 1) := by decide +kernel
theorem dX2_way_41 : decode cX2_way 41 = .ok (.ireturn, 1) := by decide +kernel
theorem hcX2_way : yX2_way.cls ≠ "java/lang/invoke/MethodHandle" ∧ yX2_way.cls ≠ "java/lang/invoke/VarHandle" ∧ (parseMethodDescriptor yX2_way.desc).map (fun d => d.parameters.length) = some 2 := ⟨by decide +kernel, by decide +kernel, by decide +kernel⟩
def fX2_way (La : sg_L) (s0 : sg_M) (o : Int) (x1 : Int) (x2 : Int) (Q : Int → Prop) : Prop := fX4_at La s0 (o + 1) x1 (fun u2 => fX4_at La s0 (o + 1) x2 (fun u5 => sg_R (u2 - u5) ∧ fX4_at La s0 (o + 3) x1 (fun u9 => fX4_at La s0 (o + 3) x2 (fun u12 => sg_R (u9 - u12) ∧ sg_R ((sg_abs (u2 - u5)) + (sg_abs (u9 - u12))) ∧ Q ((sg_abs (u2 - u5)) + (sg_abs (u9 - u12)))))))
set_option maxHeartbeats 4000000 in
set_option maxRecDepth 100000 in
theorem CX2_way {l : Launch} {G : sg_G} {La : sg_L} {s0 : sg_M} {o : Int} (to : sg_O La o 2) {x1 : Int} (r1 : sg_R x1) {x2 : Int} (r2 : sg_R x2) {Q : Int → Prop} (hf : fX2_way La s0 o x1 x2 Q) : sg_C l G yX2_way cX2_way 3 (some .int) 2 0 0 La s0 [sg_r o, sg_i x1, sg_i x2] (sg_PI La s0 Q) := by
  refine sg_body (by decide +kernel) (Nat.le_of_ble_eq_true rfl) ?_
  intro p e s m args below meth c F hnm
  unfold fX2_way at hf
  show sg_W p l e (sg_rm 2 0 0) s m args below meth c (MQ below (sg_Q (some .int) G La s.heap.size (sg_PI La s0 Q)) args s 0 0 (sg_A La s.heap.size)) 3 G (sg_A La s.heap.size) La s0 0 0 0 [(0, sg_r o), (1, sg_i x1), (2, sg_i x2)] []
  refine gw_aload_n F 0 rfl rfl to.1 dX2_way_0 ?_
  refine gw_get3 F to (by decide) rfl sg_lay_RX2 (j := 0) (by decide) (o1 := (o + 1)) (by first | rfl | omega) rfl (host := "") (.inl kw_224) dX2_way_1 (fun h1 => ?_)
  refine gw_iload_n F 1 rfl rfl dX2_way_4 ?_
  refine gk_PI F (gc_V F (S := []) (As := [sg_i x1]) (T := TX4) (N := 3) (CX4_at (sg_O_of h1 (by decide)) r1 hf) (sg_O_of h1 (by decide)) (by decide) rfl kw_546 kw_97 kw_711 kw_544 kw_545 hcX4_at ⟨by decide, by decide⟩ rfl rfl (Nat.le_of_ble_eq_true rfl) ⟨by decide, by decide⟩ dX2_way_5) (fun u2 h3 hf => ?_)
  refine gw_aload_n F 0 rfl rfl to.1 dX2_way_8 ?_
  refine gw_get3 F to (by decide) rfl sg_lay_RX2 (j := 0) (by decide) (o1 := (o + 1)) (by first | rfl | omega) rfl (host := "") (.inl kw_224) dX2_way_9 (fun h4 => ?_)
  refine gw_iload_n F 2 rfl rfl dX2_way_12 ?_
  refine gk_PI F (gc_V F (S := [sg_i u2]) (As := [sg_i x2]) (T := TX4) (N := 3) (CX4_at (sg_O_of h4 (by decide)) r2 hf) (sg_O_of h4 (by decide)) (by decide) rfl kw_546 kw_97 kw_711 kw_544 kw_545 hcX4_at ⟨by decide, by decide⟩ rfl rfl (Nat.le_of_ble_eq_true rfl) ⟨by decide, by decide⟩ dX2_way_13) (fun u5 h6 hf => ?_)
  refine gw_isub F rfl dX2_way_16 ?_
  obtain ⟨g7, hf⟩ := hf
  refine gw_abs F g7 rfl kw_712 kw_abs1 kw_math kw_abs2 (Nat.le_of_ble_eq_true rfl) (by decide) (by decide) (by decide) (by decide) dX2_way_17 ?_
  refine gw_aload_n F 0 rfl rfl to.1 dX2_way_20 ?_
  refine gw_get3 F to (by decide) rfl sg_lay_RX2 (j := 1) (by decide) (o1 := (o + 3)) (by first | rfl | omega) rfl (host := "") (.inl kw_226) dX2_way_21 (fun h8 => ?_)
  refine gw_iload_n F 1 rfl rfl dX2_way_24 ?_
  refine gk_PI F (gc_V F (S := [sg_i (sg_abs (u2 - u5))]) (As := [sg_i x1]) (T := TX4) (N := 3) (CX4_at (sg_O_of h8 (by decide)) r1 hf) (sg_O_of h8 (by decide)) (by decide) rfl kw_546 kw_97 kw_711 kw_544 kw_545 hcX4_at ⟨by decide, by decide⟩ rfl rfl (Nat.le_of_ble_eq_true rfl) ⟨by decide, by decide⟩ dX2_way_25) (fun u9 h10 hf => ?_)
  refine gw_aload_n F 0 rfl rfl to.1 dX2_way_28 ?_
  refine gw_get3 F to (by decide) rfl sg_lay_RX2 (j := 1) (by decide) (o1 := (o + 3)) (by first | rfl | omega) rfl (host := "") (.inl kw_226) dX2_way_29 (fun h11 => ?_)
  refine gw_iload_n F 2 rfl rfl dX2_way_32 ?_
  refine gk_PI F (gc_V F (S := [sg_i u9, sg_i (sg_abs (u2 - u5))]) (As := [sg_i x2]) (T := TX4) (N := 3) (CX4_at (sg_O_of h11 (by decide)) r2 hf) (sg_O_of h11 (by decide)) (by decide) rfl kw_546 kw_97 kw_711 kw_544 kw_545 hcX4_at ⟨by decide, by decide⟩ rfl rfl (Nat.le_of_ble_eq_true rfl) ⟨by decide, by decide⟩ dX2_way_33) (fun u12 h13 hf => ?_)
  refine gw_isub F rfl dX2_way_36 ?_
  obtain ⟨g14, hf⟩ := hf
  refine gw_abs F g14 rfl kw_712 kw_abs1 kw_math kw_abs2 (Nat.le_of_ble_eq_true rfl) (by decide) (by decide) (by decide) (by decide) dX2_way_37 ?_
  refine gw_iadd F rfl dX2_way_40 ?_
  obtain ⟨g15, hf⟩ := hf
  exact gr_PI F g15 hf (by decide) (by decide) dX2_way_41

theorem dX6_costAt_0 : decode cX6_costAt 0 = .ok (.iload_n 1, 1) := by decide +kernel
theorem dX6_costAt_1 : decode cX6_costAt 1 = .ok (.bipush 40, 2) := by decide +kernel
theorem dX6_costAt_3 : decode cX6_costAt 3 = .ok (.imul, 1) := by decide +kernel
theorem dX6_costAt_4 : decode cX6_costAt 4 = .ok (.iload_n 2, 1) := by decide +kernel
theorem dX6_costAt_5 : decode cX6_costAt 5 = .ok (.iadd, 1) := by decide +kernel
theorem dX6_costAt_6 : decode cX6_costAt 6 = .ok (.istore_n 3, 1) := by decide +kernel
theorem dX6_costAt_7 : decode cX6_costAt 7 = .ok (.iload_n 3, 1) := by decide +kernel
theorem dX6_costAt_8 : decode cX6_costAt 8 = .ok (.ifCond .lt 12, 3) := by decide +kernel
theorem dX6_costAt_11 : decode cX6_costAt 11 = .ok (.iload_n 3, 1) := by decide +kernel
theorem dX6_costAt_12 : decode cX6_costAt 12 = .ok (.aload_n 0, 1) := by decide +kernel
theorem dX6_costAt_13 : decode cX6_costAt 13 = .ok (.getfield 9, 3) := by decide +kernel
theorem dX6_costAt_16 : decode cX6_costAt 16 = .ok (.arraylength, 1) := by decide +kernel
theorem dX6_costAt_17 : decode cX6_costAt 17 = .ok (.if_icmp .lt 7, 3) := by decide +kernel
theorem dX6_costAt_20 : decode cX6_costAt 20 = .ok (.iconst (-1), 1) := by decide +kernel
theorem dX6_costAt_21 : decode cX6_costAt 21 = .ok (.goto 9, 3) := by decide +kernel
theorem dX6_costAt_24 : decode cX6_costAt 24 = .ok (.aload_n 0, 1) := by decide +kernel
theorem dX6_costAt_25 : decode cX6_costAt 25 = .ok (.getfield 9, 3) := by decide +kernel
theorem dX6_costAt_28 : decode cX6_costAt 28 = .ok (.iload_n 3, 1) := by decide +kernel
theorem dX6_costAt_29 : decode cX6_costAt 29 = .ok (.iaload, 1) := by decide +kernel
theorem dX6_costAt_30 : decode cX6_costAt 30 = .ok (.ireturn, 1) := by decide +kernel
theorem hcX6_costAt : yX6_costAt.cls ≠ "java/lang/invoke/MethodHandle" ∧ yX6_costAt.cls ≠ "java/lang/invoke/VarHandle" ∧ (parseMethodDescriptor yX6_costAt.desc).map (fun d => d.parameters.length) = some 2 := ⟨by decide +kernel, by decide +kernel, by decide +kernel⟩
def fX6_costAt (s0 : sg_M) (x1 : Int) (x2 : Int) (Q : Int → Prop) : Prop := sg_R ((x1 * 40) + x2) ∧ ((((x1 * 40) + x2) < 0 → Q (-1)) ∧ (¬ (((x1 * 40) + x2) < 0) → sg_R 2400 ∧ ((((x1 * 40) + x2) < 2400 → (0 ≤ ((x1 * 40) + x2) ∧ ((x1 * 40) + x2) < 2400) ∧ Q (s0 47 ((x1 * 40) + x2))) ∧ (¬ (((x1 * 40) + x2) < 2400) → Q (-1)))))
set_option maxHeartbeats 4000000 in
set_option maxRecDepth 100000 in
theorem CX6_costAt {l : Launch} {G : sg_G} {La : sg_L} {s0 : sg_M} (hst : sg_St La) {x1 : Int} (r1 : sg_R x1) {x2 : Int} (r2 : sg_R x2) {Q : Int → Prop} (hf : fX6_costAt s0 x1 x2 Q) : sg_C l G yX6_costAt cX6_costAt 4 (some .int) 1 0 0 La s0 [sg_r 46, sg_i x1, sg_i x2] (sg_PI La s0 Q) := by
  refine sg_body (by decide +kernel) (Nat.le_of_ble_eq_true rfl) ?_
  intro p e s m args below meth c F hnm
  unfold fX6_costAt at hf
  show sg_W p l e (sg_rm 1 0 0) s m args below meth c (MQ below (sg_Q (some .int) G La s.heap.size (sg_PI La s0 Q)) args s 0 0 (sg_A La s.heap.size)) 4 G (sg_A La s.heap.size) La s0 0 0 0 [(0, sg_r 46), (1, sg_i x1), (2, sg_i x2)] []
  refine gw_iload_n F 1 rfl rfl dX6_costAt_0 ?_
  refine gw_bipush F rfl dX6_costAt_1 ?_
  refine gw_imul F rfl dX6_costAt_3 ?_
  refine gw_iload_n F 2 rfl rfl dX6_costAt_4 ?_
  refine gw_iadd F rfl dX6_costAt_5 ?_
  refine gw_istore_n F rfl (by decide) rfl dX6_costAt_6 ?_
  refine gw_iload_n F 0 rfl rfl dX6_costAt_7 ?_
  obtain ⟨g1, hf⟩ := hf
  refine gw_if_lt F (tgt := 20) dX6_costAt_8 (by decide) g1 (fun c2 => ?_) (fun c2 => ?_)
  · have hf := hf.1 c2
    refine gw_iconst F dX6_costAt_20 ?_
    refine gw_goto F (tgt := 30) dX6_costAt_21 (by decide) ?_
    exact gr_PI F (by decide) hf (by decide) (by decide) dX6_costAt_30
  · have hf := hf.2 c2
    refine gw_iload_n F 0 rfl rfl dX6_costAt_11 ?_
    refine gw_aload_n F 1 rfl rfl (by decide) dX6_costAt_12 ?_
    refine gw_get3 F (so_46 hst) (by decide) rfl sg_lay_RX6 (j := 0) (by decide) (o1 := 47) (by first | rfl | omega) rfl (host := "") (.inl kw_312) dX6_costAt_13 (fun h3 => ?_)
    refine gw_alen F (sa_47 hst) dX6_costAt_16 ?_
    obtain ⟨g4, hf⟩ := hf
    refine gw_icmp_lt F (tgt := 24) dX6_costAt_17 (by decide) g1 g4 (fun c5 => ?_) (fun c5 => ?_)
    · have hf := hf.1 c5
      refine gw_aload_n F 1 rfl rfl (by decide) dX6_costAt_24 ?_
      refine gw_get3 F (so_46 hst) (by decide) rfl sg_lay_RX6 (j := 0) (by decide) (o1 := 47) (by first | rfl | omega) rfl (host := "") (.inl kw_312) dX6_costAt_25 (fun h6 => ?_)
      refine gw_iload_n F 0 rfl rfl dX6_costAt_28 ?_
      obtain ⟨⟨b70, b71⟩, hf⟩ := hf
      refine gw_iald F (sa_47 hst) b70 b71 dX6_costAt_29 (fun h8 => ?_)
      exact gr_PI F h8 hf (by decide) (by decide) dX6_costAt_30
    · have hf := hf.2 c5
      refine gw_iconst F dX6_costAt_20 ?_
      refine gw_goto F (tgt := 30) dX6_costAt_21 (by decide) ?_
      exact gr_PI F (by decide) hf (by decide) (by decide) dX6_costAt_30

theorem dX6_cheapestNext_0 : decode cX6_cheapestNext 0 = .ok (.iconst (-1), 1) := by decide +kernel
theorem dX6_cheapestNext_1 : decode cX6_cheapestNext 1 = .ok (.istore 4, 2) := by decide +kernel
theorem dX6_cheapestNext_3 : decode cX6_cheapestNext 3 = .ok (.iconst 0, 1) := by decide +kernel
theorem dX6_cheapestNext_4 : decode cX6_cheapestNext 4 = .ok (.istore 5, 2) := by decide +kernel
theorem dX6_cheapestNext_6 : decode cX6_cheapestNext 6 = .ok (.iconst 0, 1) := by decide +kernel
theorem dX6_cheapestNext_7 : decode cX6_cheapestNext 7 = .ok (.istore 6, 2) := by decide +kernel
theorem dX6_cheapestNext_9 : decode cX6_cheapestNext 9 = .ok (.iload 6, 2) := by decide +kernel
theorem dX6_cheapestNext_11 : decode cX6_cheapestNext 11 = .ok (.aload_n 1, 1) := by decide +kernel
theorem dX6_cheapestNext_12 : decode cX6_cheapestNext 12 = .ok (.getfield 48, 3) := by decide +kernel
theorem dX6_cheapestNext_15 : decode cX6_cheapestNext 15 = .ok (.if_icmp .ge 68, 3) := by decide +kernel
theorem dX6_cheapestNext_18 : decode cX6_cheapestNext 18 = .ok (.aload_n 0, 1) := by decide +kernel
theorem dX6_cheapestNext_19 : decode cX6_cheapestNext 19 = .ok (.iload_n 2, 1) := by decide +kernel
theorem dX6_cheapestNext_20 : decode cX6_cheapestNext 20 = .ok (.iconst 1, 1) := by decide +kernel
theorem dX6_cheapestNext_21 : decode cX6_cheapestNext 21 = .ok (.iadd, 1) := by decide +kernel
theorem dX6_cheapestNext_22 : decode cX6_cheapestNext 22 = .ok (.iload 6, 2) := by decide +kernel
theorem dX6_cheapestNext_24 : decode cX6_cheapestNext 24 = .ok (.invokevirtual 69, 3) := by decide +kernel
theorem dX6_cheapestNext_27 : decode cX6_cheapestNext 27 = .ok (.istore 7, 2) := by decide +kernel
theorem dX6_cheapestNext_29 : decode cX6_cheapestNext 29 = .ok (.iload 7, 2) := by decide +kernel
theorem dX6_cheapestNext_31 : decode cX6_cheapestNext 31 = .ok (.iconst (-1), 1) := by decide +kernel
theorem dX6_cheapestNext_32 : decode cX6_cheapestNext 32 = .ok (.if_icmp .eq 45, 3) := by decide +kernel
theorem dX6_cheapestNext_35 : decode cX6_cheapestNext 35 = .ok (.iload 7, 2) := by decide +kernel
theorem dX6_cheapestNext_37 : decode cX6_cheapestNext 37 = .ok (.iload_n 3, 1) := by decide +kernel
theorem dX6_cheapestNext_38 : decode cX6_cheapestNext 38 = .ok (.iconst (-1), 1) := by decide +kernel
theorem dX6_cheapestNext_39 : decode cX6_cheapestNext 39 = .ok (.if_icmp .ne 7, 3) := by decide +kernel
theorem dX6_cheapestNext_42 : decode cX6_cheapestNext 42 = .ok (.iconst 0, 1) := by decide +kernel
theorem dX6_cheapestNext_43 : decode cX6_cheapestNext 43 = .ok (.goto 10, 3) := by decide +kernel
theorem dX6_cheapestNext_46 : decode cX6_cheapestNext 46 = .ok (.aload_n 1, 1) := by decide +kernel
theorem dX6_cheapestNext_47 : decode cX6_cheapestNext 47 = .ok (.iload_n 3, 1) := by decide +kernel
theorem dX6_cheapestNext_48 : decode cX6_cheapestNext 48 = .ok (.iload 6, 2) := by decide +kernel
theorem dX6_cheapestNext_50 : decode cX6_cheapestNext 50 = .ok (.invokevirtual 73, 3) := by decide +kernel
theorem dX6_cheapestNext_53 : decode cX6_cheapestNext 53 = .ok (.iadd, 1) := by decide +kernel
theorem dX6_cheapestNext_54 : decode cX6_cheapestNext 54 = .ok (.istore 8, 2) := by decide +kernel
theorem dX6_cheapestNext_56 : decode cX6_cheapestNext 56 = .ok (.iload 4, 2) := by decide +kernel
theorem dX6_cheapestNext_58 : decode cX6_cheapestNext 58 = .ok (.iconst (-1), 1) := by decide +kernel
theorem dX6_cheapestNext_59 : decode cX6_cheapestNext 59 = .ok (.if_icmp .eq 10, 3) := by decide +kernel
theorem dX6_cheapestNext_62 : decode cX6_cheapestNext 62 = .ok (.iload 8, 2) := by decide +kernel
theorem dX6_cheapestNext_64 : decode cX6_cheapestNext 64 = .ok (.iload 5, 2) := by decide +kernel
theorem dX6_cheapestNext_66 : decode cX6_cheapestNext 66 = .ok (.if_icmp .ge 11, 3) := by decide +kernel
theorem dX6_cheapestNext_69 : decode cX6_cheapestNext 69 = .ok (.iload 6, 2) := by decide +kernel
theorem dX6_cheapestNext_71 : decode cX6_cheapestNext 71 = .ok (.istore 4, 2) := by decide +kernel
theorem dX6_cheapestNext_73 : decode cX6_cheapestNext 73 = .ok (.iload 8, 2) := by decide +kernel
theorem dX6_cheapestNext_75 : decode cX6_cheapestNext 75 = .ok (.istore 5, 2) := by decide +kernel
theorem dX6_cheapestNext_77 : decode cX6_cheapestNext 77 = .ok (.iinc 6 1, 3) := by decide +kernel
theorem dX6_cheapestNext_80 : decode cX6_cheapestNext 80 = .ok (.goto (-71), 3) := by decide +kernel
theorem dX6_cheapestNext_83 : decode cX6_cheapestNext 83 = .ok (.iload 4, 2) := by decide +kernel
theorem dX6_cheapestNext_85 : decode cX6_cheapestNext 85 = .ok (.ireturn, 1) := by decide +kernel
theorem hcX6_cheapestNext : yX6_cheapestNext.cls ≠ "java/lang/invoke/MethodHandle" ∧ yX6_cheapestNext.cls ≠ "java/lang/invoke/VarHandle" ∧ (parseMethodDescriptor yX6_cheapestNext.desc).map (fun d => d.parameters.length) = some 3 := ⟨by decide +kernel, by decide +kernel, by decide +kernel⟩
def fX6_cheapestNext_j77 (x6_9 : Int) (k9 : Int → Int → Int → Prop) (x4_77 : Int) (x5_77 : Int) : Prop := sg_R (x6_9 + 1) ∧ k9 x4_77 x5_77 (x6_9 + 1)
def fX6_cheapestNext_j69 (x6_9 : Int) (u4 : Int) (y0_53 : Int) (k77 : Int → Int → Prop)  : Prop := sg_R (u4 + y0_53) ∧ k77 x6_9 (u4 + y0_53)
def fX6_cheapestNext_j53 (x4_9 : Int) (x5_9 : Int) (x6_9 : Int) (u4 : Int) (k77 : Int → Int → Prop) (y0_53 : Int) : Prop := ((x4_9 = (-1) → (fX6_cheapestNext_j69 x6_9 u4 y0_53 k77)) ∧ (¬ (x4_9 = (-1)) → sg_R (u4 + y0_53) ∧ ((x5_9 ≤ (u4 + y0_53) → k77 x4_9 x5_9) ∧ (¬ (x5_9 ≤ (u4 + y0_53)) → (fX6_cheapestNext_j69 x6_9 u4 y0_53 k77)))))
def fX6_cheapestNext_L9 (La : sg_L) (s0 : sg_M) (o1 : Int) (x2 : Int) (x3 : Int) (Q : Int → Prop) : Nat → Int → Int → Int → Prop
  | 0, _, _, _ => False
  | n_9 + 1, x4_9, x5_9, x6_9 => (((s0 o1 2) ≤ x6_9 → Q x4_9) ∧ (¬ ((s0 o1 2) ≤ x6_9) → sg_R (x2 + 1) ∧ fX6_costAt s0 (x2 + 1) x6_9 (fun u4 => ((u4 = (-1) → (fX6_cheapestNext_j77 x6_9 (fX6_cheapestNext_L9 La s0 o1 x2 x3 Q n_9)) x4_9 x5_9) ∧ (¬ (u4 = (-1)) → ((x3 ≠ (-1) → fX2_way La s0 o1 x3 x6_9 (fun u13 => (fX6_cheapestNext_j53 x4_9 x5_9 x6_9 u4 (fX6_cheapestNext_j77 x6_9 (fX6_cheapestNext_L9 La s0 o1 x2 x3 Q n_9))) u13)) ∧ (x3 = (-1) → (fX6_cheapestNext_j53 x4_9 x5_9 x6_9 u4 (fX6_cheapestNext_j77 x6_9 (fX6_cheapestNext_L9 La s0 o1 x2 x3 Q n_9))) 0)))))))
def fX6_cheapestNext (La : sg_L) (s0 : sg_M) (o1 : Int) (x2 : Int) (x3 : Int) (Q : Int → Prop) : Prop := (∃ n15 : Nat, fX6_cheapestNext_L9 La s0 o1 x2 x3 Q n15 (-1) 0 0)
set_option maxHeartbeats 4000000 in
set_option maxRecDepth 100000 in
theorem CX6_cheapestNext {l : Launch} {G : sg_G} {La : sg_L} {s0 : sg_M} (hst : sg_St La) {o1 : Int} (t1 : sg_O La o1 2) {x2 : Int} (r2 : sg_R x2) {x3 : Int} (r3 : sg_R x3) {Q : Int → Prop} (hf : fX6_cheapestNext La s0 o1 x2 x3 Q) : sg_C l G yX6_cheapestNext cX6_cheapestNext 9 (some .int) 3 0 0 La s0 [sg_r 46, sg_r o1, sg_i x2, sg_i x3] (sg_PI La s0 Q) := by
  refine sg_body (by decide +kernel) (Nat.le_of_ble_eq_true rfl) ?_
  intro p e s m args below meth c F hnm
  unfold fX6_cheapestNext at hf
  show sg_W p l e (sg_rm 3 0 0) s m args below meth c (MQ below (sg_Q (some .int) G La s.heap.size (sg_PI La s0 Q)) args s 0 0 (sg_A La s.heap.size)) 9 G (sg_A La s.heap.size) La s0 0 0 0 [(0, sg_r 46), (1, sg_r o1), (2, sg_i x2), (3, sg_i x3)] []
  refine gw_iconst F dX6_cheapestNext_0 ?_
  refine gw_istore F (by decide) rfl dX6_cheapestNext_1 ?_
  refine gw_iconst F dX6_cheapestNext_3 ?_
  refine gw_istore F (by decide) rfl dX6_cheapestNext_4 ?_
  refine gw_iconst F dX6_cheapestNext_6 ?_
  refine gw_istore F (by decide) rfl dX6_cheapestNext_7 ?_
  have L9 : ∀ n_9 : Nat, ∀ (x4_9 : Int) (x5_9 : Int) (x6_9 : Int), sg_R x4_9 → sg_R x5_9 → sg_R x6_9 → fX6_cheapestNext_L9 La s0 o1 x2 x3 Q n_9 x4_9 x5_9 x6_9 → sg_W p l e (sg_rm 3 0 0) s m args below meth c (MQ below (sg_Q (some .int) G La s.heap.size (sg_PI La s0 Q)) args s 0 0 (sg_A La s.heap.size)) 9 G (sg_A La s.heap.size) La s0 0 0 9 [(0, sg_r 46), (1, sg_r o1), (2, sg_i x2), (3, sg_i x3), (4, sg_i x4_9), (5, sg_i x5_9), (6, sg_i x6_9)] [] := by
    intro n_9
    induction n_9 with
    | zero => intro x4_9 x5_9 x6_9 r4_9 r5_9 r6_9 hf; exact hf.elim
    | succ n_9 ih =>
      intro x4_9 x5_9 x6_9 r4_9 r5_9 r6_9 hf
      unfold fX6_cheapestNext_L9 at hf
      refine gw_iload F 6 rfl dX6_cheapestNext_9 ?_
      refine gw_aload_n F 1 rfl rfl t1.1 dX6_cheapestNext_11 ?_
      refine gw_get0 F t1 (by decide) rfl sg_lay_RX2 (j := 2) (by decide) rfl (.inr kw_229) dX6_cheapestNext_12 (fun h1 => ?_)
      refine gw_icmp_ge F (tgt := 83) dX6_cheapestNext_15 (by decide) r6_9 h1 (fun c2 => ?_) (fun c2 => ?_)
      · have hf := hf.1 c2
        refine gw_iload F 4 rfl dX6_cheapestNext_83 ?_
        exact gr_PI F r4_9 hf (by decide) (by decide) dX6_cheapestNext_85
      · have hf := hf.2 c2
        refine gw_aload_n F 0 rfl rfl (by decide) dX6_cheapestNext_18 ?_
        refine gw_iload_n F 2 rfl rfl dX6_cheapestNext_19 ?_
        refine gw_iconst F dX6_cheapestNext_20 ?_
        refine gw_iadd F rfl dX6_cheapestNext_21 ?_
        refine gw_iload F 6 rfl dX6_cheapestNext_22 ?_
        obtain ⟨g3, hf⟩ := hf
        refine gk_PI F (gc_V F (S := []) (As := [sg_i (x2 + 1), sg_i x6_9]) (T := TX6) (N := 3) (CX6_costAt hst g3 r6_9 hf) (so_46 hst) (by decide) rfl kw_706 kw_102 kw_704 kw_705 kw_24 hcX6_costAt ⟨by decide, by decide⟩ rfl rfl (Nat.le_of_ble_eq_true rfl) ⟨by decide, by decide⟩ dX6_cheapestNext_24) (fun u4 h5 hf => ?_)
        refine gw_istore F (by decide) rfl dX6_cheapestNext_27 ?_
        refine gw_iload F 0 rfl dX6_cheapestNext_29 ?_
        refine gw_iconst F dX6_cheapestNext_31 ?_
        have J77 : ∀ (x4_77 : Int) (x5_77 : Int), sg_R x4_77 → sg_R x5_77 → (fX6_cheapestNext_j77 x6_9 (fX6_cheapestNext_L9 La s0 o1 x2 x3 Q n_9)) x4_77 x5_77 → sg_W p l e (sg_rm 3 0 0) s m args below meth c (MQ below (sg_Q (some .int) G La s.heap.size (sg_PI La s0 Q)) args s 0 0 (sg_A La s.heap.size)) 9 G (sg_A La s.heap.size) La s0 0 0 77 [(0, sg_r 46), (1, sg_r o1), (2, sg_i x2), (3, sg_i x3), (4, sg_i x4_77), (5, sg_i x5_77), (6, sg_i x6_9)] [] := by
          intro x4_77 x5_77 r4_77 r5_77 hf
          unfold fX6_cheapestNext_j77 at hf
          refine gw_iinc F (z := (x6_9 + 1)) 6 rfl (by omega) (by decide) rfl dX6_cheapestNext_77 ?_
          refine gw_goto F (tgt := 9) dX6_cheapestNext_80 (by decide) ?_
          obtain ⟨g6, hf⟩ := hf
          refine gw_sub [1, 2, 3, 4, 5, 6, 0] rfl ?_
          exact ih x4_77 x5_77 (x6_9 + 1) r4_77 r5_77 g6 hf
        refine gw_icmp_eq F (tgt := 77) dX6_cheapestNext_32 (by decide) h5 (by decide) (fun c7 => ?_) (fun c7 => ?_)
        · have hf := hf.1 c7
          refine gw_sub [1, 2, 3, 4, 5, 6, 7] rfl ?_
          exact J77 x4_9 x5_9 r4_9 r5_9 hf
        · have hf := hf.2 c7
          refine gw_iload F 0 rfl dX6_cheapestNext_35 ?_
          refine gw_iload_n F 4 rfl rfl dX6_cheapestNext_37 ?_
          refine gw_iconst F dX6_cheapestNext_38 ?_
          have J53 : ∀ (y0_53 : Int), sg_R y0_53 → (fX6_cheapestNext_j53 x4_9 x5_9 x6_9 u4 (fX6_cheapestNext_j77 x6_9 (fX6_cheapestNext_L9 La s0 o1 x2 x3 Q n_9))) y0_53 → sg_W p l e (sg_rm 3 0 0) s m args below meth c (MQ below (sg_Q (some .int) G La s.heap.size (sg_PI La s0 Q)) args s 0 0 (sg_A La s.heap.size)) 9 G (sg_A La s.heap.size) La s0 0 0 53 [(0, sg_r 46), (1, sg_r o1), (2, sg_i x2), (3, sg_i x3), (4, sg_i x4_9), (5, sg_i x5_9), (6, sg_i x6_9)] [sg_i y0_53, sg_i u4] := by
            intro y0_53 ry0_53 hf
            unfold fX6_cheapestNext_j53 at hf
            refine gw_iadd F rfl dX6_cheapestNext_53 ?_
            refine gw_istore F (by decide) rfl dX6_cheapestNext_54 ?_
            refine gw_iload F 5 rfl dX6_cheapestNext_56 ?_
            refine gw_iconst F dX6_cheapestNext_58 ?_
            have J69 : (fX6_cheapestNext_j69 x6_9 u4 y0_53 (fX6_cheapestNext_j77 x6_9 (fX6_cheapestNext_L9 La s0 o1 x2 x3 Q n_9))) → sg_W p l e (sg_rm 3 0 0) s m args below meth c (MQ below (sg_Q (some .int) G La s.heap.size (sg_PI La s0 Q)) args s 0 0 (sg_A La s.heap.size)) 9 G (sg_A La s.heap.size) La s0 0 0 69 [(0, sg_r 46), (1, sg_r o1), (2, sg_i x2), (3, sg_i x3), (6, sg_i x6_9), (8, sg_i (u4 + y0_53))] [] := by
              intro hf
              unfold fX6_cheapestNext_j69 at hf
              refine gw_iload F 4 rfl dX6_cheapestNext_69 ?_
              refine gw_istore F (by decide) rfl dX6_cheapestNext_71 ?_
              refine gw_iload F 6 rfl dX6_cheapestNext_73 ?_
              refine gw_istore F (by decide) rfl dX6_cheapestNext_75 ?_
              obtain ⟨g8, hf⟩ := hf
              refine gw_sub [2, 3, 4, 5, 1, 0, 6] rfl ?_
              exact J77 x6_9 (u4 + y0_53) r6_9 g8 hf
            refine gw_icmp_eq F (tgt := 69) dX6_cheapestNext_59 (by decide) r4_9 (by decide) (fun c9 => ?_) (fun c9 => ?_)
            · have hf := hf.1 c9
              refine gw_sub [1, 2, 3, 4, 7, 0] rfl ?_
              exact J69  hf
            · have hf := hf.2 c9
              refine gw_iload F 0 rfl dX6_cheapestNext_62 ?_
              refine gw_iload F 6 rfl dX6_cheapestNext_64 ?_
              obtain ⟨g10, hf⟩ := hf
              refine gw_icmp_ge F (tgt := 77) dX6_cheapestNext_66 (by decide) g10 r5_9 (fun c11 => ?_) (fun c11 => ?_)
              · have hf := hf.1 c11
                refine gw_sub [1, 2, 3, 4, 5, 6, 7] rfl ?_
                exact J77 x4_9 x5_9 r4_9 r5_9 hf
              · have hf := hf.2 c11
                refine gw_sub [1, 2, 3, 4, 7, 0] rfl ?_
                exact J69  hf
          refine gw_icmp_ne F (tgt := 46) dX6_cheapestNext_39 (by decide) r3 (by decide) (fun c12 => ?_) (fun c12 => ?_)
          · have hf := hf.1 c12
            refine gw_aload_n F 2 rfl rfl t1.1 dX6_cheapestNext_46 ?_
            refine gw_iload_n F 4 rfl rfl dX6_cheapestNext_47 ?_
            refine gw_iload F 7 rfl dX6_cheapestNext_48 ?_
            refine gk_PI F (gc_V F (S := [sg_i u4]) (As := [sg_i x3, sg_i x6_9]) (T := TX2) (N := 3) (CX2_way t1 r3 r6_9 hf) t1 (by decide) rfl kw_710 kw_99 kw_707 kw_708 kw_709 hcX2_way ⟨by decide, by decide⟩ rfl rfl (Nat.le_of_ble_eq_true rfl) ⟨by decide, by decide⟩ dX6_cheapestNext_50) (fun u13 h14 hf => ?_)
            refine gw_sub [1, 2, 3, 4, 5, 6, 7] rfl ?_
            exact J53 u13 h14 hf
          · have hf := hf.2 c12
            refine gw_iconst F dX6_cheapestNext_42 ?_
            refine gw_goto F (tgt := 53) dX6_cheapestNext_43 (by decide) ?_
            refine gw_sub [1, 2, 3, 4, 5, 6, 7] rfl ?_
            exact J53 0 (by decide) hf
  obtain ⟨n15, hf⟩ := hf
  refine gw_sub [3, 4, 5, 6, 2, 1, 0] rfl ?_
  refine L9   n15 (-1) 0 0 (by decide) (by decide) (by decide) hf

theorem dX6_costFrom_0 : decode cX6_costFrom 0 = .ok (.iload_n 2, 1) := by decide +kernel
theorem dX6_costFrom_1 : decode cX6_costFrom 1 = .ok (.aload_n 0, 1) := by decide +kernel
theorem dX6_costFrom_2 : decode cX6_costFrom 2 = .ok (.getfield 20, 3) := by decide +kernel
theorem dX6_costFrom_5 : decode cX6_costFrom 5 = .ok (.getfield 47, 3) := by decide +kernel
theorem dX6_costFrom_8 : decode cX6_costFrom 8 = .ok (.iconst 1, 1) := by decide +kernel
theorem dX6_costFrom_9 : decode cX6_costFrom 9 = .ok (.isub, 1) := by decide +kernel
theorem dX6_costFrom_10 : decode cX6_costFrom 10 = .ok (.if_icmp .lt 5, 3) := by decide +kernel
theorem dX6_costFrom_13 : decode cX6_costFrom 13 = .ok (.iconst 0, 1) := by decide +kernel
theorem dX6_costFrom_14 : decode cX6_costFrom 14 = .ok (.ireturn, 1) := by decide +kernel
theorem dX6_costFrom_15 : decode cX6_costFrom 15 = .ok (.aload_n 0, 1) := by decide +kernel
theorem dX6_costFrom_16 : decode cX6_costFrom 16 = .ok (.aload_n 1, 1) := by decide +kernel
theorem dX6_costFrom_17 : decode cX6_costFrom 17 = .ok (.iload_n 2, 1) := by decide +kernel
theorem dX6_costFrom_18 : decode cX6_costFrom 18 = .ok (.iload_n 3, 1) := by decide +kernel
theorem dX6_costFrom_19 : decode cX6_costFrom 19 = .ok (.invokevirtual 66, 3) := by decide +kernel
theorem dX6_costFrom_22 : decode cX6_costFrom 22 = .ok (.istore 4, 2) := by decide +kernel
theorem dX6_costFrom_24 : decode cX6_costFrom 24 = .ok (.iload 4, 2) := by decide +kernel
theorem dX6_costFrom_26 : decode cX6_costFrom 26 = .ok (.iconst (-1), 1) := by decide +kernel
theorem dX6_costFrom_27 : decode cX6_costFrom 27 = .ok (.if_icmp .ne 7, 3) := by decide +kernel
theorem dX6_costFrom_30 : decode cX6_costFrom 30 = .ok (.iconst (-1), 1) := by decide +kernel
theorem dX6_costFrom_31 : decode cX6_costFrom 31 = .ok (.goto 20, 3) := by decide +kernel
theorem dX6_costFrom_34 : decode cX6_costFrom 34 = .ok (.aload_n 1, 1) := by decide +kernel
theorem dX6_costFrom_35 : decode cX6_costFrom 35 = .ok (.iload_n 3, 1) := by decide +kernel
theorem dX6_costFrom_36 : decode cX6_costFrom 36 = .ok (.iload 4, 2) := by decide +kernel
theorem dX6_costFrom_38 : decode cX6_costFrom 38 = .ok (.invokevirtual 73, 3) := by decide +kernel
theorem dX6_costFrom_41 : decode cX6_costFrom 41 = .ok (.aload_n 0, 1) := by decide +kernel
theorem dX6_costFrom_42 : decode cX6_costFrom 42 = .ok (.iload_n 2, 1) := by decide +kernel
theorem dX6_costFrom_43 : decode cX6_costFrom 43 = .ok (.iconst 1, 1) := by decide +kernel
theorem dX6_costFrom_44 : decode cX6_costFrom 44 = .ok (.iadd, 1) := by decide +kernel
theorem dX6_costFrom_45 : decode cX6_costFrom 45 = .ok (.iload 4, 2) := by decide +kernel
theorem dX6_costFrom_47 : decode cX6_costFrom 47 = .ok (.invokevirtual 69, 3) := by decide +kernel
theorem dX6_costFrom_50 : decode cX6_costFrom 50 = .ok (.iadd, 1) := by decide +kernel
theorem dX6_costFrom_51 : decode cX6_costFrom 51 = .ok (.ireturn, 1) := by decide +kernel
theorem hcX6_costFrom : yX6_costFrom.cls ≠ "java/lang/invoke/MethodHandle" ∧ yX6_costFrom.cls ≠ "java/lang/invoke/VarHandle" ∧ (parseMethodDescriptor yX6_costFrom.desc).map (fun d => d.parameters.length) = some 3 := ⟨by decide +kernel, by decide +kernel, by decide +kernel⟩
def fX6_costFrom (La : sg_L) (s0 : sg_M) (o1 : Int) (x2 : Int) (x3 : Int) (Q : Int → Prop) : Prop := sg_R ((s0 48 1) - 1) ∧ ((x2 < ((s0 48 1) - 1) → fX6_cheapestNext La s0 o1 x2 x3 (fun u5 => ((u5 ≠ (-1) → fX2_way La s0 o1 x3 u5 (fun u8 => sg_R (x2 + 1) ∧ fX6_costAt s0 (x2 + 1) u5 (fun u11 => sg_R (u8 + u11) ∧ Q (u8 + u11)))) ∧ (u5 = (-1) → Q (-1))))) ∧ (¬ (x2 < ((s0 48 1) - 1)) → Q 0))
set_option maxHeartbeats 4000000 in
set_option maxRecDepth 100000 in
theorem CX6_costFrom {l : Launch} {G : sg_G} {La : sg_L} {s0 : sg_M} (hst : sg_St La) {o1 : Int} (t1 : sg_O La o1 2) {x2 : Int} (r2 : sg_R x2) {x3 : Int} (r3 : sg_R x3) {Q : Int → Prop} (hf : fX6_costFrom La s0 o1 x2 x3 Q) : sg_C l G yX6_costFrom cX6_costFrom 5 (some .int) 4 0 0 La s0 [sg_r 46, sg_r o1, sg_i x2, sg_i x3] (sg_PI La s0 Q) := by
  refine sg_body (by decide +kernel) (Nat.le_of_ble_eq_true rfl) ?_
  intro p e s m args below meth c F hnm
  unfold fX6_costFrom at hf
  show sg_W p l e (sg_rm 4 0 0) s m args below meth c (MQ below (sg_Q (some .int) G La s.heap.size (sg_PI La s0 Q)) args s 0 0 (sg_A La s.heap.size)) 5 G (sg_A La s.heap.size) La s0 0 0 0 [(0, sg_r 46), (1, sg_r o1), (2, sg_i x2), (3, sg_i x3)] []
  refine gw_iload_n F 2 rfl rfl dX6_costFrom_0 ?_
  refine gw_aload_n F 0 rfl rfl (by decide) dX6_costFrom_1 ?_
  refine gw_get3 F (so_46 hst) (by decide) rfl sg_lay_RX6 (j := 1) (by decide) (o1 := 48) (by first | rfl | omega) rfl (host := "") (.inl kw_313) dX6_costFrom_2 (fun h1 => ?_)
  refine gw_get0 F (so_48 hst) (by decide) rfl sg_lay_RX4 (j := 1) (by decide) rfl (.inr kw_201) dX6_costFrom_5 (fun h2 => ?_)
  refine gw_iconst F dX6_costFrom_8 ?_
  refine gw_isub F rfl dX6_costFrom_9 ?_
  obtain ⟨g3, hf⟩ := hf
  refine gw_icmp_lt F (tgt := 15) dX6_costFrom_10 (by decide) r2 g3 (fun c4 => ?_) (fun c4 => ?_)
  · have hf := hf.1 c4
    refine gw_aload_n F 0 rfl rfl (by decide) dX6_costFrom_15 ?_
    refine gw_aload_n F 1 rfl rfl t1.1 dX6_costFrom_16 ?_
    refine gw_iload_n F 2 rfl rfl dX6_costFrom_17 ?_
    refine gw_iload_n F 3 rfl rfl dX6_costFrom_18 ?_
    refine gk_PI F (gc_V F (S := []) (As := [sg_r o1, sg_i x2, sg_i x3]) (T := TX6) (N := 3) (CX6_cheapestNext hst t1 r2 r3 hf) (so_46 hst) (by decide) rfl kw_703 kw_102 kw_701 kw_702 kw_23 hcX6_cheapestNext ⟨by decide, by decide⟩ rfl rfl (Nat.le_of_ble_eq_true rfl) ⟨by decide, by decide⟩ dX6_costFrom_19) (fun u5 h6 hf => ?_)
    refine gw_istore F (by decide) rfl dX6_costFrom_22 ?_
    refine gw_iload F 0 rfl dX6_costFrom_24 ?_
    refine gw_iconst F dX6_costFrom_26 ?_
    refine gw_icmp_ne F (tgt := 34) dX6_costFrom_27 (by decide) h6 (by decide) (fun c7 => ?_) (fun c7 => ?_)
    · have hf := hf.1 c7
      refine gw_aload_n F 2 rfl rfl t1.1 dX6_costFrom_34 ?_
      refine gw_iload_n F 4 rfl rfl dX6_costFrom_35 ?_
      refine gw_iload F 0 rfl dX6_costFrom_36 ?_
      refine gk_PI F (gc_V F (S := []) (As := [sg_i x3, sg_i u5]) (T := TX2) (N := 3) (CX2_way t1 r3 h6 hf) t1 (by decide) rfl kw_710 kw_99 kw_707 kw_708 kw_709 hcX2_way ⟨by decide, by decide⟩ rfl rfl (Nat.le_of_ble_eq_true rfl) ⟨by decide, by decide⟩ dX6_costFrom_38) (fun u8 h9 hf => ?_)
      refine gw_aload_n F 1 rfl rfl (by decide) dX6_costFrom_41 ?_
      refine gw_iload_n F 3 rfl rfl dX6_costFrom_42 ?_
      refine gw_iconst F dX6_costFrom_43 ?_
      refine gw_iadd F rfl dX6_costFrom_44 ?_
      refine gw_iload F 0 rfl dX6_costFrom_45 ?_
      obtain ⟨g10, hf⟩ := hf
      refine gk_PI F (gc_V F (S := [sg_i u8]) (As := [sg_i (x2 + 1), sg_i u5]) (T := TX6) (N := 3) (CX6_costAt hst g10 h6 hf) (so_46 hst) (by decide) rfl kw_706 kw_102 kw_704 kw_705 kw_24 hcX6_costAt ⟨by decide, by decide⟩ rfl rfl (Nat.le_of_ble_eq_true rfl) ⟨by decide, by decide⟩ dX6_costFrom_47) (fun u11 h12 hf => ?_)
      refine gw_iadd F rfl dX6_costFrom_50 ?_
      obtain ⟨g13, hf⟩ := hf
      exact gr_PI F g13 hf (by decide) (by decide) dX6_costFrom_51
    · have hf := hf.2 c7
      refine gw_iconst F dX6_costFrom_30 ?_
      refine gw_goto F (tgt := 51) dX6_costFrom_31 (by decide) ?_
      exact gr_PI F (by decide) hf (by decide) (by decide) dX6_costFrom_51
  · have hf := hf.2 c4
    refine gw_iconst F dX6_costFrom_13 ?_
    exact gr_PI F (by decide) hf (by decide) (by decide) dX6_costFrom_14

theorem dX6_init_0 : decode cX6_init 0 = .ok (.aload_n 0, 1) := by decide +kernel
theorem dX6_init_1 : decode cX6_init 1 = .ok (.invokespecial 3, 3) := by decide +kernel
theorem dX6_init_4 : decode cX6_init 4 = .ok (.aload_n 0, 1) := by decide +kernel
theorem dX6_init_5 : decode cX6_init 5 = .ok (.sipush 2400, 3) := by decide +kernel
theorem dX6_init_8 : decode cX6_init 8 = .ok (.newarray .int, 2) := by decide +kernel
theorem dX6_init_10 : decode cX6_init 10 = .ok (.putfield 9, 3) := by decide +kernel
theorem dX6_init_13 : decode cX6_init 13 = .ok (.aload_n 0, 1) := by decide +kernel
theorem dX6_init_14 : decode cX6_init 14 = .ok (.new 15, 3) := by decide +kernel
theorem dX6_init_17 : decode cX6_init 17 = .ok (.dup, 1) := by decide +kernel
theorem dX6_init_18 : decode cX6_init 18 = .ok (.bipush 60, 2) := by decide +kernel
theorem dX6_init_20 : decode cX6_init 20 = .ok (.invokespecial 17, 3) := by decide +kernel
theorem dX6_init_23 : decode cX6_init 23 = .ok (.putfield 20, 3) := by decide +kernel
theorem dX6_init_26 : decode cX6_init 26 = .ok (.aload_n 0, 1) := by decide +kernel
theorem dX6_init_27 : decode cX6_init 27 = .ok (.new 15, 3) := by decide +kernel
theorem dX6_init_30 : decode cX6_init 30 = .ok (.dup, 1) := by decide +kernel
theorem dX6_init_31 : decode cX6_init 31 = .ok (.bipush 60, 2) := by decide +kernel
theorem dX6_init_33 : decode cX6_init 33 = .ok (.invokespecial 17, 3) := by decide +kernel
theorem dX6_init_36 : decode cX6_init 36 = .ok (.putfield 24, 3) := by decide +kernel
theorem dX6_init_39 : decode cX6_init 39 = .ok (.return_, 1) := by decide +kernel
theorem hcX6_init : yX6_init.cls ≠ "java/lang/invoke/MethodHandle" ∧ yX6_init.cls ≠ "java/lang/invoke/VarHandle" ∧ (parseMethodDescriptor yX6_init.desc).map (fun d => d.parameters.length) = some 0 := ⟨by decide +kernel, by decide +kernel, by decide +kernel⟩
def fX6_init (La : sg_L) (s0 : sg_M) (o : Int) (Q : sg_L → sg_M → Prop) : Prop := ∀ (q1 : Nat) (La2 : sg_L), La2 = sg_pu La 12400 q1 → ∀ s3 : sg_M, s3 = sg_nw s0 La.1 12400 → ∀ o4 : Int, o4 = (La.1 : Int) → ∀ s14 : sg_M, s14 = sg_up s3 o 0 o4 → ∀ (q16 : Nat) (La17 : sg_L), La17 = sg_pu La2 24 q16 → ∀ s18 : sg_M, s18 = sg_nw s14 La2.1 24 → ∀ o19 : Int, o19 = (La2.1 : Int) → fX4_init La17 s18 o19 60 (fun La28 s29 => ∀ s34 : sg_M, s34 = sg_up s29 o 1 o19 → ∀ (q36 : Nat) (La37 : sg_L), La37 = sg_pu La28 24 q36 → ∀ s38 : sg_M, s38 = sg_nw s34 La28.1 24 → ∀ o39 : Int, o39 = (La28.1 : Int) → fX4_init La37 s38 o39 60 (fun La48 s49 => ∀ s54 : sg_M, s54 = sg_up s49 o 2 o39 → sg_sealed La48 s54 o 26 6 ∧ ∀ La56 : sg_L, La56 = sg_se La48 o.toNat 6 → Q La56 s54))
set_option maxHeartbeats 4000000 in
set_option maxRecDepth 100000 in
theorem CX6_init {l : Launch} {G : sg_G} {La : sg_L} {s0 : sg_M} {o : Int} (to : sg_O La o 26) {Q : sg_L → sg_M → Prop} (hf : fX6_init La s0 o Q) : sg_C l G yX6_init cX6_init 1 (none) 2 5 2806 La s0 [sg_r o] (sg_BV (sg_se La o.toNat 6) Q) := by
  refine sg_body (by decide +kernel) (Nat.le_of_ble_eq_true rfl) ?_
  intro p e s m args below meth c F hnm
  unfold fX6_init at hf
  show sg_W p l e (sg_rm 2 5 2806) s m args below meth c (MQ below (sg_Q (none) G La s.heap.size (sg_BV (sg_se La o.toNat 6) Q)) args s 5 2806 (sg_A La s.heap.size)) 1 G (sg_A La s.heap.size) La s0 0 0 0 [(0, sg_r o)] []
  have hin : meth.name = "<init>" := hnm
  refine gw_aload_n F 0 rfl rfl to.1 dX6_init_0 ?_
  refine gw_objInit F to.1 kw_309 kw_OI kw_OC (Nat.le_of_ble_eq_true rfl) (by decide) (by decide) dX6_init_1 ?_
  refine gw_aload_n F 0 rfl rfl to.1 dX6_init_4 ?_
  refine gw_sipush F rfl dX6_init_5 ?_
  refine gy_newI F (N := 2400) kw_131 rfl (by decide) (by decide) (by decide) (List.forall_mem_cons.mpr ⟨(Or.inl to.2.1), (fun _ h => absurd h List.not_mem_nil)⟩) (List.forall_mem_cons.mpr ⟨(Or.inl to.2.1), (fun _ h => absurd h List.not_mem_nil)⟩) dX6_init_8 (fun q1 La2 s3 o4 e5 e6 e7 t8 hX9 => ?_)
  have hf := hf q1 La2 e5 s3 e6 o4 e7
  have hn10 : La.1 ≤ o4.toNat := by rw [e7, Int.toNat_natCast]; exact (sg_X.rf : sg_X La La).1
  have t11 := to.X hX9
  have hX12 := sg_X.tr (sg_X.rf) hX9
  have t13 := sg_AN_of (n := 2400) t8 (by decide) (by decide) (by decide)
  obtain ⟨s14, e15⟩ : ∃ z : sg_M, z = sg_up s3 o 0 o4 := ⟨_, rfl⟩
  have hf := hf s14 e15
  refine gw_put5F F t11 (by decide) rfl sg_lay_RX6 (j := 0) (by decide) (D0 := tyX6 0) (fun _ => ⟨rfl, rfl⟩) t13.1 t13.2.1 e15 tyX6_ok nmX6 rfl hin rfl (tyX6_ok 0 (by decide)) rfl (host := "") kw_312 dX6_init_10 ?_
  refine gw_aload_n F 0 rfl rfl t11.1 dX6_init_13 ?_
  refine gy_new F (kd := 24) (T := TX4) (by decide) rfl sg_lay_RX4 tyX4_ok kw_310 kw_191 kw_97 ns_X4 nf_X4 nr_X4 (by decide) (by decide) (List.forall_mem_cons.mpr ⟨(Or.inl t11.2.1), (fun _ h => absurd h List.not_mem_nil)⟩) (List.forall_mem_cons.mpr ⟨(Or.inl t11.2.1), (fun _ h => absurd h List.not_mem_nil)⟩) dX6_init_14 (fun q16 La17 s18 o19 e20 e21 e22 t23 hX24 => ?_)
  have hf := hf q16 La17 e20 s18 e21 o19 e22
  have hn25 : La.1 ≤ o19.toNat := by rw [e22, Int.toNat_natCast]; exact (hX12 : sg_X La La2).1
  have t26 := t11.X hX24
  have hX27 := sg_X.tr (hX12) hX24
  refine gw_dup F rfl dX6_init_17 ?_
  refine gw_bipush F rfl dX6_init_18 ?_
  refine gk_BV F (gc_I F (S := [sg_r o19, sg_r o]) (As := [sg_i 60]) (CX4_init t23 (by decide) hf) t23.1 kw_194 kw_97 kw_311 kw_193 rfl hcX4_init ⟨by decide, by decide⟩ rfl rfl (Nat.le_of_ble_eq_true rfl) ⟨by decide, by decide⟩ dX6_init_20) (List.forall_mem_cons.mpr ⟨(Or.inl t26.2.1), (fun _ h => absurd h List.not_mem_nil)⟩) (List.forall_mem_cons.mpr ⟨(Or.inl t23.2.1), (List.forall_mem_cons.mpr ⟨(Or.inl t26.2.1), (fun _ h => absurd h List.not_mem_nil)⟩)⟩) (fun La28 s29 hX30 hf => ?_)
  have t31 := (sg_O_sx t26 t23 (by decide)).X hX30
  have t32 := (sg_O_sealed t23).X hX30
  have hX33 := (sg_X_sx (hX27) hn25).tr hX30
  obtain ⟨s34, e35⟩ : ∃ z : sg_M, z = sg_up s29 o 1 o19 := ⟨_, rfl⟩
  have hf := hf s34 e35
  refine gw_put5F F t31 (by decide) rfl sg_lay_RX6 (j := 1) (by decide) (D0 := tyX6 1) (fun _ => ⟨rfl, rfl⟩) t32.1 t32.2.1 e35 tyX6_ok nmX6 rfl hin rfl (tyX6_ok 1 (by decide)) rfl (host := "") kw_313 dX6_init_23 ?_
  refine gw_aload_n F 0 rfl rfl t31.1 dX6_init_26 ?_
  refine gy_new F (kd := 24) (T := TX4) (by decide) rfl sg_lay_RX4 tyX4_ok kw_310 kw_191 kw_97 ns_X4 nf_X4 nr_X4 (by decide) (by decide) (List.forall_mem_cons.mpr ⟨(Or.inl t31.2.1), (fun _ h => absurd h List.not_mem_nil)⟩) (List.forall_mem_cons.mpr ⟨(Or.inl t31.2.1), (fun _ h => absurd h List.not_mem_nil)⟩) dX6_init_27 (fun q36 La37 s38 o39 e40 e41 e42 t43 hX44 => ?_)
  have hf := hf q36 La37 e40 s38 e41 o39 e42
  have hn45 : La.1 ≤ o39.toNat := by rw [e42, Int.toNat_natCast]; exact (hX33 : sg_X La La28).1
  have t46 := t31.X hX44
  have hX47 := sg_X.tr (hX33) hX44
  refine gw_dup F rfl dX6_init_30 ?_
  refine gw_bipush F rfl dX6_init_31 ?_
  refine gk_BV F (gc_I F (S := [sg_r o39, sg_r o]) (As := [sg_i 60]) (CX4_init t43 (by decide) hf) t43.1 kw_194 kw_97 kw_311 kw_193 rfl hcX4_init ⟨by decide, by decide⟩ rfl rfl (Nat.le_of_ble_eq_true rfl) ⟨by decide, by decide⟩ dX6_init_33) (List.forall_mem_cons.mpr ⟨(Or.inl t46.2.1), (fun _ h => absurd h List.not_mem_nil)⟩) (List.forall_mem_cons.mpr ⟨(Or.inl t43.2.1), (List.forall_mem_cons.mpr ⟨(Or.inl t46.2.1), (fun _ h => absurd h List.not_mem_nil)⟩)⟩) (fun La48 s49 hX50 hf => ?_)
  have t51 := (sg_O_sx t46 t43 (by decide)).X hX50
  have t52 := (sg_O_sealed t43).X hX50
  have hX53 := (sg_X_sx (hX47) hn45).tr hX50
  obtain ⟨s54, e55⟩ : ∃ z : sg_M, z = sg_up s49 o 2 o39 := ⟨_, rfl⟩
  have hf := hf s54 e55
  refine gw_put5F F t51 (by decide) rfl sg_lay_RX6 (j := 2) (by decide) (D0 := tyX6 2) (fun _ => ⟨rfl, rfl⟩) t52.1 t52.2.1 e55 tyX6_ok nmX6 rfl hin rfl (tyX6_ok 2 (by decide)) rfl (host := "") kw_314 dX6_init_36 ?_
  obtain ⟨g57, hf⟩ := hf
  obtain ⟨La56, e58⟩ : ∃ z : sg_L, z = sg_se La48 o.toNat 6 := ⟨_, rfl⟩
  have hf := hf La56 e58
  refine gy_seal t51 ⟨by decide, by decide, by decide⟩ (by decide) (by decide) g57 e58 ?_
  exact gr_BC F (o := o.toNat) (kd := 6) hf (by rw [e58]; exact sg_X.both hX53) (by decide) (by decide) dX6_init_39

theorem dX2_init_0 : decode cX2_init 0 = .ok (.aload_n 0, 1) := by decide +kernel
theorem dX2_init_1 : decode cX2_init 1 = .ok (.invokespecial 3, 3) := by decide +kernel
theorem dX2_init_4 : decode cX2_init 4 = .ok (.aload_n 0, 1) := by decide +kernel
theorem dX2_init_5 : decode cX2_init 5 = .ok (.new 9, 3) := by decide +kernel
theorem dX2_init_8 : decode cX2_init 8 = .ok (.dup, 1) := by decide +kernel
theorem dX2_init_9 : decode cX2_init 9 = .ok (.bipush 40, 2) := by decide +kernel
theorem dX2_init_11 : decode cX2_init 11 = .ok (.invokespecial 11, 3) := by decide +kernel
theorem dX2_init_14 : decode cX2_init 14 = .ok (.putfield 14, 3) := by decide +kernel
theorem dX2_init_17 : decode cX2_init 17 = .ok (.aload_n 0, 1) := by decide +kernel
theorem dX2_init_18 : decode cX2_init 18 = .ok (.new 9, 3) := by decide +kernel
theorem dX2_init_21 : decode cX2_init 21 = .ok (.dup, 1) := by decide +kernel
theorem dX2_init_22 : decode cX2_init 22 = .ok (.bipush 40, 2) := by decide +kernel
theorem dX2_init_24 : decode cX2_init 24 = .ok (.invokespecial 11, 3) := by decide +kernel
theorem dX2_init_27 : decode cX2_init 27 = .ok (.putfield 20, 3) := by decide +kernel
theorem dX2_init_30 : decode cX2_init 30 = .ok (.aload_n 0, 1) := by decide +kernel
theorem dX2_init_31 : decode cX2_init 31 = .ok (.iconst 0, 1) := by decide +kernel
theorem dX2_init_32 : decode cX2_init 32 = .ok (.putfield 23, 3) := by decide +kernel
theorem dX2_init_35 : decode cX2_init 35 = .ok (.return_, 1) := by decide +kernel
theorem hcX2_init : yX2_init.cls ≠ "java/lang/invoke/MethodHandle" ∧ yX2_init.cls ≠ "java/lang/invoke/VarHandle" ∧ (parseMethodDescriptor yX2_init.desc).map (fun d => d.parameters.length) = some 0 := ⟨by decide +kernel, by decide +kernel, by decide +kernel⟩
def fX2_init (La : sg_L) (s0 : sg_M) (o : Int) (Q : sg_L → sg_M → Prop) : Prop := ∀ (q1 : Nat) (La2 : sg_L), La2 = sg_pu La 24 q1 → ∀ s3 : sg_M, s3 = sg_nw s0 La.1 24 → ∀ o4 : Int, o4 = (La.1 : Int) → fX4_init La2 s3 o4 40 (fun La13 s14 => ∀ s19 : sg_M, s19 = sg_up s14 o 0 o4 → ∀ (q21 : Nat) (La22 : sg_L), La22 = sg_pu La13 24 q21 → ∀ s23 : sg_M, s23 = sg_nw s19 La13.1 24 → ∀ o24 : Int, o24 = (La13.1 : Int) → fX4_init La22 s23 o24 40 (fun La33 s34 => ∀ s39 : sg_M, s39 = sg_up s34 o 1 o24 → ∀ s41 : sg_M, s41 = sg_up s39 o 2 0 → sg_sealed La33 s41 o 22 2 ∧ ∀ La43 : sg_L, La43 = sg_se La33 o.toNat 2 → Q La43 s41))
set_option maxHeartbeats 4000000 in
set_option maxRecDepth 100000 in
theorem CX2_init {l : Launch} {G : sg_G} {La : sg_L} {s0 : sg_M} {o : Int} (to : sg_O La o 22) {Q : sg_L → sg_M → Prop} (hf : fX2_init La s0 o Q) : sg_C l G yX2_init cX2_init 1 (none) 2 4 406 La s0 [sg_r o] (sg_BV (sg_se La o.toNat 2) Q) := by
  refine sg_body (by decide +kernel) (Nat.le_of_ble_eq_true rfl) ?_
  intro p e s m args below meth c F hnm
  unfold fX2_init at hf
  show sg_W p l e (sg_rm 2 4 406) s m args below meth c (MQ below (sg_Q (none) G La s.heap.size (sg_BV (sg_se La o.toNat 2) Q)) args s 4 406 (sg_A La s.heap.size)) 1 G (sg_A La s.heap.size) La s0 0 0 0 [(0, sg_r o)] []
  have hin : meth.name = "<init>" := hnm
  refine gw_aload_n F 0 rfl rfl to.1 dX2_init_0 ?_
  refine gw_objInit F to.1 kw_221 kw_OI kw_OC (Nat.le_of_ble_eq_true rfl) (by decide) (by decide) dX2_init_1 ?_
  refine gw_aload_n F 0 rfl rfl to.1 dX2_init_4 ?_
  refine gy_new F (kd := 24) (T := TX4) (by decide) rfl sg_lay_RX4 tyX4_ok kw_222 kw_191 kw_97 ns_X4 nf_X4 nr_X4 (by decide) (by decide) (List.forall_mem_cons.mpr ⟨(Or.inl to.2.1), (fun _ h => absurd h List.not_mem_nil)⟩) (List.forall_mem_cons.mpr ⟨(Or.inl to.2.1), (fun _ h => absurd h List.not_mem_nil)⟩) dX2_init_5 (fun q1 La2 s3 o4 e5 e6 e7 t8 hX9 => ?_)
  have hf := hf q1 La2 e5 s3 e6 o4 e7
  have hn10 : La.1 ≤ o4.toNat := by rw [e7, Int.toNat_natCast]; exact (sg_X.rf : sg_X La La).1
  have t11 := to.X hX9
  have hX12 := sg_X.tr (sg_X.rf) hX9
  refine gw_dup F rfl dX2_init_8 ?_
  refine gw_bipush F rfl dX2_init_9 ?_
  refine gk_BV F (gc_I F (S := [sg_r o4, sg_r o]) (As := [sg_i 40]) (CX4_init t8 (by decide) hf) t8.1 kw_194 kw_97 kw_223 kw_193 rfl hcX4_init ⟨by decide, by decide⟩ rfl rfl (Nat.le_of_ble_eq_true rfl) ⟨by decide, by decide⟩ dX2_init_11) (List.forall_mem_cons.mpr ⟨(Or.inl t11.2.1), (fun _ h => absurd h List.not_mem_nil)⟩) (List.forall_mem_cons.mpr ⟨(Or.inl t8.2.1), (List.forall_mem_cons.mpr ⟨(Or.inl t11.2.1), (fun _ h => absurd h List.not_mem_nil)⟩)⟩) (fun La13 s14 hX15 hf => ?_)
  have t16 := (sg_O_sx t11 t8 (by decide)).X hX15
  have t17 := (sg_O_sealed t8).X hX15
  have hX18 := (sg_X_sx (hX12) hn10).tr hX15
  obtain ⟨s19, e20⟩ : ∃ z : sg_M, z = sg_up s14 o 0 o4 := ⟨_, rfl⟩
  have hf := hf s19 e20
  refine gw_put5F F t16 (by decide) rfl sg_lay_RX2 (j := 0) (by decide) (D0 := tyX2 0) (fun _ => ⟨rfl, rfl⟩) t17.1 t17.2.1 e20 tyX2_ok nmX2 rfl hin rfl (tyX2_ok 0 (by decide)) rfl (host := "") kw_224 dX2_init_14 ?_
  refine gw_aload_n F 0 rfl rfl t16.1 dX2_init_17 ?_
  refine gy_new F (kd := 24) (T := TX4) (by decide) rfl sg_lay_RX4 tyX4_ok kw_222 kw_191 kw_97 ns_X4 nf_X4 nr_X4 (by decide) (by decide) (List.forall_mem_cons.mpr ⟨(Or.inl t16.2.1), (fun _ h => absurd h List.not_mem_nil)⟩) (List.forall_mem_cons.mpr ⟨(Or.inl t16.2.1), (fun _ h => absurd h List.not_mem_nil)⟩) dX2_init_18 (fun q21 La22 s23 o24 e25 e26 e27 t28 hX29 => ?_)
  have hf := hf q21 La22 e25 s23 e26 o24 e27
  have hn30 : La.1 ≤ o24.toNat := by rw [e27, Int.toNat_natCast]; exact (hX18 : sg_X La La13).1
  have t31 := t16.X hX29
  have hX32 := sg_X.tr (hX18) hX29
  refine gw_dup F rfl dX2_init_21 ?_
  refine gw_bipush F rfl dX2_init_22 ?_
  refine gk_BV F (gc_I F (S := [sg_r o24, sg_r o]) (As := [sg_i 40]) (CX4_init t28 (by decide) hf) t28.1 kw_194 kw_97 kw_223 kw_193 rfl hcX4_init ⟨by decide, by decide⟩ rfl rfl (Nat.le_of_ble_eq_true rfl) ⟨by decide, by decide⟩ dX2_init_24) (List.forall_mem_cons.mpr ⟨(Or.inl t31.2.1), (fun _ h => absurd h List.not_mem_nil)⟩) (List.forall_mem_cons.mpr ⟨(Or.inl t28.2.1), (List.forall_mem_cons.mpr ⟨(Or.inl t31.2.1), (fun _ h => absurd h List.not_mem_nil)⟩)⟩) (fun La33 s34 hX35 hf => ?_)
  have t36 := (sg_O_sx t31 t28 (by decide)).X hX35
  have t37 := (sg_O_sealed t28).X hX35
  have hX38 := (sg_X_sx (hX32) hn30).tr hX35
  obtain ⟨s39, e40⟩ : ∃ z : sg_M, z = sg_up s34 o 1 o24 := ⟨_, rfl⟩
  have hf := hf s39 e40
  refine gw_put5F F t36 (by decide) rfl sg_lay_RX2 (j := 1) (by decide) (D0 := tyX2 1) (fun _ => ⟨rfl, rfl⟩) t37.1 t37.2.1 e40 tyX2_ok nmX2 rfl hin rfl (tyX2_ok 1 (by decide)) rfl (host := "") kw_226 dX2_init_27 ?_
  refine gw_aload_n F 0 rfl rfl t36.1 dX2_init_30 ?_
  refine gw_iconst F dX2_init_31 ?_
  obtain ⟨s41, e42⟩ : ∃ z : sg_M, z = sg_up s39 o 2 0 := ⟨_, rfl⟩
  have hf := hf s41 e42
  refine gw_put0 F t36 (by decide) rfl sg_lay_RX2 (j := 2) (by decide) (by decide) e42 tyX2_ok nmX2 rfl (tyX2_ok 2 (by decide)) rfl (host := "") (.inl kw_228) dX2_init_32 ?_
  obtain ⟨g44, hf⟩ := hf
  obtain ⟨La43, e45⟩ : ∃ z : sg_L, z = sg_se La33 o.toNat 2 := ⟨_, rfl⟩
  have hf := hf La43 e45
  refine gy_seal t36 ⟨by decide, by decide, by decide⟩ (by decide) (by decide) g44 e45 ?_
  exact gr_BC F (o := o.toNat) (kd := 2) hf (by rw [e45]; exact sg_X.both hX38) (by decide) (by decide) dX2_init_35

theorem dX7_init_0 : decode cX7_init 0 = .ok (.aload_n 0, 1) := by decide +kernel
theorem dX7_init_1 : decode cX7_init 1 = .ok (.invokespecial 3, 3) := by decide +kernel
theorem dX7_init_4 : decode cX7_init 4 = .ok (.aload_n 0, 1) := by decide +kernel
theorem dX7_init_5 : decode cX7_init 5 = .ok (.new 9, 3) := by decide +kernel
theorem dX7_init_8 : decode cX7_init 8 = .ok (.dup, 1) := by decide +kernel
theorem dX7_init_9 : decode cX7_init 9 = .ok (.invokespecial 11, 3) := by decide +kernel
theorem dX7_init_12 : decode cX7_init 12 = .ok (.putfield 12, 3) := by decide +kernel
theorem dX7_init_15 : decode cX7_init 15 = .ok (.aload_n 0, 1) := by decide +kernel
theorem dX7_init_16 : decode cX7_init 16 = .ok (.iconst 4, 1) := by decide +kernel
theorem dX7_init_17 : decode cX7_init 17 = .ok (.anewarray 18, 3) := by decide +kernel
theorem dX7_init_20 : decode cX7_init 20 = .ok (.putfield 20, 3) := by decide +kernel
theorem dX7_init_23 : decode cX7_init 23 = .ok (.aload_n 0, 1) := by decide +kernel
theorem dX7_init_24 : decode cX7_init 24 = .ok (.aload_n 1, 1) := by decide +kernel
theorem dX7_init_25 : decode cX7_init 25 = .ok (.putfield 24, 3) := by decide +kernel
theorem dX7_init_28 : decode cX7_init 28 = .ok (.aload_n 0, 1) := by decide +kernel
theorem dX7_init_29 : decode cX7_init 29 = .ok (.aload_n 2, 1) := by decide +kernel
theorem dX7_init_30 : decode cX7_init 30 = .ok (.putfield 28, 3) := by decide +kernel
theorem dX7_init_33 : decode cX7_init 33 = .ok (.aload_n 0, 1) := by decide +kernel
theorem dX7_init_34 : decode cX7_init 34 = .ok (.aload_n 3, 1) := by decide +kernel
theorem dX7_init_35 : decode cX7_init 35 = .ok (.putfield 32, 3) := by decide +kernel
theorem dX7_init_38 : decode cX7_init 38 = .ok (.return_, 1) := by decide +kernel
theorem hcX7_init : yX7_init.cls ≠ "java/lang/invoke/MethodHandle" ∧ yX7_init.cls ≠ "java/lang/invoke/VarHandle" ∧ (parseMethodDescriptor yX7_init.desc).map (fun d => d.parameters.length) = some 3 := ⟨by decide +kernel, by decide +kernel, by decide +kernel⟩
def fX7_init_A (La : sg_L) (s0 : sg_M) (o : Int) (o1 : Int) (o2 : Int) (o3 : Int) (Q : sg_L → sg_M → Prop) : Prop := ∀ (q1 : Nat) (La2 : sg_L), La2 = sg_pu La 22 q1 → ∀ s3 : sg_M, s3 = sg_nw s0 La.1 22 → ∀ o4 : Int, o4 = (La.1 : Int) → fX2_init La2 s3 o4 (fun La16 s17 => ∀ s25 : sg_M, s25 = sg_up s17 o 3 o4 → ∀ (q27 : Nat) (La28 : sg_L), La28 = sg_pu La16 30004 q27 → ∀ s29 : sg_M, s29 = sg_nw s25 La16.1 30004 → ∀ o30 : Int, o30 = (La16.1 : Int) → ∀ s42 : sg_M, s42 = sg_up s29 o 4 o30 → ∀ s44 : sg_M, s44 = sg_up s42 o 0 o1 → ∀ s46 : sg_M, s46 = sg_up s44 o 1 o2 → ∀ s48 : sg_M, s48 = sg_up s46 o 2 o3 → sg_sealed La28 s48 o 47 27 ∧ ∀ La50 : sg_L, La50 = sg_se La28 o.toNat 27 → Q La50 s48)
set_option maxHeartbeats 4000000 in
set_option maxRecDepth 100000 in
theorem CX7_init_A {l : Launch} {G : sg_G} {La : sg_L} {s0 : sg_M} {o : Int} (to : sg_O La o 47) {o1 : Int} (t1 : sg_O La o1 1) {o2 : Int} (t2 : sg_O La o2 3) {o3 : Int} (t3 : sg_O La o3 5) {Q : sg_L → sg_M → Prop} (hf : fX7_init_A La s0 o o1 o2 o3 Q) : sg_C l G yX7_init cX7_init 4 (none) 3 6 413 La s0 [sg_r o, sg_r o1, sg_r o2, sg_r o3] (sg_BV (sg_se La o.toNat 27) Q) := by
  refine sg_body (by decide +kernel) (Nat.le_of_ble_eq_true rfl) ?_
  intro p e s m args below meth c F hnm
  unfold fX7_init_A at hf
  show sg_W p l e (sg_rm 3 6 413) s m args below meth c (MQ below (sg_Q (none) G La s.heap.size (sg_BV (sg_se La o.toNat 27) Q)) args s 6 413 (sg_A La s.heap.size)) 4 G (sg_A La s.heap.size) La s0 0 0 0 [(0, sg_r o), (1, sg_r o1), (2, sg_r o2), (3, sg_r o3)] []
  have hin : meth.name = "<init>" := hnm
  refine gw_aload_n F 0 rfl rfl to.1 dX7_init_0 ?_
  refine gw_objInit F to.1 kw_215 kw_OI kw_OC (Nat.le_of_ble_eq_true rfl) (by decide) (by decide) dX7_init_1 ?_
  refine gw_aload_n F 0 rfl rfl to.1 dX7_init_4 ?_
  refine gy_new F (kd := 22) (T := TX2) (by decide) rfl sg_lay_RX2 tyX2_ok kw_216 kw_217 kw_99 ns_X2 nf_X2 nr_X2 (by decide) (by decide) (List.forall_mem_cons.mpr ⟨(Or.inl to.2.1), (List.forall_mem_cons.mpr ⟨(Or.inl t1.2.1), (List.forall_mem_cons.mpr ⟨(Or.inl t2.2.1), (List.forall_mem_cons.mpr ⟨(Or.inl t3.2.1), (fun _ h => absurd h List.not_mem_nil)⟩)⟩)⟩)⟩) (List.forall_mem_cons.mpr ⟨(Or.inl to.2.1), (fun _ h => absurd h List.not_mem_nil)⟩) dX7_init_5 (fun q1 La2 s3 o4 e5 e6 e7 t8 hX9 => ?_)
  have hf := hf q1 La2 e5 s3 e6 o4 e7
  have hn10 : La.1 ≤ o4.toNat := by rw [e7, Int.toNat_natCast]; exact (sg_X.rf : sg_X La La).1
  have t11 := to.X hX9
  have t12 := t1.X hX9
  have t13 := t2.X hX9
  have t14 := t3.X hX9
  have hX15 := sg_X.tr (sg_X.rf) hX9
  refine gw_dup F rfl dX7_init_8 ?_
  refine gk_BV F (gc_IN F (S := [sg_r o4, sg_r o]) (As := []) (CX2_init t8 hf) t8.1 kw_220 kw_99 kw_218 kw_219 rfl hcX2_init ⟨by decide, by decide⟩ rfl rfl (Nat.le_of_ble_eq_true rfl) ⟨by decide, by decide⟩ dX7_init_9) (List.forall_mem_cons.mpr ⟨(Or.inl t11.2.1), (List.forall_mem_cons.mpr ⟨(Or.inl t12.2.1), (List.forall_mem_cons.mpr ⟨(Or.inl t13.2.1), (List.forall_mem_cons.mpr ⟨(Or.inl t14.2.1), (fun _ h => absurd h List.not_mem_nil)⟩)⟩)⟩)⟩) (List.forall_mem_cons.mpr ⟨(Or.inl t8.2.1), (List.forall_mem_cons.mpr ⟨(Or.inl t11.2.1), (fun _ h => absurd h List.not_mem_nil)⟩)⟩) (fun La16 s17 hX18 hf => ?_)
  have t19 := (sg_O_sx t11 t8 (by decide)).X hX18
  have t20 := (sg_O_sx t12 t8 (by decide)).X hX18
  have t21 := (sg_O_sx t13 t8 (by decide)).X hX18
  have t22 := (sg_O_sx t14 t8 (by decide)).X hX18
  have t23 := (sg_O_sealed t8).X hX18
  have hX24 := (sg_X_sx (hX15) hn10).tr hX18
  obtain ⟨s25, e26⟩ : ∃ z : sg_M, z = sg_up s17 o 3 o4 := ⟨_, rfl⟩
  have hf := hf s25 e26
  refine gw_put5F F t19 (by decide) rfl sg_lay_RX7 (j := 3) (by decide) (D0 := tyX7 3) (fun _ => ⟨rfl, rfl⟩) t23.1 t23.2.1 e26 tyX7_ok nmX7 rfl hin rfl (tyX7_ok 3 (by decide)) rfl (host := "") kw_239 dX7_init_12 ?_
  refine gw_aload_n F 0 rfl rfl t19.1 dX7_init_15 ?_
  refine gw_iconst F dX7_init_16 ?_
  refine gy_newB F (N := 4) kw_231 (F.2.2.2.2.2.2.2.2.2.1 _ kw_232) rfl (by decide) (by decide) (by decide) (List.forall_mem_cons.mpr ⟨(Or.inl t19.2.1), (List.forall_mem_cons.mpr ⟨(Or.inl t20.2.1), (List.forall_mem_cons.mpr ⟨(Or.inl t21.2.1), (List.forall_mem_cons.mpr ⟨(Or.inl t22.2.1), (fun _ h => absurd h List.not_mem_nil)⟩)⟩)⟩)⟩) (List.forall_mem_cons.mpr ⟨(Or.inl t19.2.1), (fun _ h => absurd h List.not_mem_nil)⟩) dX7_init_17 (fun q27 La28 s29 o30 e31 e32 e33 t34 hX35 => ?_)
  have hf := hf q27 La28 e31 s29 e32 o30 e33
  have hn36 : La.1 ≤ o30.toNat := by rw [e33, Int.toNat_natCast]; exact (hX24 : sg_X La La16).1
  have t37 := t19.X hX35
  have t38 := t20.X hX35
  have t39 := t21.X hX35
  have t40 := t22.X hX35
  have hX41 := sg_X.tr (hX24) hX35
  obtain ⟨s42, e43⟩ : ∃ z : sg_M, z = sg_up s29 o 4 o30 := ⟨_, rfl⟩
  have hf := hf s42 e43
  refine gw_put5F F t37 (by decide) rfl sg_lay_RX7 (j := 4) (by decide) (D0 := tyX7 4) (fun _ => ⟨rfl, rfl⟩) t34.1 t34.2.1 e43 tyX7_ok nmX7 rfl hin rfl (tyX7_ok 4 (by decide)) rfl (host := "") kw_241 dX7_init_20 ?_
  refine gw_aload_n F 0 rfl rfl t37.1 dX7_init_23 ?_
  refine gw_aload_n F 1 rfl rfl t38.1 dX7_init_24 ?_
  obtain ⟨s44, e45⟩ : ∃ z : sg_M, z = sg_up s42 o 0 o1 := ⟨_, rfl⟩
  have hf := hf s44 e45
  refine gw_put5 F t37 (by decide) rfl sg_lay_RX7 (j := 0) (by decide) (D0 := tyX7 0) (fun _ => ⟨rfl, rfl⟩) t38.1 t38.2.1 e45 tyX7_ok nmX7 rfl (tyX7_ok 0 (by decide)) rfl (host := "") (.inl kw_233) dX7_init_25 ?_
  refine gw_aload_n F 0 rfl rfl t37.1 dX7_init_28 ?_
  refine gw_aload_n F 2 rfl rfl t39.1 dX7_init_29 ?_
  obtain ⟨s46, e47⟩ : ∃ z : sg_M, z = sg_up s44 o 1 o2 := ⟨_, rfl⟩
  have hf := hf s46 e47
  refine gw_put5 F t37 (by decide) rfl sg_lay_RX7 (j := 1) (by decide) (D0 := tyX7 1) (fun _ => ⟨rfl, rfl⟩) t39.1 t39.2.1 e47 tyX7_ok nmX7 rfl (tyX7_ok 1 (by decide)) rfl (host := "") (.inl kw_235) dX7_init_30 ?_
  refine gw_aload_n F 0 rfl rfl t37.1 dX7_init_33 ?_
  refine gw_aload_n F 3 rfl rfl t40.1 dX7_init_34 ?_
  obtain ⟨s48, e49⟩ : ∃ z : sg_M, z = sg_up s46 o 2 o3 := ⟨_, rfl⟩
  have hf := hf s48 e49
  refine gw_put5 F t37 (by decide) rfl sg_lay_RX7 (j := 2) (by decide) (D0 := tyX7 2) (fun _ => ⟨rfl, rfl⟩) t40.1 t40.2.1 e49 tyX7_ok nmX7 rfl (tyX7_ok 2 (by decide)) rfl (host := "") (.inl kw_237) dX7_init_35 ?_
  obtain ⟨g51, hf⟩ := hf
  obtain ⟨La50, e52⟩ : ∃ z : sg_L, z = sg_se La28 o.toNat 27 := ⟨_, rfl⟩
  have hf := hf La50 e52
  refine gy_seal t37 ⟨by decide, by decide, by decide⟩ (by decide) (by decide) g51 e52 ?_
  exact gr_BC F (o := o.toNat) (kd := 27) hf (by rw [e52]; exact sg_X.both hX41) (by decide) (by decide) dX7_init_38

def fX7_init_B (La : sg_L) (s0 : sg_M) (o : Int) (o1 : Int) (o2 : Int) (o3 : Int) (Q : sg_L → sg_M → Prop) : Prop := ∀ (q1 : Nat) (La2 : sg_L), La2 = sg_pu La 22 q1 → ∀ s3 : sg_M, s3 = sg_nw s0 La.1 22 → ∀ o4 : Int, o4 = (La.1 : Int) → fX2_init La2 s3 o4 (fun La16 s17 => ∀ s25 : sg_M, s25 = sg_up s17 o 3 o4 → ∀ (q27 : Nat) (La28 : sg_L), La28 = sg_pu La16 30004 q27 → ∀ s29 : sg_M, s29 = sg_nw s25 La16.1 30004 → ∀ o30 : Int, o30 = (La16.1 : Int) → ∀ s42 : sg_M, s42 = sg_up s29 o 4 o30 → ∀ s44 : sg_M, s44 = sg_up s42 o 0 o1 → ∀ s46 : sg_M, s46 = sg_up s44 o 1 o2 → ∀ s48 : sg_M, s48 = sg_up s46 o 2 o3 → sg_sealed La28 s48 o 47 7 ∧ ∀ La50 : sg_L, La50 = sg_se La28 o.toNat 7 → Q La50 s48)
set_option maxHeartbeats 4000000 in
set_option maxRecDepth 100000 in
theorem CX7_init_B {l : Launch} {G : sg_G} {La : sg_L} {s0 : sg_M} {o : Int} (to : sg_O La o 47) {o1 : Int} (t1 : sg_O La o1 1) {o2 : Int} (t2 : sg_O La o2 3) {o3 : Int} (t3 : sg_O La o3 5) {Q : sg_L → sg_M → Prop} (hf : fX7_init_B La s0 o o1 o2 o3 Q) : sg_C l G yX7_init cX7_init 4 (none) 3 6 413 La s0 [sg_r o, sg_r o1, sg_r o2, sg_r o3] (sg_BV (sg_se La o.toNat 7) Q) := by
  refine sg_body (by decide +kernel) (Nat.le_of_ble_eq_true rfl) ?_
  intro p e s m args below meth c F hnm
  unfold fX7_init_B at hf
  show sg_W p l e (sg_rm 3 6 413) s m args below meth c (MQ below (sg_Q (none) G La s.heap.size (sg_BV (sg_se La o.toNat 7) Q)) args s 6 413 (sg_A La s.heap.size)) 4 G (sg_A La s.heap.size) La s0 0 0 0 [(0, sg_r o), (1, sg_r o1), (2, sg_r o2), (3, sg_r o3)] []
  have hin : meth.name = "<init>" := hnm
  refine gw_aload_n F 0 rfl rfl to.1 dX7_init_0 ?_
  refine gw_objInit F to.1 kw_215 kw_OI kw_OC (Nat.le_of_ble_eq_true rfl) (by decide) (by decide) dX7_init_1 ?_
  refine gw_aload_n F 0 rfl rfl to.1 dX7_init_4 ?_
  refine gy_new F (kd := 22) (T := TX2) (by decide) rfl sg_lay_RX2 tyX2_ok kw_216 kw_217 kw_99 ns_X2 nf_X2 nr_X2 (by decide) (by decide) (List.forall_mem_cons.mpr ⟨(Or.inl to.2.1), (List.forall_mem_cons.mpr ⟨(Or.inl t1.2.1), (List.forall_mem_cons.mpr ⟨(Or.inl t2.2.1), (List.forall_mem_cons.mpr ⟨(Or.inl t3.2.1), (fun _ h => absurd h List.not_mem_nil)⟩)⟩)⟩)⟩) (List.forall_mem_cons.mpr ⟨(Or.inl to.2.1), (fun _ h => absurd h List.not_mem_nil)⟩) dX7_init_5 (fun q1 La2 s3 o4 e5 e6 e7 t8 hX9 => ?_)
  have hf := hf q1 La2 e5 s3 e6 o4 e7
  have hn10 : La.1 ≤ o4.toNat := by rw [e7, Int.toNat_natCast]; exact (sg_X.rf : sg_X La La).1
  have t11 := to.X hX9
  have t12 := t1.X hX9
  have t13 := t2.X hX9
  have t14 := t3.X hX9
  have hX15 := sg_X.tr (sg_X.rf) hX9
  refine gw_dup F rfl dX7_init_8 ?_
  refine gk_BV F (gc_IN F (S := [sg_r o4, sg_r o]) (As := []) (CX2_init t8 hf) t8.1 kw_220 kw_99 kw_218 kw_219 rfl hcX2_init ⟨by decide, by decide⟩ rfl rfl (Nat.le_of_ble_eq_true rfl) ⟨by decide, by decide⟩ dX7_init_9) (List.forall_mem_cons.mpr ⟨(Or.inl t11.2.1), (List.forall_mem_cons.mpr ⟨(Or.inl t12.2.1), (List.forall_mem_cons.mpr ⟨(Or.inl t13.2.1), (List.forall_mem_cons.mpr ⟨(Or.inl t14.2.1), (fun _ h => absurd h List.not_mem_nil)⟩)⟩)⟩)⟩) (List.forall_mem_cons.mpr ⟨(Or.inl t8.2.1), (List.forall_mem_cons.mpr ⟨(Or.inl t11.2.1), (fun _ h => absurd h List.not_mem_nil)⟩)⟩) (fun La16 s17 hX18 hf => ?_)
  have t19 := (sg_O_sx t11 t8 (by decide)).X hX18
  have t20 := (sg_O_sx t12 t8 (by decide)).X hX18
  have t21 := (sg_O_sx t13 t8 (by decide)).X hX18
  have t22 := (sg_O_sx t14 t8 (by decide)).X hX18
  have t23 := (sg_O_sealed t8).X hX18
  have hX24 := (sg_X_sx (hX15) hn10).tr hX18
  obtain ⟨s25, e26⟩ : ∃ z : sg_M, z = sg_up s17 o 3 o4 := ⟨_, rfl⟩
  have hf := hf s25 e26
  refine gw_put5F F t19 (by decide) rfl sg_lay_RX7 (j := 3) (by decide) (D0 := tyX7 3) (fun _ => ⟨rfl, rfl⟩) t23.1 t23.2.1 e26 tyX7_ok nmX7 rfl hin rfl (tyX7_ok 3 (by decide)) rfl (host := "") kw_239 dX7_init_12 ?_
  refine gw_aload_n F 0 rfl rfl t19.1 dX7_init_15 ?_
  refine gw_iconst F dX7_init_16 ?_
  refine gy_newB F (N := 4) kw_231 (F.2.2.2.2.2.2.2.2.2.1 _ kw_232) rfl (by decide) (by decide) (by decide) (List.forall_mem_cons.mpr ⟨(Or.inl t19.2.1), (List.forall_mem_cons.mpr ⟨(Or.inl t20.2.1), (List.forall_mem_cons.mpr ⟨(Or.inl t21.2.1), (List.forall_mem_cons.mpr ⟨(Or.inl t22.2.1), (fun _ h => absurd h List.not_mem_nil)⟩)⟩)⟩)⟩) (List.forall_mem_cons.mpr ⟨(Or.inl t19.2.1), (fun _ h => absurd h List.not_mem_nil)⟩) dX7_init_17 (fun q27 La28 s29 o30 e31 e32 e33 t34 hX35 => ?_)
  have hf := hf q27 La28 e31 s29 e32 o30 e33
  have hn36 : La.1 ≤ o30.toNat := by rw [e33, Int.toNat_natCast]; exact (hX24 : sg_X La La16).1
  have t37 := t19.X hX35
  have t38 := t20.X hX35
  have t39 := t21.X hX35
  have t40 := t22.X hX35
  have hX41 := sg_X.tr (hX24) hX35
  obtain ⟨s42, e43⟩ : ∃ z : sg_M, z = sg_up s29 o 4 o30 := ⟨_, rfl⟩
  have hf := hf s42 e43
  refine gw_put5F F t37 (by decide) rfl sg_lay_RX7 (j := 4) (by decide) (D0 := tyX7 4) (fun _ => ⟨rfl, rfl⟩) t34.1 t34.2.1 e43 tyX7_ok nmX7 rfl hin rfl (tyX7_ok 4 (by decide)) rfl (host := "") kw_241 dX7_init_20 ?_
  refine gw_aload_n F 0 rfl rfl t37.1 dX7_init_23 ?_
  refine gw_aload_n F 1 rfl rfl t38.1 dX7_init_24 ?_
  obtain ⟨s44, e45⟩ : ∃ z : sg_M, z = sg_up s42 o 0 o1 := ⟨_, rfl⟩
  have hf := hf s44 e45
  refine gw_put5 F t37 (by decide) rfl sg_lay_RX7 (j := 0) (by decide) (D0 := tyX7 0) (fun _ => ⟨rfl, rfl⟩) t38.1 t38.2.1 e45 tyX7_ok nmX7 rfl (tyX7_ok 0 (by decide)) rfl (host := "") (.inl kw_233) dX7_init_25 ?_
  refine gw_aload_n F 0 rfl rfl t37.1 dX7_init_28 ?_
  refine gw_aload_n F 2 rfl rfl t39.1 dX7_init_29 ?_
  obtain ⟨s46, e47⟩ : ∃ z : sg_M, z = sg_up s44 o 1 o2 := ⟨_, rfl⟩
  have hf := hf s46 e47
  refine gw_put5 F t37 (by decide) rfl sg_lay_RX7 (j := 1) (by decide) (D0 := tyX7 1) (fun _ => ⟨rfl, rfl⟩) t39.1 t39.2.1 e47 tyX7_ok nmX7 rfl (tyX7_ok 1 (by decide)) rfl (host := "") (.inl kw_235) dX7_init_30 ?_
  refine gw_aload_n F 0 rfl rfl t37.1 dX7_init_33 ?_
  refine gw_aload_n F 3 rfl rfl t40.1 dX7_init_34 ?_
  obtain ⟨s48, e49⟩ : ∃ z : sg_M, z = sg_up s46 o 2 o3 := ⟨_, rfl⟩
  have hf := hf s48 e49
  refine gw_put5 F t37 (by decide) rfl sg_lay_RX7 (j := 2) (by decide) (D0 := tyX7 2) (fun _ => ⟨rfl, rfl⟩) t40.1 t40.2.1 e49 tyX7_ok nmX7 rfl (tyX7_ok 2 (by decide)) rfl (host := "") (.inl kw_237) dX7_init_35 ?_
  obtain ⟨g51, hf⟩ := hf
  obtain ⟨La50, e52⟩ : ∃ z : sg_L, z = sg_se La28 o.toNat 7 := ⟨_, rfl⟩
  have hf := hf La50 e52
  refine gy_seal t37 ⟨by decide, by decide, by decide⟩ (by decide) (by decide) g51 e52 ?_
  exact gr_BC F (o := o.toNat) (kd := 7) hf (by rw [e52]; exact sg_X.both hX41) (by decide) (by decide) dX7_init_38

theorem dX11_hearBook_0 : decode cX11_hearBook 0 = .ok (.aload_n 0, 1) := by decide +kernel
theorem dX11_hearBook_1 : decode cX11_hearBook 1 = .ok (.getfield 93, 3) := by decide +kernel
theorem dX11_hearBook_4 : decode cX11_hearBook 4 = .ok (.getfield 346, 3) := by decide +kernel
theorem dX11_hearBook_7 : decode cX11_hearBook 7 = .ok (.ifCond .eq 4, 3) := by decide +kernel
theorem dX11_hearBook_10 : decode cX11_hearBook 10 = .ok (.return_, 1) := by decide +kernel
theorem dX11_hearBook_11 : decode cX11_hearBook 11 = .ok (.aload_n 0, 1) := by decide +kernel
theorem dX11_hearBook_12 : decode cX11_hearBook 12 = .ok (.getfield 93, 3) := by decide +kernel
theorem dX11_hearBook_15 : decode cX11_hearBook 15 = .ok (.invokevirtual 271, 3) := by decide +kernel
theorem dX11_hearBook_18 : decode cX11_hearBook 18 = .ok (.aload_n 0, 1) := by decide +kernel
theorem dX11_hearBook_19 : decode cX11_hearBook 19 = .ok (.getfield 96, 3) := by decide +kernel
theorem dX11_hearBook_22 : decode cX11_hearBook 22 = .ok (.invokevirtual 271, 3) := by decide +kernel
theorem dX11_hearBook_25 : decode cX11_hearBook 25 = .ok (.iconst 0, 1) := by decide +kernel
theorem dX11_hearBook_26 : decode cX11_hearBook 26 = .ok (.istore_n 1, 1) := by decide +kernel
theorem dX11_hearBook_27 : decode cX11_hearBook 27 = .ok (.iload_n 1, 1) := by decide +kernel
theorem dX11_hearBook_28 : decode cX11_hearBook 28 = .ok (.aload_n 0, 1) := by decide +kernel
theorem dX11_hearBook_29 : decode cX11_hearBook 29 = .ok (.getfield 39, 3) := by decide +kernel
theorem dX11_hearBook_32 : decode cX11_hearBook 32 = .ok (.getfield 237, 3) := by decide +kernel
theorem dX11_hearBook_35 : decode cX11_hearBook 35 = .ok (.getfield 241, 3) := by decide +kernel
theorem dX11_hearBook_38 : decode cX11_hearBook 38 = .ok (.if_icmp .ge 76, 3) := by decide +kernel
theorem dX11_hearBook_41 : decode cX11_hearBook 41 = .ok (.aload_n 0, 1) := by decide +kernel
theorem dX11_hearBook_42 : decode cX11_hearBook 42 = .ok (.aload_n 0, 1) := by decide +kernel
theorem dX11_hearBook_43 : decode cX11_hearBook 43 = .ok (.getfield 39, 3) := by decide +kernel
theorem dX11_hearBook_46 : decode cX11_hearBook 46 = .ok (.getfield 112, 3) := by decide +kernel
theorem dX11_hearBook_49 : decode cX11_hearBook 49 = .ok (.aload_n 0, 1) := by decide +kernel
theorem dX11_hearBook_50 : decode cX11_hearBook 50 = .ok (.getfield 39, 3) := by decide +kernel
theorem dX11_hearBook_53 : decode cX11_hearBook 53 = .ok (.getfield 237, 3) := by decide +kernel
theorem dX11_hearBook_56 : decode cX11_hearBook 56 = .ok (.getfield 352, 3) := by decide +kernel
theorem dX11_hearBook_59 : decode cX11_hearBook 59 = .ok (.iload_n 1, 1) := by decide +kernel
theorem dX11_hearBook_60 : decode cX11_hearBook 60 = .ok (.invokevirtual 182, 3) := by decide +kernel
theorem dX11_hearBook_63 : decode cX11_hearBook 63 = .ok (.aload_n 0, 1) := by decide +kernel
theorem dX11_hearBook_64 : decode cX11_hearBook 64 = .ok (.getfield 39, 3) := by decide +kernel
theorem dX11_hearBook_67 : decode cX11_hearBook 67 = .ok (.getfield 237, 3) := by decide +kernel
theorem dX11_hearBook_70 : decode cX11_hearBook 70 = .ok (.getfield 355, 3) := by decide +kernel
theorem dX11_hearBook_73 : decode cX11_hearBook 73 = .ok (.iload_n 1, 1) := by decide +kernel
theorem dX11_hearBook_74 : decode cX11_hearBook 74 = .ok (.invokevirtual 182, 3) := by decide +kernel
theorem dX11_hearBook_77 : decode cX11_hearBook 77 = .ok (.invokevirtual 225, 3) := by decide +kernel
theorem dX11_hearBook_80 : decode cX11_hearBook 80 = .ok (.aload_n 0, 1) := by decide +kernel
theorem dX11_hearBook_81 : decode cX11_hearBook 81 = .ok (.getfield 93, 3) := by decide +kernel
theorem dX11_hearBook_84 : decode cX11_hearBook 84 = .ok (.aload_n 0, 1) := by decide +kernel
theorem dX11_hearBook_85 : decode cX11_hearBook 85 = .ok (.getfield 54, 3) := by decide +kernel
theorem dX11_hearBook_88 : decode cX11_hearBook 88 = .ok (.getfield 228, 3) := by decide +kernel
theorem dX11_hearBook_91 : decode cX11_hearBook 91 = .ok (.invokevirtual 278, 3) := by decide +kernel
theorem dX11_hearBook_94 : decode cX11_hearBook 94 = .ok (.aload_n 0, 1) := by decide +kernel
theorem dX11_hearBook_95 : decode cX11_hearBook 95 = .ok (.getfield 96, 3) := by decide +kernel
theorem dX11_hearBook_98 : decode cX11_hearBook 98 = .ok (.aload_n 0, 1) := by decide +kernel
theorem dX11_hearBook_99 : decode cX11_hearBook 99 = .ok (.getfield 54, 3) := by decide +kernel
theorem dX11_hearBook_102 : decode cX11_hearBook 102 = .ok (.getfield 231, 3) := by decide +kernel
theorem dX11_hearBook_105 : decode cX11_hearBook 105 = .ok (.invokevirtual 278, 3) := by decide +kernel
theorem dX11_hearBook_108 : decode cX11_hearBook 108 = .ok (.iinc 1 1, 3) := by decide +kernel
theorem dX11_hearBook_111 : decode cX11_hearBook 111 = .ok (.goto (-84), 3) := by decide +kernel
theorem dX11_hearBook_114 : decode cX11_hearBook 114 = .ok (.aload_n 0, 1) := by decide +kernel
theorem dX11_hearBook_115 : decode cX11_hearBook 115 = .ok (.getfield 93, 3) := by decide +kernel
theorem dX11_hearBook_118 : decode cX11_hearBook 118 = .ok (.iconst 1, 1) := by decide +kernel
theorem dX11_hearBook_119 : decode cX11_hearBook 119 = .ok (.putfield 346, 3) := by decide +kernel
theorem dX11_hearBook_122 : decode cX11_hearBook 122 = .ok (.return_, 1) := by decide +kernel
theorem hcX11_hearBook : yX11_hearBook.cls ≠ "java/lang/invoke/MethodHandle" ∧ yX11_hearBook.cls ≠ "java/lang/invoke/VarHandle" ∧ (parseMethodDescriptor yX11_hearBook.desc).map (fun d => d.parameters.length) = some 0 := ⟨by decide +kernel, by decide +kernel, by decide +kernel⟩
def fX11_hearBook_L27 (La : sg_L) (Q : sg_M → Prop) : Nat → sg_M → Int → Prop
  | 0, _, _ => False
  | n_27 + 1, s_27, x1_27 => (((s_27 20 2) ≤ x1_27 → ∀ s13 : sg_M, s13 = sg_up s_27 58 2 1 → Q s13) ∧ (¬ ((s_27 20 2) ≤ x1_27) → fX4_at La s_27 21 x1_27 (fun u20 => fX4_at La s_27 23 x1_27 (fun u25 => (0 ≤ (s_27 4 0)) ∧ fX11_listenTo La s_27 (s_27 4 0) u20 u25 (fun s29 => fX4_add La s29 58 (s29 32 7) (fun s33 => fX4_add La s33 60 (s33 32 8) (fun s37 => sg_R (x1_27 + 1) ∧ (fX11_hearBook_L27 La Q n_27) s37 (x1_27 + 1))))))))
def fX11_hearBook (La : sg_L) (s0 : sg_M) (Q : sg_M → Prop) : Prop := (((s0 58 2) = 0 → fX4_clear s0 58 (fun s5 => fX4_clear s5 60 (fun s7 => (∃ n39 : Nat, fX11_hearBook_L27 La Q n39 s7 0)))) ∧ (¬ ((s0 58 2) = 0) → Q s0))
set_option maxHeartbeats 4000000 in
set_option maxRecDepth 100000 in
theorem CX11_hearBook {l : Launch} {G : sg_G} {La : sg_L} {s0 : sg_M} (hst : sg_St La) {Q : sg_M → Prop} (hf : fX11_hearBook La s0 Q) : sg_C l G yX11_hearBook cX11_hearBook 2 (none) 6 0 0 La s0 [sg_r 0] (sg_HV La Q) := by
  refine sg_body (by decide +kernel) (Nat.le_of_ble_eq_true rfl) ?_
  intro p e s m args below meth c F hnm
  unfold fX11_hearBook at hf
  show sg_W p l e (sg_rm 6 0 0) s m args below meth c (MQ below (sg_Q (none) G La s.heap.size (sg_HV La Q)) args s 0 0 (sg_A La s.heap.size)) 2 G (sg_A La s.heap.size) La s0 0 0 0 [(0, sg_r 0)] []
  refine gw_aload_n F 0 rfl rfl (by decide) dX11_hearBook_0 ?_
  refine gw_get7 F (so_0 hst) (by decide) rfl sg_lay_RX11 (j := 13) (by decide) (o1 := 58) (by first | rfl | omega) rfl (host := "") (.inl kw_339) dX11_hearBook_1 (fun h1 => ?_)
  refine gw_get1 F (so_58 hst) (by decide) rfl sg_lay_RX4 (j := 2) (by decide) rfl (.inr kw_206) dX11_hearBook_4 (fun h2 => ?_)
  refine gw_if_eq F (tgt := 11) dX11_hearBook_7 (by decide) (sg_B_R h2) (fun c3 => ?_) (fun c3 => ?_)
  · have hf := hf.1 c3
    refine gw_aload_n F 0 rfl rfl (by decide) dX11_hearBook_11 ?_
    refine gw_get7 F (so_0 hst) (by decide) rfl sg_lay_RX11 (j := 13) (by decide) (o1 := 58) (by first | rfl | omega) rfl (host := "") (.inl kw_339) dX11_hearBook_12 (fun h4 => ?_)
    refine gk_HV F (gc_V F (S := []) (As := []) (T := TX4) (N := 3) (CX4_clear (so_58 hst) hf) (so_58 hst) (by decide) rfl kw_531 kw_97 kw_652 kw_529 kw_530 hcX4_clear ⟨by decide, by decide⟩ rfl rfl (Nat.le_of_ble_eq_true rfl) ⟨by decide, by decide⟩ dX11_hearBook_15) (fun s5 hf => ?_)
    refine gw_aload_n F 0 rfl rfl (by decide) dX11_hearBook_18 ?_
    refine gw_get7 F (so_0 hst) (by decide) rfl sg_lay_RX11 (j := 14) (by decide) (o1 := 60) (by first | rfl | omega) rfl (host := "") (.inl kw_340) dX11_hearBook_19 (fun h6 => ?_)
    refine gk_HV F (gc_V F (S := []) (As := []) (T := TX4) (N := 3) (CX4_clear (so_60 hst) hf) (so_60 hst) (by decide) rfl kw_531 kw_97 kw_652 kw_529 kw_530 hcX4_clear ⟨by decide, by decide⟩ rfl rfl (Nat.le_of_ble_eq_true rfl) ⟨by decide, by decide⟩ dX11_hearBook_22) (fun s7 hf => ?_)
    refine gw_iconst F dX11_hearBook_25 ?_
    refine gw_istore_n F rfl (by decide) rfl dX11_hearBook_26 ?_
    have L27 : ∀ n_27 : Nat, ∀ (s_27 : sg_M) (x1_27 : Int), sg_R x1_27 → fX11_hearBook_L27 La Q n_27 s_27 x1_27 → sg_W p l e (sg_rm 6 0 0) s m args below meth c (MQ below (sg_Q (none) G La s.heap.size (sg_HV La Q)) args s 0 0 (sg_A La s.heap.size)) 2 G (sg_A La s.heap.size) La s_27 0 0 27 [(0, sg_r 0), (1, sg_i x1_27)] [] := by
      intro n_27
      induction n_27 with
      | zero => intro s_27 x1_27 r1_27 hf; exact hf.elim
      | succ n_27 ih =>
        intro s_27 x1_27 r1_27 hf
        unfold fX11_hearBook_L27 at hf
        refine gw_iload_n F 1 rfl rfl dX11_hearBook_27 ?_
        refine gw_aload_n F 0 rfl rfl (by decide) dX11_hearBook_28 ?_
        refine gw_get7 F (so_0 hst) (by decide) rfl sg_lay_RX11 (j := 2) (by decide) (o1 := 4) (by first | rfl | omega) rfl (host := "") (.inl kw_328) dX11_hearBook_29 (fun h8 => ?_)
        refine gw_get7 F (so_4 hst) (by decide) rfl sg_lay_RX7 (j := 3) (by decide) (o1 := 20) (by first | rfl | omega) rfl (.inr kw_240) dX11_hearBook_32 (fun h9 => ?_)
        refine gw_get0 F (so_20 hst) (by decide) rfl sg_lay_RX2 (j := 2) (by decide) rfl (.inr kw_230) dX11_hearBook_35 (fun h10 => ?_)
        refine gw_icmp_ge F (tgt := 114) dX11_hearBook_38 (by decide) r1_27 h10 (fun c11 => ?_) (fun c11 => ?_)
        · have hf := hf.1 c11
          refine gw_aload_n F 0 rfl rfl (by decide) dX11_hearBook_114 ?_
          refine gw_get7 F (so_0 hst) (by decide) rfl sg_lay_RX11 (j := 13) (by decide) (o1 := 58) (by first | rfl | omega) rfl (host := "") (.inl kw_339) dX11_hearBook_115 (fun h12 => ?_)
          refine gw_iconst F dX11_hearBook_118 ?_
          obtain ⟨s13, e14⟩ : ∃ z : sg_M, z = sg_up s_27 58 2 1 := ⟨_, rfl⟩
          have hf := hf s13 e14
          refine gw_put1 F (so_58 hst) (by decide) rfl sg_lay_RX4 (j := 2) (by decide) (by decide) e14 tyX4_ok nmX4 rfl (tyX4_ok 2 (by decide)) rfl (.inr kw_206) dX11_hearBook_119 ?_
          exact gr_HV F hf (by decide) (by decide) dX11_hearBook_122
        · have hf := hf.2 c11
          refine gw_aload_n F 0 rfl rfl (by decide) dX11_hearBook_41 ?_
          refine gw_aload_n F 0 rfl rfl (by decide) dX11_hearBook_42 ?_
          refine gw_get7 F (so_0 hst) (by decide) rfl sg_lay_RX11 (j := 2) (by decide) (o1 := 4) (by first | rfl | omega) rfl (host := "") (.inl kw_328) dX11_hearBook_43 (fun h15 => ?_)
          refine gw_get4 F (so_4 hst) (by decide) rfl sg_lay_RX7 (j := 0) (by decide) rfl (.inr kw_234) dX11_hearBook_46 (fun h16 => ?_)
          refine gw_aload_n F 0 rfl rfl (by decide) dX11_hearBook_49 ?_
          refine gw_get7 F (so_0 hst) (by decide) rfl sg_lay_RX11 (j := 2) (by decide) (o1 := 4) (by first | rfl | omega) rfl (host := "") (.inl kw_328) dX11_hearBook_50 (fun h17 => ?_)
          refine gw_get7 F (so_4 hst) (by decide) rfl sg_lay_RX7 (j := 3) (by decide) (o1 := 20) (by first | rfl | omega) rfl (.inr kw_240) dX11_hearBook_53 (fun h18 => ?_)
          refine gw_get3 F (so_20 hst) (by decide) rfl sg_lay_RX2 (j := 0) (by decide) (o1 := 21) (by first | rfl | omega) rfl (.inr kw_225) dX11_hearBook_56 (fun h19 => ?_)
          refine gw_iload_n F 1 rfl rfl dX11_hearBook_59 ?_
          refine gk_PI F (gc_V F (S := [sg_r (s_27 4 0), sg_r 0]) (As := [sg_i x1_27]) (T := TX4) (N := 3) (CX4_at (so_21 hst) r1_27 hf) (so_21 hst) (by decide) rfl kw_546 kw_97 kw_543 kw_544 kw_545 hcX4_at ⟨by decide, by decide⟩ rfl rfl (Nat.le_of_ble_eq_true rfl) ⟨by decide, by decide⟩ dX11_hearBook_60) (fun u20 h21 hf => ?_)
          refine gw_aload_n F 0 rfl rfl (by decide) dX11_hearBook_63 ?_
          refine gw_get7 F (so_0 hst) (by decide) rfl sg_lay_RX11 (j := 2) (by decide) (o1 := 4) (by first | rfl | omega) rfl (host := "") (.inl kw_328) dX11_hearBook_64 (fun h22 => ?_)
          refine gw_get7 F (so_4 hst) (by decide) rfl sg_lay_RX7 (j := 3) (by decide) (o1 := 20) (by first | rfl | omega) rfl (.inr kw_240) dX11_hearBook_67 (fun h23 => ?_)
          refine gw_get3 F (so_20 hst) (by decide) rfl sg_lay_RX2 (j := 1) (by decide) (o1 := 23) (by first | rfl | omega) rfl (.inr kw_227) dX11_hearBook_70 (fun h24 => ?_)
          refine gw_iload_n F 1 rfl rfl dX11_hearBook_73 ?_
          refine gk_PI F (gc_V F (S := [sg_i u20, sg_r (s_27 4 0), sg_r 0]) (As := [sg_i x1_27]) (T := TX4) (N := 3) (CX4_at (so_23 hst) r1_27 hf) (so_23 hst) (by decide) rfl kw_546 kw_97 kw_543 kw_544 kw_545 hcX4_at ⟨by decide, by decide⟩ rfl rfl (Nat.le_of_ble_eq_true rfl) ⟨by decide, by decide⟩ dX11_hearBook_74) (fun u25 h26 hf => ?_)
          obtain ⟨g27, hf⟩ := hf
          have t28 := sg_nn h16 g27
          refine gk_HV F (gc_V F (S := []) (As := [sg_r (s_27 4 0), sg_i u20, sg_i u25]) (T := TX11) (N := 19) (CX11_listenTo hst t28 h21 h26 hf) (so_0 hst) (by decide) rfl kw_655 kw_90 kw_653 kw_654 kw_20 hcX11_listenTo ⟨by decide, by decide⟩ rfl rfl (Nat.le_of_ble_eq_true rfl) ⟨by decide, by decide⟩ dX11_hearBook_77) (fun s29 hf => ?_)
          refine gw_aload_n F 0 rfl rfl (by decide) dX11_hearBook_80 ?_
          refine gw_get7 F (so_0 hst) (by decide) rfl sg_lay_RX11 (j := 13) (by decide) (o1 := 58) (by first | rfl | omega) rfl (host := "") (.inl kw_339) dX11_hearBook_81 (fun h30 => ?_)
          refine gw_aload_n F 0 rfl rfl (by decide) dX11_hearBook_84 ?_
          refine gw_get7 F (so_0 hst) (by decide) rfl sg_lay_RX11 (j := 5) (by decide) (o1 := 32) (by first | rfl | omega) rfl (host := "") (.inl kw_331) dX11_hearBook_85 (fun h31 => ?_)
          refine gw_get0 F (so_32 hst) (by decide) rfl sg_lay_RX0 (j := 7) (by decide) rfl (.inr kw_266) dX11_hearBook_88 (fun h32 => ?_)
          refine gk_HV F (gc_V F (S := []) (As := [sg_i (s29 32 7)]) (T := TX4) (N := 3) (CX4_add (so_58 hst) h32 hf) (so_58 hst) (by decide) rfl kw_538 kw_97 kw_663 kw_536 kw_537 hcX4_add ⟨by decide, by decide⟩ rfl rfl (Nat.le_of_ble_eq_true rfl) ⟨by decide, by decide⟩ dX11_hearBook_91) (fun s33 hf => ?_)
          refine gw_aload_n F 0 rfl rfl (by decide) dX11_hearBook_94 ?_
          refine gw_get7 F (so_0 hst) (by decide) rfl sg_lay_RX11 (j := 14) (by decide) (o1 := 60) (by first | rfl | omega) rfl (host := "") (.inl kw_340) dX11_hearBook_95 (fun h34 => ?_)
          refine gw_aload_n F 0 rfl rfl (by decide) dX11_hearBook_98 ?_
          refine gw_get7 F (so_0 hst) (by decide) rfl sg_lay_RX11 (j := 5) (by decide) (o1 := 32) (by first | rfl | omega) rfl (host := "") (.inl kw_331) dX11_hearBook_99 (fun h35 => ?_)
          refine gw_get0 F (so_32 hst) (by decide) rfl sg_lay_RX0 (j := 8) (by decide) rfl (.inr kw_269) dX11_hearBook_102 (fun h36 => ?_)
          refine gk_HV F (gc_V F (S := []) (As := [sg_i (s33 32 8)]) (T := TX4) (N := 3) (CX4_add (so_60 hst) h36 hf) (so_60 hst) (by decide) rfl kw_538 kw_97 kw_663 kw_536 kw_537 hcX4_add ⟨by decide, by decide⟩ rfl rfl (Nat.le_of_ble_eq_true rfl) ⟨by decide, by decide⟩ dX11_hearBook_105) (fun s37 hf => ?_)
          refine gw_iinc F (z := (x1_27 + 1)) 1 rfl (by omega) (by decide) rfl dX11_hearBook_108 ?_
          refine gw_goto F (tgt := 27) dX11_hearBook_111 (by decide) ?_
          obtain ⟨g38, hf⟩ := hf
          refine gw_sub [1, 0] rfl ?_
          exact ih s37 (x1_27 + 1) g38 hf
    obtain ⟨n39, hf⟩ := hf
    refine gw_sub [1, 0] rfl ?_
    refine L27   n39 s7 0 (by decide) hf
  · have hf := hf.2 c3
    exact gr_HV F hf (by decide) (by decide) dX11_hearBook_10

theorem dX11_range_0 : decode cX11_range 0 = .ok (.aload_n 0, 1) := by decide +kernel
theorem dX11_range_1 : decode cX11_range 1 = .ok (.invokevirtual 251, 3) := by decide +kernel
theorem dX11_range_4 : decode cX11_range 4 = .ok (.iconst (-1), 1) := by decide +kernel
theorem dX11_range_5 : decode cX11_range 5 = .ok (.istore_n 2, 1) := by decide +kernel
theorem dX11_range_6 : decode cX11_range 6 = .ok (.iconst (-1), 1) := by decide +kernel
theorem dX11_range_7 : decode cX11_range 7 = .ok (.istore_n 3, 1) := by decide +kernel
theorem dX11_range_8 : decode cX11_range 8 = .ok (.iconst 0, 1) := by decide +kernel
theorem dX11_range_9 : decode cX11_range 9 = .ok (.istore 4, 2) := by decide +kernel
theorem dX11_range_11 : decode cX11_range 11 = .ok (.iload 4, 2) := by decide +kernel
theorem dX11_range_13 : decode cX11_range 13 = .ok (.aload_n 0, 1) := by decide +kernel
theorem dX11_range_14 : decode cX11_range 14 = .ok (.getfield 93, 3) := by decide +kernel
theorem dX11_range_17 : decode cX11_range 17 = .ok (.getfield 181, 3) := by decide +kernel
theorem dX11_range_20 : decode cX11_range 20 = .ok (.if_icmp .ge 75, 3) := by decide +kernel
theorem dX11_range_23 : decode cX11_range 23 = .ok (.aload_n 0, 1) := by decide +kernel
theorem dX11_range_24 : decode cX11_range 24 = .ok (.getfield 93, 3) := by decide +kernel
theorem dX11_range_27 : decode cX11_range 27 = .ok (.iload 4, 2) := by decide +kernel
theorem dX11_range_29 : decode cX11_range 29 = .ok (.invokevirtual 182, 3) := by decide +kernel
theorem dX11_range_32 : decode cX11_range 32 = .ok (.istore 5, 2) := by decide +kernel
theorem dX11_range_34 : decode cX11_range 34 = .ok (.iload 5, 2) := by decide +kernel
theorem dX11_range_36 : decode cX11_range 36 = .ok (.ifCond .le 53, 3) := by decide +kernel
theorem dX11_range_39 : decode cX11_range 39 = .ok (.iload_n 2, 1) := by decide +kernel
theorem dX11_range_40 : decode cX11_range 40 = .ok (.iconst (-1), 1) := by decide +kernel
theorem dX11_range_41 : decode cX11_range 41 = .ok (.if_icmp .eq 16, 3) := by decide +kernel
theorem dX11_range_44 : decode cX11_range 44 = .ok (.iload 5, 2) := by decide +kernel
theorem dX11_range_46 : decode cX11_range 46 = .ok (.aload_n 0, 1) := by decide +kernel
theorem dX11_range_47 : decode cX11_range 47 = .ok (.getfield 93, 3) := by decide +kernel
theorem dX11_range_50 : decode cX11_range 50 = .ok (.iload_n 2, 1) := by decide +kernel
theorem dX11_range_51 : decode cX11_range 51 = .ok (.invokevirtual 182, 3) := by decide +kernel
theorem dX11_range_54 : decode cX11_range 54 = .ok (.if_icmp .ge 8, 3) := by decide +kernel
theorem dX11_range_57 : decode cX11_range 57 = .ok (.iload 4, 2) := by decide +kernel
theorem dX11_range_59 : decode cX11_range 59 = .ok (.goto 4, 3) := by decide +kernel
theorem dX11_range_62 : decode cX11_range 62 = .ok (.iload_n 2, 1) := by decide +kernel
theorem dX11_range_63 : decode cX11_range 63 = .ok (.istore_n 2, 1) := by decide +kernel
theorem dX11_range_64 : decode cX11_range 64 = .ok (.iload_n 3, 1) := by decide +kernel
theorem dX11_range_65 : decode cX11_range 65 = .ok (.iconst (-1), 1) := by decide +kernel
theorem dX11_range_66 : decode cX11_range 66 = .ok (.if_icmp .eq 16, 3) := by decide +kernel
theorem dX11_range_69 : decode cX11_range 69 = .ok (.iload 5, 2) := by decide +kernel
theorem dX11_range_71 : decode cX11_range 71 = .ok (.aload_n 0, 1) := by decide +kernel
theorem dX11_range_72 : decode cX11_range 72 = .ok (.getfield 93, 3) := by decide +kernel
theorem dX11_range_75 : decode cX11_range 75 = .ok (.iload_n 3, 1) := by decide +kernel
theorem dX11_range_76 : decode cX11_range 76 = .ok (.invokevirtual 182, 3) := by decide +kernel
theorem dX11_range_79 : decode cX11_range 79 = .ok (.if_icmp .le 8, 3) := by decide +kernel
theorem dX11_range_82 : decode cX11_range 82 = .ok (.iload 4, 2) := by decide +kernel
theorem dX11_range_84 : decode cX11_range 84 = .ok (.goto 4, 3) := by decide +kernel
theorem dX11_range_87 : decode cX11_range 87 = .ok (.iload_n 3, 1) := by decide +kernel
theorem dX11_range_88 : decode cX11_range 88 = .ok (.istore_n 3, 1) := by decide +kernel
theorem dX11_range_89 : decode cX11_range 89 = .ok (.iinc 4 1, 3) := by decide +kernel
theorem dX11_range_92 : decode cX11_range 92 = .ok (.goto (-81), 3) := by decide +kernel
theorem dX11_range_95 : decode cX11_range 95 = .ok (.iload_n 1, 1) := by decide +kernel
theorem dX11_range_96 : decode cX11_range 96 = .ok (.tableswitch 54 0 3 #[32, 41, 50, 52], 32) := by decide +kernel
theorem dX11_range_128 : decode cX11_range 128 = .ok (.aload_n 0, 1) := by decide +kernel
theorem dX11_range_129 : decode cX11_range 129 = .ok (.getfield 93, 3) := by decide +kernel
theorem dX11_range_132 : decode cX11_range 132 = .ok (.iload_n 2, 1) := by decide +kernel
theorem dX11_range_133 : decode cX11_range 133 = .ok (.invokevirtual 182, 3) := by decide +kernel
theorem dX11_range_136 : decode cX11_range 136 = .ok (.ireturn, 1) := by decide +kernel
theorem dX11_range_137 : decode cX11_range 137 = .ok (.aload_n 0, 1) := by decide +kernel
theorem dX11_range_138 : decode cX11_range 138 = .ok (.getfield 93, 3) := by decide +kernel
theorem dX11_range_141 : decode cX11_range 141 = .ok (.iload_n 3, 1) := by decide +kernel
theorem dX11_range_142 : decode cX11_range 142 = .ok (.invokevirtual 182, 3) := by decide +kernel
theorem dX11_range_145 : decode cX11_range 145 = .ok (.ireturn, 1) := by decide +kernel
theorem dX11_range_146 : decode cX11_range 146 = .ok (.iload_n 2, 1) := by decide +kernel
theorem dX11_range_147 : decode cX11_range 147 = .ok (.ireturn, 1) := by decide +kernel
theorem dX11_range_148 : decode cX11_range 148 = .ok (.iload_n 3, 1) := by decide +kernel
theorem dX11_range_149 : decode cX11_range 149 = .ok (.ireturn, 1) := by decide +kernel
theorem dX11_range_150 : decode cX11_range 150 = .ok (.iconst (-1), 1) := by decide +kernel
theorem dX11_range_151 : decode cX11_range 151 = .ok (.ireturn, 1) := by decide +kernel
theorem hcX11_range : yX11_range.cls ≠ "java/lang/invoke/MethodHandle" ∧ yX11_range.cls ≠ "java/lang/invoke/VarHandle" ∧ (parseMethodDescriptor yX11_range.desc).map (fun d => d.parameters.length) = some 1 := ⟨by decide +kernel, by decide +kernel, by decide +kernel⟩
def fX11_range_j89 (x4_11 : Int) (k11 : Int → Int → Int → Prop) (x2_89 : Int) (x3_89 : Int) : Prop := sg_R (x4_11 + 1) ∧ k11 x2_89 x3_89 (x4_11 + 1)
def fX11_range_j88 (y0_63 : Int) (k89 : Int → Int → Prop) (y0_88 : Int) : Prop := k89 y0_63 y0_88
def fX11_range_j82 (x4_11 : Int) (k88 : Int → Prop)  : Prop := k88 x4_11
def fX11_range_j63 (La : sg_L) (s1 : sg_M) (x3_11 : Int) (x4_11 : Int) (u6 : Int) (k89 : Int → Int → Prop) (y0_63 : Int) : Prop := ((x3_11 = (-1) → (fX11_range_j82 x4_11 (fX11_range_j88 y0_63 k89))) ∧ (¬ (x3_11 = (-1)) → fX4_at La s1 58 x3_11 (fun u12 => ((u6 ≤ u12 → (fX11_range_j88 y0_63 k89) x3_11) ∧ (¬ (u6 ≤ u12) → (fX11_range_j82 x4_11 (fX11_range_j88 y0_63 k89)))))))
def fX11_range_j57 (x4_11 : Int) (k63 : Int → Prop)  : Prop := k63 x4_11
def fX11_range_L11 (La : sg_L) (s1 : sg_M) (k95 : Int → Int → Prop) : Nat → Int → Int → Int → Prop
  | 0, _, _, _ => False
  | n_11 + 1, x2_11, x3_11, x4_11 => (((s1 58 1) ≤ x4_11 → k95 x2_11 x3_11) ∧ (¬ ((s1 58 1) ≤ x4_11) → fX4_at La s1 58 x4_11 (fun u6 => ((u6 ≤ 0 → (fX11_range_j89 x4_11 (fX11_range_L11 La s1 k95 n_11)) x2_11 x3_11) ∧ (¬ (u6 ≤ 0) → ((x2_11 = (-1) → (fX11_range_j57 x4_11 (fX11_range_j63 La s1 x3_11 x4_11 u6 (fX11_range_j89 x4_11 (fX11_range_L11 La s1 k95 n_11))))) ∧ (¬ (x2_11 = (-1)) → fX4_at La s1 58 x2_11 (fun u17 => ((u17 ≤ u6 → (fX11_range_j63 La s1 x3_11 x4_11 u6 (fX11_range_j89 x4_11 (fX11_range_L11 La s1 k95 n_11))) x2_11) ∧ (¬ (u17 ≤ u6) → (fX11_range_j57 x4_11 (fX11_range_j63 La s1 x3_11 x4_11 u6 (fX11_range_j89 x4_11 (fX11_range_L11 La s1 k95 n_11))))))))))))))
def fX11_range (La : sg_L) (s0 : sg_M) (x1 : Int) (Q : Int → sg_M → Prop) : Prop := fX11_hearBook La s0 (fun s1 => (∃ n20 : Nat, fX11_range_L11 La s1 (fun x2_95e11 x3_95e11 => ((x1 < 0 ∨ 3 < x1 → Q (-1) s1) ∧ (x1 = 0 → fX4_at La s1 58 x2_95e11 (fun u23 => Q u23 s1)) ∧ (x1 = 1 → fX4_at La s1 58 x3_95e11 (fun u26 => Q u26 s1)) ∧ (x1 = 2 → Q x2_95e11 s1) ∧ (x1 = 3 → Q x3_95e11 s1))) n20 (-1) (-1) 0))
set_option maxHeartbeats 4000000 in
set_option maxRecDepth 100000 in
theorem CX11_range {l : Launch} {G : sg_G} {La : sg_L} {s0 : sg_M} (hst : sg_St La) {x1 : Int} (r1 : sg_R x1) {Q : Int → sg_M → Prop} (hf : fX11_range La s0 x1 Q) : sg_C l G yX11_range cX11_range 6 (some .int) 7 0 0 La s0 [sg_r 0, sg_i x1] (sg_HI La Q) := by
  refine sg_body (by decide +kernel) (Nat.le_of_ble_eq_true rfl) ?_
  intro p e s m args below meth c F hnm
  unfold fX11_range at hf
  show sg_W p l e (sg_rm 7 0 0) s m args below meth c (MQ below (sg_Q (some .int) G La s.heap.size (sg_HI La Q)) args s 0 0 (sg_A La s.heap.size)) 6 G (sg_A La s.heap.size) La s0 0 0 0 [(0, sg_r 0), (1, sg_i x1)] []
  refine gw_aload_n F 0 rfl rfl (by decide) dX11_range_0 ?_
  refine gk_HV F (gc_V F (S := []) (As := []) (T := TX11) (N := 19) (CX11_hearBook hst hf) (so_0 hst) (by decide) rfl kw_651 kw_90 kw_649 kw_650 kw_19 hcX11_hearBook ⟨by decide, by decide⟩ rfl rfl (Nat.le_of_ble_eq_true rfl) ⟨by decide, by decide⟩ dX11_range_1) (fun s1 hf => ?_)
  refine gw_iconst F dX11_range_4 ?_
  refine gw_istore_n F rfl (by decide) rfl dX11_range_5 ?_
  refine gw_iconst F dX11_range_6 ?_
  refine gw_istore_n F rfl (by decide) rfl dX11_range_7 ?_
  refine gw_iconst F dX11_range_8 ?_
  refine gw_istore F (by decide) rfl dX11_range_9 ?_
  have L11 : ∀ (k95 : Int → Int → Prop) (hk95 : ∀ (x2_95e11 : Int) (x3_95e11 : Int), sg_R x2_95e11 → sg_R x3_95e11 → k95 x2_95e11 x3_95e11 → sg_W p l e (sg_rm 7 0 0) s m args below meth c (MQ below (sg_Q (some .int) G La s.heap.size (sg_HI La Q)) args s 0 0 (sg_A La s.heap.size)) 6 G (sg_A La s.heap.size) La s1 0 0 95 [(0, sg_r 0), (1, sg_i x1), (2, sg_i x2_95e11), (3, sg_i x3_95e11)] []), ∀ n_11 : Nat, ∀ (x2_11 : Int) (x3_11 : Int) (x4_11 : Int), sg_R x2_11 → sg_R x3_11 → sg_R x4_11 → fX11_range_L11 La s1 k95 n_11 x2_11 x3_11 x4_11 → sg_W p l e (sg_rm 7 0 0) s m args below meth c (MQ below (sg_Q (some .int) G La s.heap.size (sg_HI La Q)) args s 0 0 (sg_A La s.heap.size)) 6 G (sg_A La s.heap.size) La s1 0 0 11 [(0, sg_r 0), (1, sg_i x1), (2, sg_i x2_11), (3, sg_i x3_11), (4, sg_i x4_11)] [] := by
    intro k95 hk95 n_11
    induction n_11 with
    | zero => intro x2_11 x3_11 x4_11 r2_11 r3_11 r4_11 hf; exact hf.elim
    | succ n_11 ih =>
      intro x2_11 x3_11 x4_11 r2_11 r3_11 r4_11 hf
      unfold fX11_range_L11 at hf
      refine gw_iload F 4 rfl dX11_range_11 ?_
      refine gw_aload_n F 0 rfl rfl (by decide) dX11_range_13 ?_
      refine gw_get7 F (so_0 hst) (by decide) rfl sg_lay_RX11 (j := 13) (by decide) (o1 := 58) (by first | rfl | omega) rfl (host := "") (.inl kw_339) dX11_range_14 (fun h2 => ?_)
      refine gw_get0 F (so_58 hst) (by decide) rfl sg_lay_RX4 (j := 1) (by decide) rfl (.inr kw_204) dX11_range_17 (fun h3 => ?_)
      refine gw_icmp_ge F (tgt := 95) dX11_range_20 (by decide) r4_11 h3 (fun c4 => ?_) (fun c4 => ?_)
      · have hf := hf.1 c4
        refine gw_sub [0, 1, 2, 3] rfl ?_
        exact hk95 x2_11 x3_11 r2_11 r3_11 hf
      · have hf := hf.2 c4
        refine gw_aload_n F 0 rfl rfl (by decide) dX11_range_23 ?_
        refine gw_get7 F (so_0 hst) (by decide) rfl sg_lay_RX11 (j := 13) (by decide) (o1 := 58) (by first | rfl | omega) rfl (host := "") (.inl kw_339) dX11_range_24 (fun h5 => ?_)
        refine gw_iload F 4 rfl dX11_range_27 ?_
        refine gk_PI F (gc_V F (S := []) (As := [sg_i x4_11]) (T := TX4) (N := 3) (CX4_at (so_58 hst) r4_11 hf) (so_58 hst) (by decide) rfl kw_546 kw_97 kw_543 kw_544 kw_545 hcX4_at ⟨by decide, by decide⟩ rfl rfl (Nat.le_of_ble_eq_true rfl) ⟨by decide, by decide⟩ dX11_range_29) (fun u6 h7 hf => ?_)
        refine gw_istore F (by decide) rfl dX11_range_32 ?_
        refine gw_iload F 0 rfl dX11_range_34 ?_
        have J89 : ∀ (x2_89 : Int) (x3_89 : Int), sg_R x2_89 → sg_R x3_89 → (fX11_range_j89 x4_11 (fX11_range_L11 La s1 k95 n_11)) x2_89 x3_89 → sg_W p l e (sg_rm 7 0 0) s m args below meth c (MQ below (sg_Q (some .int) G La s.heap.size (sg_HI La Q)) args s 0 0 (sg_A La s.heap.size)) 6 G (sg_A La s.heap.size) La s1 0 0 89 [(0, sg_r 0), (1, sg_i x1), (2, sg_i x2_89), (3, sg_i x3_89), (4, sg_i x4_11)] [] := by
          intro x2_89 x3_89 r2_89 r3_89 hf
          unfold fX11_range_j89 at hf
          refine gw_iinc F (z := (x4_11 + 1)) 4 rfl (by omega) (by decide) rfl dX11_range_89 ?_
          refine gw_goto F (tgt := 11) dX11_range_92 (by decide) ?_
          obtain ⟨g8, hf⟩ := hf
          refine gw_sub [1, 2, 3, 4, 0] rfl ?_
          exact ih x2_89 x3_89 (x4_11 + 1) r2_89 r3_89 g8 hf
        refine gw_if_le F (tgt := 89) dX11_range_36 (by decide) h7 (fun c9 => ?_) (fun c9 => ?_)
        · have hf := hf.1 c9
          refine gw_sub [1, 2, 3, 4, 5] rfl ?_
          exact J89 x2_11 x3_11 r2_11 r3_11 hf
        · have hf := hf.2 c9
          refine gw_iload_n F 3 rfl rfl dX11_range_39 ?_
          refine gw_iconst F dX11_range_40 ?_
          have J63 : ∀ (y0_63 : Int), sg_R y0_63 → (fX11_range_j63 La s1 x3_11 x4_11 u6 (fX11_range_j89 x4_11 (fX11_range_L11 La s1 k95 n_11))) y0_63 → sg_W p l e (sg_rm 7 0 0) s m args below meth c (MQ below (sg_Q (some .int) G La s.heap.size (sg_HI La Q)) args s 0 0 (sg_A La s.heap.size)) 6 G (sg_A La s.heap.size) La s1 0 0 63 [(0, sg_r 0), (1, sg_i x1), (3, sg_i x3_11), (4, sg_i x4_11), (5, sg_i u6)] [sg_i y0_63] := by
            intro y0_63 ry0_63 hf
            unfold fX11_range_j63 at hf
            refine gw_istore_n F rfl (by decide) rfl dX11_range_63 ?_
            refine gw_iload_n F 3 rfl rfl dX11_range_64 ?_
            refine gw_iconst F dX11_range_65 ?_
            have J88 : ∀ (y0_88 : Int), sg_R y0_88 → (fX11_range_j88 y0_63 (fX11_range_j89 x4_11 (fX11_range_L11 La s1 k95 n_11))) y0_88 → sg_W p l e (sg_rm 7 0 0) s m args below meth c (MQ below (sg_Q (some .int) G La s.heap.size (sg_HI La Q)) args s 0 0 (sg_A La s.heap.size)) 6 G (sg_A La s.heap.size) La s1 0 0 88 [(0, sg_r 0), (1, sg_i x1), (2, sg_i y0_63), (4, sg_i x4_11)] [sg_i y0_88] := by
              intro y0_88 ry0_88 hf
              unfold fX11_range_j88 at hf
              refine gw_istore_n F rfl (by decide) rfl dX11_range_88 ?_
              refine gw_sub [1, 2, 3, 0, 4] rfl ?_
              exact J89 y0_63 y0_88 ry0_63 ry0_88 hf
            have J82 : (fX11_range_j82 x4_11 (fX11_range_j88 y0_63 (fX11_range_j89 x4_11 (fX11_range_L11 La s1 k95 n_11)))) → sg_W p l e (sg_rm 7 0 0) s m args below meth c (MQ below (sg_Q (some .int) G La s.heap.size (sg_HI La Q)) args s 0 0 (sg_A La s.heap.size)) 6 G (sg_A La s.heap.size) La s1 0 0 82 [(0, sg_r 0), (1, sg_i x1), (2, sg_i y0_63), (4, sg_i x4_11)] [] := by
              intro hf
              unfold fX11_range_j82 at hf
              refine gw_iload F 3 rfl dX11_range_82 ?_
              refine gw_goto F (tgt := 88) dX11_range_84 (by decide) ?_
              refine gw_sub [0, 1, 2, 3] rfl ?_
              exact J88 x4_11 r4_11 hf
            refine gw_icmp_eq F (tgt := 82) dX11_range_66 (by decide) r3_11 (by decide) (fun c10 => ?_) (fun c10 => ?_)
            · have hf := hf.1 c10
              refine gw_sub [1, 2, 0, 4] rfl ?_
              exact J82  hf
            · have hf := hf.2 c10
              refine gw_iload F 5 rfl dX11_range_69 ?_
              refine gw_aload_n F 1 rfl rfl (by decide) dX11_range_71 ?_
              refine gw_get7 F (so_0 hst) (by decide) rfl sg_lay_RX11 (j := 13) (by decide) (o1 := 58) (by first | rfl | omega) rfl (host := "") (.inl kw_339) dX11_range_72 (fun h11 => ?_)
              refine gw_iload_n F 3 rfl rfl dX11_range_75 ?_
              refine gk_PI F (gc_V F (S := [sg_i u6]) (As := [sg_i x3_11]) (T := TX4) (N := 3) (CX4_at (so_58 hst) r3_11 hf) (so_58 hst) (by decide) rfl kw_546 kw_97 kw_543 kw_544 kw_545 hcX4_at ⟨by decide, by decide⟩ rfl rfl (Nat.le_of_ble_eq_true rfl) ⟨by decide, by decide⟩ dX11_range_76) (fun u12 h13 hf => ?_)
              refine gw_icmp_le F (tgt := 87) dX11_range_79 (by decide) h7 h13 (fun c14 => ?_) (fun c14 => ?_)
              · have hf := hf.1 c14
                refine gw_iload_n F 3 rfl rfl dX11_range_87 ?_
                refine gw_sub [1, 2, 0, 4] rfl ?_
                exact J88 x3_11 r3_11 hf
              · have hf := hf.2 c14
                refine gw_sub [1, 2, 0, 4] rfl ?_
                exact J82  hf
          have J57 : (fX11_range_j57 x4_11 (fX11_range_j63 La s1 x3_11 x4_11 u6 (fX11_range_j89 x4_11 (fX11_range_L11 La s1 k95 n_11)))) → sg_W p l e (sg_rm 7 0 0) s m args below meth c (MQ below (sg_Q (some .int) G La s.heap.size (sg_HI La Q)) args s 0 0 (sg_A La s.heap.size)) 6 G (sg_A La s.heap.size) La s1 0 0 57 [(0, sg_r 0), (1, sg_i x1), (3, sg_i x3_11), (4, sg_i x4_11), (5, sg_i u6)] [] := by
            intro hf
            unfold fX11_range_j57 at hf
            refine gw_iload F 3 rfl dX11_range_57 ?_
            refine gw_goto F (tgt := 63) dX11_range_59 (by decide) ?_
            refine gw_sub [0, 1, 2, 3, 4] rfl ?_
            exact J63 x4_11 r4_11 hf
          refine gw_icmp_eq F (tgt := 57) dX11_range_41 (by decide) r2_11 (by decide) (fun c15 => ?_) (fun c15 => ?_)
          · have hf := hf.1 c15
            refine gw_sub [1, 2, 4, 5, 0] rfl ?_
            exact J57  hf
          · have hf := hf.2 c15
            refine gw_iload F 0 rfl dX11_range_44 ?_
            refine gw_aload_n F 1 rfl rfl (by decide) dX11_range_46 ?_
            refine gw_get7 F (so_0 hst) (by decide) rfl sg_lay_RX11 (j := 13) (by decide) (o1 := 58) (by first | rfl | omega) rfl (host := "") (.inl kw_339) dX11_range_47 (fun h16 => ?_)
            refine gw_iload_n F 3 rfl rfl dX11_range_50 ?_
            refine gk_PI F (gc_V F (S := [sg_i u6]) (As := [sg_i x2_11]) (T := TX4) (N := 3) (CX4_at (so_58 hst) r2_11 hf) (so_58 hst) (by decide) rfl kw_546 kw_97 kw_543 kw_544 kw_545 hcX4_at ⟨by decide, by decide⟩ rfl rfl (Nat.le_of_ble_eq_true rfl) ⟨by decide, by decide⟩ dX11_range_51) (fun u17 h18 hf => ?_)
            refine gw_icmp_ge F (tgt := 62) dX11_range_54 (by decide) h7 h18 (fun c19 => ?_) (fun c19 => ?_)
            · have hf := hf.1 c19
              refine gw_iload_n F 3 rfl rfl dX11_range_62 ?_
              refine gw_sub [1, 2, 4, 5, 0] rfl ?_
              exact J63 x2_11 r2_11 hf
            · have hf := hf.2 c19
              refine gw_sub [1, 2, 4, 5, 0] rfl ?_
              exact J57  hf
  obtain ⟨n20, hf⟩ := hf
  refine gw_sub [3, 4, 2, 1, 0] rfl ?_
  refine L11 _ (fun x2_95e11 x3_95e11 r2_95e11 r3_95e11 hf => ?_) n20 (-1) (-1) 0 (by decide) (by decide) (by decide) hf
  refine gw_iload_n F 1 rfl rfl dX11_range_95 ?_
  refine gw_switch F dX11_range_96 r1 (td := 150) (by decide) (fun c21 => ?_) (fun i hi1 hi2 => ?_)
  · have hf := hf.1 c21
    refine gw_iconst F dX11_range_150 ?_
    exact gr_HI F (by decide) hf (by decide) (by decide) dX11_range_151
  · rcases (show i = 0 ∨ i = 1 ∨ i = 2 ∨ i = 3 by omega) with rfl | rfl | rfl | rfl
    · have hf := hf.2.1 (by omega)
      refine ⟨32, 128, rfl, by decide, ?_⟩
      refine gw_aload_n F 0 rfl rfl (by decide) dX11_range_128 ?_
      refine gw_get7 F (so_0 hst) (by decide) rfl sg_lay_RX11 (j := 13) (by decide) (o1 := 58) (by first | rfl | omega) rfl (host := "") (.inl kw_339) dX11_range_129 (fun h22 => ?_)
      refine gw_iload_n F 2 rfl rfl dX11_range_132 ?_
      refine gk_PI F (gc_V F (S := []) (As := [sg_i x2_95e11]) (T := TX4) (N := 3) (CX4_at (so_58 hst) r2_95e11 hf) (so_58 hst) (by decide) rfl kw_546 kw_97 kw_543 kw_544 kw_545 hcX4_at ⟨by decide, by decide⟩ rfl rfl (Nat.le_of_ble_eq_true rfl) ⟨by decide, by decide⟩ dX11_range_133) (fun u23 h24 hf => ?_)
      exact gr_HI F h24 hf (by decide) (by decide) dX11_range_136
    · have hf := hf.2.2.1 (by omega)
      refine ⟨41, 137, rfl, by decide, ?_⟩
      refine gw_aload_n F 0 rfl rfl (by decide) dX11_range_137 ?_
      refine gw_get7 F (so_0 hst) (by decide) rfl sg_lay_RX11 (j := 13) (by decide) (o1 := 58) (by first | rfl | omega) rfl (host := "") (.inl kw_339) dX11_range_138 (fun h25 => ?_)
      refine gw_iload_n F 3 rfl rfl dX11_range_141 ?_
      refine gk_PI F (gc_V F (S := []) (As := [sg_i x3_95e11]) (T := TX4) (N := 3) (CX4_at (so_58 hst) r3_95e11 hf) (so_58 hst) (by decide) rfl kw_546 kw_97 kw_543 kw_544 kw_545 hcX4_at ⟨by decide, by decide⟩ rfl rfl (Nat.le_of_ble_eq_true rfl) ⟨by decide, by decide⟩ dX11_range_142) (fun u26 h27 hf => ?_)
      exact gr_HI F h27 hf (by decide) (by decide) dX11_range_145
    · have hf := hf.2.2.2.1 (by omega)
      refine ⟨50, 146, rfl, by decide, ?_⟩
      refine gw_iload_n F 2 rfl rfl dX11_range_146 ?_
      exact gr_HI F r2_95e11 hf (by decide) (by decide) dX11_range_147
    · have hf := hf.2.2.2.2 (by omega)
      refine ⟨52, 148, rfl, by decide, ?_⟩
      refine gw_iload_n F 3 rfl rfl dX11_range_148 ?_
      exact gr_HI F r3_95e11 hf (by decide) (by decide) dX11_range_149
