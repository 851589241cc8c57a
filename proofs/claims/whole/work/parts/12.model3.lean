theorem dX12_forge_0 : decode cX12_forge 0 = .ok (.aload_n 0, 1) := by decide +kernel
theorem dX12_forge_1 : decode cX12_forge 1 = .ok (.iconst 0, 1) := by decide +kernel
theorem dX12_forge_2 : decode cX12_forge 2 = .ok (.putfield 84, 3) := by decide +kernel
theorem dX12_forge_5 : decode cX12_forge 5 = .ok (.aload_n 0, 1) := by decide +kernel
theorem dX12_forge_6 : decode cX12_forge 6 = .ok (.invokevirtual 175, 3) := by decide +kernel
theorem dX12_forge_9 : decode cX12_forge 9 = .ok (.iload_n 1, 1) := by decide +kernel
theorem dX12_forge_10 : decode cX12_forge 10 = .ok (.iconst 1, 1) := by decide +kernel
theorem dX12_forge_11 : decode cX12_forge 11 = .ok (.bipush 20, 2) := by decide +kernel
theorem dX12_forge_13 : decode cX12_forge 13 = .ok (.invokestatic 155, 3) := by decide +kernel
theorem dX12_forge_16 : decode cX12_forge 16 = .ok (.ifCond .eq 13, 3) := by decide +kernel
theorem dX12_forge_19 : decode cX12_forge 19 = .ok (.iload_n 2, 1) := by decide +kernel
theorem dX12_forge_20 : decode cX12_forge 20 = .ok (.iconst 1, 1) := by decide +kernel
theorem dX12_forge_21 : decode cX12_forge 21 = .ok (.bipush 20, 2) := by decide +kernel
theorem dX12_forge_23 : decode cX12_forge 23 = .ok (.invokestatic 155, 3) := by decide +kernel
theorem dX12_forge_26 : decode cX12_forge 26 = .ok (.ifCond .ne 5, 3) := by decide +kernel
theorem dX12_forge_29 : decode cX12_forge 29 = .ok (.iconst 0, 1) := by decide +kernel
theorem dX12_forge_30 : decode cX12_forge 30 = .ok (.ireturn, 1) := by decide +kernel
theorem dX12_forge_31 : decode cX12_forge 31 = .ok (.iconst 0, 1) := by decide +kernel
theorem dX12_forge_32 : decode cX12_forge 32 = .ok (.istore_n 3, 1) := by decide +kernel
theorem dX12_forge_33 : decode cX12_forge 33 = .ok (.iload_n 3, 1) := by decide +kernel
theorem dX12_forge_34 : decode cX12_forge 34 = .ok (.aload_n 0, 1) := by decide +kernel
theorem dX12_forge_35 : decode cX12_forge 35 = .ok (.invokevirtual 202, 3) := by decide +kernel
theorem dX12_forge_38 : decode cX12_forge 38 = .ok (.if_icmp .ge 36, 3) := by decide +kernel
theorem dX12_forge_41 : decode cX12_forge 41 = .ok (.aload_n 0, 1) := by decide +kernel
theorem dX12_forge_42 : decode cX12_forge 42 = .ok (.getfield 13, 3) := by decide +kernel
theorem dX12_forge_45 : decode cX12_forge 45 = .ok (.bipush 10, 2) := by decide +kernel
theorem dX12_forge_47 : decode cX12_forge 47 = .ok (.iconst 4, 1) := by decide +kernel
theorem dX12_forge_48 : decode cX12_forge 48 = .ok (.iload_n 3, 1) := by decide +kernel
theorem dX12_forge_49 : decode cX12_forge 49 = .ok (.imul, 1) := by decide +kernel
theorem dX12_forge_50 : decode cX12_forge 50 = .ok (.iadd, 1) := by decide +kernel
theorem dX12_forge_51 : decode cX12_forge 51 = .ok (.iconst 1, 1) := by decide +kernel
theorem dX12_forge_52 : decode cX12_forge 52 = .ok (.iadd, 1) := by decide +kernel
theorem dX12_forge_53 : decode cX12_forge 53 = .ok (.iload_n 1, 1) := by decide +kernel
theorem dX12_forge_54 : decode cX12_forge 54 = .ok (.iload_n 2, 1) := by decide +kernel
theorem dX12_forge_55 : decode cX12_forge 55 = .ok (.iload_n 1, 1) := by decide +kernel
theorem dX12_forge_56 : decode cX12_forge 56 = .ok (.isub, 1) := by decide +kernel
theorem dX12_forge_57 : decode cX12_forge 57 = .ok (.iload_n 3, 1) := by decide +kernel
theorem dX12_forge_58 : decode cX12_forge 58 = .ok (.imul, 1) := by decide +kernel
theorem dX12_forge_59 : decode cX12_forge 59 = .ok (.aload_n 0, 1) := by decide +kernel
theorem dX12_forge_60 : decode cX12_forge 60 = .ok (.invokevirtual 202, 3) := by decide +kernel
theorem dX12_forge_63 : decode cX12_forge 63 = .ok (.iconst 1, 1) := by decide +kernel
theorem dX12_forge_64 : decode cX12_forge 64 = .ok (.isub, 1) := by decide +kernel
theorem dX12_forge_65 : decode cX12_forge 65 = .ok (.idiv, 1) := by decide +kernel
theorem dX12_forge_66 : decode cX12_forge 66 = .ok (.iadd, 1) := by decide +kernel
theorem dX12_forge_67 : decode cX12_forge 67 = .ok (.iastore, 1) := by decide +kernel
theorem dX12_forge_68 : decode cX12_forge 68 = .ok (.iinc 3 1, 3) := by decide +kernel
theorem dX12_forge_71 : decode cX12_forge 71 = .ok (.goto (-38), 3) := by decide +kernel
theorem dX12_forge_74 : decode cX12_forge 74 = .ok (.iconst 1, 1) := by decide +kernel
theorem dX12_forge_75 : decode cX12_forge 75 = .ok (.ireturn, 1) := by decide +kernel
theorem hcX12_forge : yX12_forge.cls ≠ "java/lang/invoke/MethodHandle" ∧ yX12_forge.cls ≠ "java/lang/invoke/VarHandle" ∧ (parseMethodDescriptor yX12_forge.desc).map (fun d => d.parameters.length) = some 2 := ⟨by decide +kernel, by decide +kernel, by decide +kernel⟩
def fX12_forge_L33 (x1 : Int) (x2 : Int) (Q : Int → sg_M → Prop) : Nat → sg_M → Int → Prop
  | 0, _, _ => False
  | n_33 + 1, s_33, x3_33 => fX12_pieces s_33 (fun u10 => ((u10 ≤ x3_33 → Q 1 s_33) ∧ (¬ (u10 ≤ x3_33) → fX12_pieces s_33 (fun u14 => sg_R ((x2 - x1) * x3_33) ∧ sg_R (u14 - 1) ∧ ((u14 - 1) ≠ 0) ∧ (0 ≤ ((10 + (4 * x3_33)) + 1) ∧ ((10 + (4 * x3_33)) + 1) < 2040) ∧ sg_R (x1 + (Int.tdiv ((x2 - x1) * x3_33) (u14 - 1))) ∧ ∀ v21 : Int, v21 = (x1 + (Int.tdiv ((x2 - x1) * x3_33) (u14 - 1))) → ∀ s23 : sg_M, s23 = sg_up s_33 66 ((10 + (4 * x3_33)) + 1) v21 → sg_R (x3_33 + 1) ∧ (fX12_forge_L33 x1 x2 Q n_33) s23 (x3_33 + 1)))))
def fX12_forge (s0 : sg_M) (x1 : Int) (x2 : Int) (Q : Int → sg_M → Prop) : Prop := ∀ s1 : sg_M, s1 = sg_up s0 64 0 0 → fX12_lay s1 (fun s3 => fX12_isIn x1 1 20 (fun u4 => ((u4 = 0 → Q 0 s3) ∧ (¬ (u4 = 0) → fX12_isIn x2 1 20 (fun u7 => ((u7 ≠ 0 → (∃ n26 : Nat, fX12_forge_L33 x1 x2 Q n26 s3 0)) ∧ (u7 = 0 → Q 0 s3)))))))
set_option maxHeartbeats 4000000 in
set_option maxRecDepth 100000 in
theorem CX12_forge {l : Launch} {G : sg_G} {La : sg_L} {s0 : sg_M} (hst : sg_St La) {x1 : Int} (r1 : sg_R x1) {x2 : Int} (r2 : sg_R x2) {Q : Int → sg_M → Prop} (hf : fX12_forge s0 x1 x2 Q) : sg_C l G yX12_forge cX12_forge 4 (some .boolean) 2 0 0 La s0 [sg_r 64, sg_i x1, sg_i x2] (sg_HZ La Q) := by
  refine sg_body (by decide +kernel) (Nat.le_of_ble_eq_true rfl) ?_
  intro p e s m args below meth c F hnm
  unfold fX12_forge at hf
  show sg_W p l e (sg_rm 2 0 0) s m args below meth c (MQ below (sg_Q (some .boolean) G La s.heap.size (sg_HZ La Q)) args s 0 0 (sg_A La s.heap.size)) 4 G (sg_A La s.heap.size) La s0 0 0 0 [(0, sg_r 64), (1, sg_i x1), (2, sg_i x2)] []
  refine gw_aload_n F 0 rfl rfl (by decide) dX12_forge_0 ?_
  refine gw_iconst F dX12_forge_1 ?_
  obtain ⟨s1, e2⟩ : ∃ z : sg_M, z = sg_up s0 64 0 0 := ⟨_, rfl⟩
  have hf := hf s1 e2
  refine gw_put0 F (so_64 hst) (by decide) rfl sg_lay_RX12 (j := 0) (by decide) (by decide) e2 tyX12_ok nmX12 rfl (tyX12_ok 0 (by decide)) rfl (host := "") (.inl kw_956) dX12_forge_2 ?_
  refine gw_aload_n F 0 rfl rfl (by decide) dX12_forge_5 ?_
  refine gk_HV F (gc_V F (S := []) (As := []) (T := TX12) (N := 62) (CX12_lay hst hf) (so_64 hst) (by decide) rfl kw_1043 kw_103 kw_1041 kw_1042 kw_41 hcX12_lay ⟨by decide, by decide⟩ rfl rfl (Nat.le_of_ble_eq_true rfl) ⟨by decide, by decide⟩ dX12_forge_6) (fun s3 hf => ?_)
  refine gw_iload_n F 1 rfl rfl dX12_forge_9 ?_
  refine gw_iconst F dX12_forge_10 ?_
  refine gw_bipush F rfl dX12_forge_11 ?_
  refine gk_PZ F (gc_S F (S := []) (As := [sg_i x1, sg_i 1, sg_i 20]) (CX12_isIn r1 (by decide) (by decide) hf) kw_1084 kw_103 kw_1082 kw_1083 hcX12_isIn ⟨by decide, by decide⟩ rfl rfl (Nat.le_of_ble_eq_true rfl) ⟨by decide, by decide⟩ dX12_forge_13) (fun u4 h5 hf => ?_)
  refine gw_if_eq F (tgt := 29) dX12_forge_16 (by decide) (sg_B_R h5) (fun c6 => ?_) (fun c6 => ?_)
  · have hf := hf.1 c6
    refine gw_iconst F dX12_forge_29 ?_
    exact gr_HZ F (by decide) hf (by decide) (by decide) dX12_forge_30
  · have hf := hf.2 c6
    refine gw_iload_n F 2 rfl rfl dX12_forge_19 ?_
    refine gw_iconst F dX12_forge_20 ?_
    refine gw_bipush F rfl dX12_forge_21 ?_
    refine gk_PZ F (gc_S F (S := []) (As := [sg_i x2, sg_i 1, sg_i 20]) (CX12_isIn r2 (by decide) (by decide) hf) kw_1084 kw_103 kw_1082 kw_1083 hcX12_isIn ⟨by decide, by decide⟩ rfl rfl (Nat.le_of_ble_eq_true rfl) ⟨by decide, by decide⟩ dX12_forge_23) (fun u7 h8 hf => ?_)
    refine gw_if_ne F (tgt := 31) dX12_forge_26 (by decide) (sg_B_R h8) (fun c9 => ?_) (fun c9 => ?_)
    · have hf := hf.1 c9
      refine gw_iconst F dX12_forge_31 ?_
      refine gw_istore_n F rfl (by decide) rfl dX12_forge_32 ?_
      have L33 : ∀ n_33 : Nat, ∀ (s_33 : sg_M) (x3_33 : Int), sg_R x3_33 → fX12_forge_L33 x1 x2 Q n_33 s_33 x3_33 → sg_W p l e (sg_rm 2 0 0) s m args below meth c (MQ below (sg_Q (some .boolean) G La s.heap.size (sg_HZ La Q)) args s 0 0 (sg_A La s.heap.size)) 4 G (sg_A La s.heap.size) La s_33 0 0 33 [(0, sg_r 64), (1, sg_i x1), (2, sg_i x2), (3, sg_i x3_33)] [] := by
        intro n_33
        induction n_33 with
        | zero => intro s_33 x3_33 r3_33 hf; exact hf.elim
        | succ n_33 ih =>
          intro s_33 x3_33 r3_33 hf
          unfold fX12_forge_L33 at hf
          refine gw_iload_n F 3 rfl rfl dX12_forge_33 ?_
          refine gw_aload_n F 0 rfl rfl (by decide) dX12_forge_34 ?_
          refine gk_PI F (gc_V F (S := [sg_i x3_33]) (As := []) (T := TX12) (N := 62) (CX12_pieces hst hf) (so_64 hst) (by decide) rfl kw_1104 kw_103 kw_1102 kw_1103 kw_52 hcX12_pieces ⟨by decide, by decide⟩ rfl rfl (Nat.le_of_ble_eq_true rfl) ⟨by decide, by decide⟩ dX12_forge_35) (fun u10 h11 hf => ?_)
          refine gw_icmp_ge F (tgt := 74) dX12_forge_38 (by decide) r3_33 h11 (fun c12 => ?_) (fun c12 => ?_)
          · have hf := hf.1 c12
            refine gw_iconst F dX12_forge_74 ?_
            exact gr_HZ F (by decide) hf (by decide) (by decide) dX12_forge_75
          · have hf := hf.2 c12
            refine gw_aload_n F 0 rfl rfl (by decide) dX12_forge_41 ?_
            refine gw_get7 F (so_64 hst) (by decide) rfl sg_lay_RX12 (j := 14) (by decide) (o1 := 66) (by first | rfl | omega) rfl (host := "") (.inl kw_970) dX12_forge_42 (fun h13 => ?_)
            refine gw_bipush F rfl dX12_forge_45 ?_
            refine gw_iconst F dX12_forge_47 ?_
            refine gw_iload_n F 3 rfl rfl dX12_forge_48 ?_
            refine gw_imul F rfl dX12_forge_49 ?_
            refine gw_iadd F rfl dX12_forge_50 ?_
            refine gw_iconst F dX12_forge_51 ?_
            refine gw_iadd F rfl dX12_forge_52 ?_
            refine gw_iload_n F 1 rfl rfl dX12_forge_53 ?_
            refine gw_iload_n F 2 rfl rfl dX12_forge_54 ?_
            refine gw_iload_n F 1 rfl rfl dX12_forge_55 ?_
            refine gw_isub F rfl dX12_forge_56 ?_
            refine gw_iload_n F 3 rfl rfl dX12_forge_57 ?_
            refine gw_imul F rfl dX12_forge_58 ?_
            refine gw_aload_n F 0 rfl rfl (by decide) dX12_forge_59 ?_
            refine gk_PI F (gc_V F (S := [sg_i ((x2 - x1) * x3_33), sg_i x1, sg_i ((10 + (4 * x3_33)) + 1), sg_r 66]) (As := []) (T := TX12) (N := 62) (CX12_pieces hst hf) (so_64 hst) (by decide) rfl kw_1104 kw_103 kw_1102 kw_1103 kw_52 hcX12_pieces ⟨by decide, by decide⟩ rfl rfl (Nat.le_of_ble_eq_true rfl) ⟨by decide, by decide⟩ dX12_forge_60) (fun u14 h15 hf => ?_)
            refine gw_iconst F dX12_forge_63 ?_
            refine gw_isub F rfl dX12_forge_64 ?_
            obtain ⟨g16, hf⟩ := hf
            obtain ⟨g17, hf⟩ := hf
            obtain ⟨g18, hf⟩ := hf
            refine gw_idiv F g16 g17 g18 rfl dX12_forge_65 ?_
            refine gw_iadd F rfl dX12_forge_66 ?_
            obtain ⟨⟨b190, b191⟩, hf⟩ := hf
            obtain ⟨g20, hf⟩ := hf
            obtain ⟨v21, e22⟩ : ∃ z : Int, z = (x1 + (Int.tdiv ((x2 - x1) * x3_33) (u14 - 1))) := ⟨_, rfl⟩
            have hf := hf v21 e22
            refine gw_nmI e22 ?_
            obtain ⟨s23, e24⟩ : ∃ z : sg_M, z = sg_up s_33 66 ((10 + (4 * x3_33)) + 1) v21 := ⟨_, rfl⟩
            have hf := hf s23 e24
            refine gw_iast F (sa_66 hst) b190 b191 (e22 ▸ g20) e24 dX12_forge_67 ?_
            refine gw_iinc F (z := (x3_33 + 1)) 3 rfl (by omega) (by decide) rfl dX12_forge_68 ?_
            refine gw_goto F (tgt := 33) dX12_forge_71 (by decide) ?_
            obtain ⟨g25, hf⟩ := hf
            refine gw_sub [1, 2, 3, 0] rfl ?_
            exact ih s23 (x3_33 + 1) g25 hf
      obtain ⟨n26, hf⟩ := hf
      refine gw_sub [1, 2, 3, 0] rfl ?_
      refine L33   n26 s3 0 (by decide) hf
    · have hf := hf.2 c9
      refine gw_iconst F dX12_forge_29 ?_
      exact gr_HZ F (by decide) hf (by decide) (by decide) dX12_forge_30

theorem dX12_way_0 : decode cX12_way 0 = .ok (.aload_n 0, 1) := by decide +kernel
theorem dX12_way_1 : decode cX12_way 1 = .ok (.iload_n 1, 1) := by decide +kernel
theorem dX12_way_2 : decode cX12_way 2 = .ok (.invokevirtual 326, 3) := by decide +kernel
theorem dX12_way_5 : decode cX12_way 5 = .ok (.aload_n 0, 1) := by decide +kernel
theorem dX12_way_6 : decode cX12_way 6 = .ok (.iload_n 2, 1) := by decide +kernel
theorem dX12_way_7 : decode cX12_way 7 = .ok (.invokevirtual 326, 3) := by decide +kernel
theorem dX12_way_10 : decode cX12_way 10 = .ok (.isub, 1) := by decide +kernel
theorem dX12_way_11 : decode cX12_way 11 = .ok (.invokestatic 335, 3) := by decide +kernel
theorem dX12_way_14 : decode cX12_way 14 = .ok (.aload_n 0, 1) := by decide +kernel
theorem dX12_way_15 : decode cX12_way 15 = .ok (.iload_n 1, 1) := by decide +kernel
theorem dX12_way_16 : decode cX12_way 16 = .ok (.invokevirtual 329, 3) := by decide +kernel
theorem dX12_way_19 : decode cX12_way 19 = .ok (.aload_n 0, 1) := by decide +kernel
theorem dX12_way_20 : decode cX12_way 20 = .ok (.iload_n 2, 1) := by decide +kernel
theorem dX12_way_21 : decode cX12_way 21 = .ok (.invokevirtual 329, 3) := by decide +kernel
theorem dX12_way_24 : decode cX12_way 24 = .ok (.isub, 1) := by decide +kernel
theorem dX12_way_25 : decode cX12_way 25 = .ok (.invokestatic 335, 3) := by decide +kernel
theorem dX12_way_28 : decode cX12_way 28 = .ok (.iadd, 1) := by decide +kernel
theorem dX12_way_29 : decode cX12_way 29 = .ok (.ireturn, 1) := by decide +kernel
theorem hcX12_way : yX12_way.cls ≠ "java/lang/invoke/MethodHandle" ∧ yX12_way.cls ≠ "java/lang/invoke/VarHandle" ∧ (parseMethodDescriptor yX12_way.desc).map (fun d => d.parameters.length) = some 2 := ⟨by decide +kernel, by decide +kernel, by decide +kernel⟩
def fX12_way (s0 : sg_M) (x1 : Int) (x2 : Int) (Q : Int → Prop) : Prop := fX12_aOf s0 x1 (fun u1 => fX12_aOf s0 x2 (fun u3 => sg_R (u1 - u3) ∧ fX12_size (u1 - u3) (fun u6 => fX12_bOf s0 x1 (fun u8 => fX12_bOf s0 x2 (fun u10 => sg_R (u8 - u10) ∧ fX12_size (u8 - u10) (fun u13 => sg_R (u6 + u13) ∧ Q (u6 + u13)))))))
set_option maxHeartbeats 4000000 in
set_option maxRecDepth 100000 in
theorem CX12_way {l : Launch} {G : sg_G} {La : sg_L} {s0 : sg_M} (hst : sg_St La) {x1 : Int} (r1 : sg_R x1) {x2 : Int} (r2 : sg_R x2) {Q : Int → Prop} (hf : fX12_way s0 x1 x2 Q) : sg_C l G yX12_way cX12_way 3 (some .int) 2 0 0 La s0 [sg_r 64, sg_i x1, sg_i x2] (sg_PI La s0 Q) := by
  refine sg_body (by decide +kernel) (Nat.le_of_ble_eq_true rfl) ?_
  intro p e s m args below meth c F hnm
  unfold fX12_way at hf
  show sg_W p l e (sg_rm 2 0 0) s m args below meth c (MQ below (sg_Q (some .int) G La s.heap.size (sg_PI La s0 Q)) args s 0 0 (sg_A La s.heap.size)) 3 G (sg_A La s.heap.size) La s0 0 0 0 [(0, sg_r 64), (1, sg_i x1), (2, sg_i x2)] []
  refine gw_aload_n F 0 rfl rfl (by decide) dX12_way_0 ?_
  refine gw_iload_n F 1 rfl rfl dX12_way_1 ?_
  refine gk_PI F (gc_V F (S := []) (As := [sg_i x1]) (T := TX12) (N := 62) (CX12_aOf hst r1 hf) (so_64 hst) (by decide) rfl kw_1222 kw_103 kw_1220 kw_1221 kw_72 hcX12_aOf ⟨by decide, by decide⟩ rfl rfl (Nat.le_of_ble_eq_true rfl) ⟨by decide, by decide⟩ dX12_way_2) (fun u1 h2 hf => ?_)
  refine gw_aload_n F 0 rfl rfl (by decide) dX12_way_5 ?_
  refine gw_iload_n F 2 rfl rfl dX12_way_6 ?_
  refine gk_PI F (gc_V F (S := [sg_i u1]) (As := [sg_i x2]) (T := TX12) (N := 62) (CX12_aOf hst r2 hf) (so_64 hst) (by decide) rfl kw_1222 kw_103 kw_1220 kw_1221 kw_72 hcX12_aOf ⟨by decide, by decide⟩ rfl rfl (Nat.le_of_ble_eq_true rfl) ⟨by decide, by decide⟩ dX12_way_7) (fun u3 h4 hf => ?_)
  refine gw_isub F rfl dX12_way_10 ?_
  obtain ⟨g5, hf⟩ := hf
  refine gk_PI F (gc_S F (S := []) (As := [sg_i (u1 - u3)]) (CX12_size g5 hf) kw_1243 kw_103 kw_1241 kw_1242 hcX12_size ⟨by decide, by decide⟩ rfl rfl (Nat.le_of_ble_eq_true rfl) ⟨by decide, by decide⟩ dX12_way_11) (fun u6 h7 hf => ?_)
  refine gw_aload_n F 0 rfl rfl (by decide) dX12_way_14 ?_
  refine gw_iload_n F 1 rfl rfl dX12_way_15 ?_
  refine gk_PI F (gc_V F (S := [sg_i u6]) (As := [sg_i x1]) (T := TX12) (N := 62) (CX12_bOf hst r1 hf) (so_64 hst) (by decide) rfl kw_1225 kw_103 kw_1223 kw_1224 kw_73 hcX12_bOf ⟨by decide, by decide⟩ rfl rfl (Nat.le_of_ble_eq_true rfl) ⟨by decide, by decide⟩ dX12_way_16) (fun u8 h9 hf => ?_)
  refine gw_aload_n F 0 rfl rfl (by decide) dX12_way_19 ?_
  refine gw_iload_n F 2 rfl rfl dX12_way_20 ?_
  refine gk_PI F (gc_V F (S := [sg_i u8, sg_i u6]) (As := [sg_i x2]) (T := TX12) (N := 62) (CX12_bOf hst r2 hf) (so_64 hst) (by decide) rfl kw_1225 kw_103 kw_1223 kw_1224 kw_73 hcX12_bOf ⟨by decide, by decide⟩ rfl rfl (Nat.le_of_ble_eq_true rfl) ⟨by decide, by decide⟩ dX12_way_21) (fun u10 h11 hf => ?_)
  refine gw_isub F rfl dX12_way_24 ?_
  obtain ⟨g12, hf⟩ := hf
  refine gk_PI F (gc_S F (S := [sg_i u6]) (As := [sg_i (u8 - u10)]) (CX12_size g12 hf) kw_1243 kw_103 kw_1241 kw_1242 hcX12_size ⟨by decide, by decide⟩ rfl rfl (Nat.le_of_ble_eq_true rfl) ⟨by decide, by decide⟩ dX12_way_25) (fun u13 h14 hf => ?_)
  refine gw_iadd F rfl dX12_way_28 ?_
  obtain ⟨g15, hf⟩ := hf
  exact gr_PI F g15 hf (by decide) (by decide) dX12_way_29

theorem dX12_on_0 : decode cX12_on 0 = .ok (.ldc2_w 130, 3) := by decide +kernel
theorem dX12_on_3 : decode cX12_on 3 = .ok (.lload_n 0, 1) := by decide +kernel
theorem dX12_on_4 : decode cX12_on 4 = .ok (.lmul, 1) := by decide +kernel
theorem dX12_on_5 : decode cX12_on 5 = .ok (.iload_n 2, 1) := by decide +kernel
theorem dX12_on_6 : decode cX12_on 6 = .ok (.i2l, 1) := by decide +kernel
theorem dX12_on_7 : decode cX12_on 7 = .ok (.ladd, 1) := by decide +kernel
theorem dX12_on_8 : decode cX12_on 8 = .ok (.ldc2_w 132, 3) := by decide +kernel
theorem dX12_on_11 : decode cX12_on 11 = .ok (.lsub, 1) := by decide +kernel
theorem dX12_on_12 : decode cX12_on 12 = .ok (.lstore 4, 2) := by decide +kernel
theorem dX12_on_14 : decode cX12_on 14 = .ok (.iload_n 3, 1) := by decide +kernel
theorem dX12_on_15 : decode cX12_on 15 = .ok (.ifCond .le 19, 3) := by decide +kernel
theorem dX12_on_18 : decode cX12_on 18 = .ok (.ldc2_w 130, 3) := by decide +kernel
theorem dX12_on_21 : decode cX12_on 21 = .ok (.lload 4, 2) := by decide +kernel
theorem dX12_on_23 : decode cX12_on 23 = .ok (.lmul, 1) := by decide +kernel
theorem dX12_on_24 : decode cX12_on 24 = .ok (.iload_n 3, 1) := by decide +kernel
theorem dX12_on_25 : decode cX12_on 25 = .ok (.i2l, 1) := by decide +kernel
theorem dX12_on_26 : decode cX12_on 26 = .ok (.ladd, 1) := by decide +kernel
theorem dX12_on_27 : decode cX12_on 27 = .ok (.ldc2_w 132, 3) := by decide +kernel
theorem dX12_on_30 : decode cX12_on 30 = .ok (.lsub, 1) := by decide +kernel
theorem dX12_on_31 : decode cX12_on 31 = .ok (.goto 5, 3) := by decide +kernel
theorem dX12_on_34 : decode cX12_on 34 = .ok (.lload 4, 2) := by decide +kernel
theorem dX12_on_36 : decode cX12_on 36 = .ok (.lreturn, 1) := by decide +kernel
theorem hcX12_on : yX12_on.cls ≠ "java/lang/invoke/MethodHandle" ∧ yX12_on.cls ≠ "java/lang/invoke/VarHandle" ∧ (parseMethodDescriptor yX12_on.desc).map (fun d => d.parameters.length) = some 3 := ⟨by decide +kernel, by decide +kernel, by decide +kernel⟩
def fX12_on (x0 : Int) (x2 : Int) (x3 : Int) (Q : Int → Prop) : Prop := ((x3 ≤ 0 → sg_R64 (((27 * x0) + x2) - 96) ∧ Q (((27 * x0) + x2) - 96)) ∧ (¬ (x3 ≤ 0) → sg_R64 (((27 * (((27 * x0) + x2) - 96)) + x3) - 96) ∧ Q (((27 * (((27 * x0) + x2) - 96)) + x3) - 96)))
set_option maxHeartbeats 4000000 in
set_option maxRecDepth 100000 in
theorem CX12_on {l : Launch} {G : sg_G} {La : sg_L} {s0 : sg_M} {x0 : Int} (r0 : sg_R64 x0) {x2 : Int} (r2 : sg_R x2) {x3 : Int} (r3 : sg_R x3) {Q : Int → Prop} (hf : fX12_on x0 x2 x3 Q) : sg_C l G yX12_on cX12_on 6 (some .long) 1 0 0 La s0 [sg_l x0, sg_i x2, sg_i x3] (sg_PJ La s0 Q) := by
  refine sg_body (by decide +kernel) (Nat.le_of_ble_eq_true rfl) ?_
  intro p e s m args below meth c F hnm
  unfold fX12_on at hf
  show sg_W p l e (sg_rm 1 0 0) s m args below meth c (MQ below (sg_Q (some .long) G La s.heap.size (sg_PJ La s0 Q)) args s 0 0 (sg_A La s.heap.size)) 6 G (sg_A La s.heap.size) La s0 0 0 0 [(0, sg_l x0), (2, sg_i x2), (3, sg_i x3)] []
  refine gw_ldc2 F (n := 27) kw_1059 rfl dX12_on_0 ?_
  refine gw_lload_n F 0 rfl rfl dX12_on_3 ?_
  refine gw_lmul F rfl dX12_on_4 ?_
  refine gw_iload_n F 1 rfl rfl dX12_on_5 ?_
  refine gw_i2l F r2 dX12_on_6 ?_
  refine gw_ladd F rfl dX12_on_7 ?_
  refine gw_ldc2 F (n := 96) kw_1060 rfl dX12_on_8 ?_
  refine gw_lsub F rfl dX12_on_11 ?_
  refine gw_lstore F (by decide) rfl dX12_on_12 ?_
  refine gw_iload_n F 3 rfl rfl dX12_on_14 ?_
  refine gw_if_le F (tgt := 34) dX12_on_15 (by decide) r3 (fun c1 => ?_) (fun c1 => ?_)
  · have hf := hf.1 c1
    refine gw_lload F 0 rfl dX12_on_34 ?_
    obtain ⟨g2, hf⟩ := hf
    exact gr_PJ F g2 hf (by decide) (by decide) dX12_on_36
  · have hf := hf.2 c1
    refine gw_ldc2 F (n := 27) kw_1059 rfl dX12_on_18 ?_
    refine gw_lload F 0 rfl dX12_on_21 ?_
    refine gw_lmul F rfl dX12_on_23 ?_
    refine gw_iload_n F 3 rfl rfl dX12_on_24 ?_
    refine gw_i2l F r3 dX12_on_25 ?_
    refine gw_ladd F rfl dX12_on_26 ?_
    refine gw_ldc2 F (n := 96) kw_1060 rfl dX12_on_27 ?_
    refine gw_lsub F rfl dX12_on_30 ?_
    refine gw_goto F (tgt := 36) dX12_on_31 (by decide) ?_
    obtain ⟨g3, hf⟩ := hf
    exact gr_PJ F g3 hf (by decide) (by decide) dX12_on_36

theorem dX12_spelt_0 : decode cX12_spelt 0 = .ok (.ldc2_w 130, 3) := by decide +kernel
theorem dX12_spelt_3 : decode cX12_spelt 3 = .ok (.iload_n 0, 1) := by decide +kernel
theorem dX12_spelt_4 : decode cX12_spelt 4 = .ok (.i2l, 1) := by decide +kernel
theorem dX12_spelt_5 : decode cX12_spelt 5 = .ok (.ldc2_w 132, 3) := by decide +kernel
theorem dX12_spelt_8 : decode cX12_spelt 8 = .ok (.lsub, 1) := by decide +kernel
theorem dX12_spelt_9 : decode cX12_spelt 9 = .ok (.lmul, 1) := by decide +kernel
theorem dX12_spelt_10 : decode cX12_spelt 10 = .ok (.iload_n 1, 1) := by decide +kernel
theorem dX12_spelt_11 : decode cX12_spelt 11 = .ok (.i2l, 1) := by decide +kernel
theorem dX12_spelt_12 : decode cX12_spelt 12 = .ok (.ladd, 1) := by decide +kernel
theorem dX12_spelt_13 : decode cX12_spelt 13 = .ok (.ldc2_w 132, 3) := by decide +kernel
theorem dX12_spelt_16 : decode cX12_spelt 16 = .ok (.lsub, 1) := by decide +kernel
theorem dX12_spelt_17 : decode cX12_spelt 17 = .ok (.lstore 4, 2) := by decide +kernel
theorem dX12_spelt_19 : decode cX12_spelt 19 = .ok (.iload_n 2, 1) := by decide +kernel
theorem dX12_spelt_20 : decode cX12_spelt 20 = .ok (.ifCond .le 18, 3) := by decide +kernel
theorem dX12_spelt_23 : decode cX12_spelt 23 = .ok (.ldc2_w 130, 3) := by decide +kernel
theorem dX12_spelt_26 : decode cX12_spelt 26 = .ok (.lload 4, 2) := by decide +kernel
theorem dX12_spelt_28 : decode cX12_spelt 28 = .ok (.lmul, 1) := by decide +kernel
theorem dX12_spelt_29 : decode cX12_spelt 29 = .ok (.iload_n 2, 1) := by decide +kernel
theorem dX12_spelt_30 : decode cX12_spelt 30 = .ok (.i2l, 1) := by decide +kernel
theorem dX12_spelt_31 : decode cX12_spelt 31 = .ok (.ladd, 1) := by decide +kernel
theorem dX12_spelt_32 : decode cX12_spelt 32 = .ok (.ldc2_w 132, 3) := by decide +kernel
theorem dX12_spelt_35 : decode cX12_spelt 35 = .ok (.lsub, 1) := by decide +kernel
theorem dX12_spelt_36 : decode cX12_spelt 36 = .ok (.lstore 4, 2) := by decide +kernel
theorem dX12_spelt_38 : decode cX12_spelt 38 = .ok (.iload_n 3, 1) := by decide +kernel
theorem dX12_spelt_39 : decode cX12_spelt 39 = .ok (.ifCond .le 19, 3) := by decide +kernel
theorem dX12_spelt_42 : decode cX12_spelt 42 = .ok (.ldc2_w 130, 3) := by decide +kernel
theorem dX12_spelt_45 : decode cX12_spelt 45 = .ok (.lload 4, 2) := by decide +kernel
theorem dX12_spelt_47 : decode cX12_spelt 47 = .ok (.lmul, 1) := by decide +kernel
theorem dX12_spelt_48 : decode cX12_spelt 48 = .ok (.iload_n 3, 1) := by decide +kernel
theorem dX12_spelt_49 : decode cX12_spelt 49 = .ok (.i2l, 1) := by decide +kernel
theorem dX12_spelt_50 : decode cX12_spelt 50 = .ok (.ladd, 1) := by decide +kernel
theorem dX12_spelt_51 : decode cX12_spelt 51 = .ok (.ldc2_w 132, 3) := by decide +kernel
theorem dX12_spelt_54 : decode cX12_spelt 54 = .ok (.lsub, 1) := by decide +kernel
theorem dX12_spelt_55 : decode cX12_spelt 55 = .ok (.goto 5, 3) := by decide +kernel
theorem dX12_spelt_58 : decode cX12_spelt 58 = .ok (.lload 4, 2) := by decide +kernel
theorem dX12_spelt_60 : decode cX12_spelt 60 = .ok (.lreturn, 1) := by decide +kernel
theorem hcX12_spelt : yX12_spelt.cls ≠ "java/lang/invoke/MethodHandle" ∧ yX12_spelt.cls ≠ "java/lang/invoke/VarHandle" ∧ (parseMethodDescriptor yX12_spelt.desc).map (fun d => d.parameters.length) = some 4 := ⟨by decide +kernel, by decide +kernel, by decide +kernel⟩
def fX12_spelt_j38 (x3 : Int) (Q : Int → Prop) (x4_38 : Int) : Prop := ((x3 ≤ 0 → Q x4_38) ∧ (¬ (x3 ≤ 0) → sg_R64 (((27 * x4_38) + x3) - 96) ∧ Q (((27 * x4_38) + x3) - 96)))
def fX12_spelt (x0 : Int) (x1 : Int) (x2 : Int) (x3 : Int) (Q : Int → Prop) : Prop := ((x2 ≤ 0 → sg_R64 (((27 * (x0 - 96)) + x1) - 96) ∧ (fX12_spelt_j38 x3 Q) (((27 * (x0 - 96)) + x1) - 96)) ∧ (¬ (x2 ≤ 0) → ∀ v5 : Int, v5 = (((27 * (((27 * (x0 - 96)) + x1) - 96)) + x2) - 96) → sg_R64 v5 ∧ (fX12_spelt_j38 x3 Q) v5))
set_option maxHeartbeats 4000000 in
set_option maxRecDepth 100000 in
theorem CX12_spelt {l : Launch} {G : sg_G} {La : sg_L} {s0 : sg_M} {x0 : Int} (r0 : sg_R x0) {x1 : Int} (r1 : sg_R x1) {x2 : Int} (r2 : sg_R x2) {x3 : Int} (r3 : sg_R x3) {Q : Int → Prop} (hf : fX12_spelt x0 x1 x2 x3 Q) : sg_C l G yX12_spelt cX12_spelt 6 (some .long) 1 0 0 La s0 [sg_i x0, sg_i x1, sg_i x2, sg_i x3] (sg_PJ La s0 Q) := by
  refine sg_body (by decide +kernel) (Nat.le_of_ble_eq_true rfl) ?_
  intro p e s m args below meth c F hnm
  unfold fX12_spelt at hf
  show sg_W p l e (sg_rm 1 0 0) s m args below meth c (MQ below (sg_Q (some .long) G La s.heap.size (sg_PJ La s0 Q)) args s 0 0 (sg_A La s.heap.size)) 6 G (sg_A La s.heap.size) La s0 0 0 0 [(0, sg_i x0), (1, sg_i x1), (2, sg_i x2), (3, sg_i x3)] []
  refine gw_ldc2 F (n := 27) kw_1059 rfl dX12_spelt_0 ?_
  refine gw_iload_n F 0 rfl rfl dX12_spelt_3 ?_
  refine gw_i2l F r0 dX12_spelt_4 ?_
  refine gw_ldc2 F (n := 96) kw_1060 rfl dX12_spelt_5 ?_
  refine gw_lsub F rfl dX12_spelt_8 ?_
  refine gw_lmul F rfl dX12_spelt_9 ?_
  refine gw_iload_n F 1 rfl rfl dX12_spelt_10 ?_
  refine gw_i2l F r1 dX12_spelt_11 ?_
  refine gw_ladd F rfl dX12_spelt_12 ?_
  refine gw_ldc2 F (n := 96) kw_1060 rfl dX12_spelt_13 ?_
  refine gw_lsub F rfl dX12_spelt_16 ?_
  refine gw_lstore F (by decide) rfl dX12_spelt_17 ?_
  refine gw_iload_n F 3 rfl rfl dX12_spelt_19 ?_
  have J38 : ∀ (x4_38 : Int), sg_R64 x4_38 → (fX12_spelt_j38 x3 Q) x4_38 → sg_W p l e (sg_rm 1 0 0) s m args below meth c (MQ below (sg_Q (some .long) G La s.heap.size (sg_PJ La s0 Q)) args s 0 0 (sg_A La s.heap.size)) 6 G (sg_A La s.heap.size) La s0 0 0 38 [(3, sg_i x3), (4, sg_l x4_38)] [] := by
    intro x4_38 r4_38 hf
    unfold fX12_spelt_j38 at hf
    refine gw_iload_n F 0 rfl rfl dX12_spelt_38 ?_
    refine gw_if_le F (tgt := 58) dX12_spelt_39 (by decide) r3 (fun c1 => ?_) (fun c1 => ?_)
    · have hf := hf.1 c1
      refine gw_lload F 1 rfl dX12_spelt_58 ?_
      exact gr_PJ F r4_38 hf (by decide) (by decide) dX12_spelt_60
    · have hf := hf.2 c1
      refine gw_ldc2 F (n := 27) kw_1059 rfl dX12_spelt_42 ?_
      refine gw_lload F 1 rfl dX12_spelt_45 ?_
      refine gw_lmul F rfl dX12_spelt_47 ?_
      refine gw_iload_n F 0 rfl rfl dX12_spelt_48 ?_
      refine gw_i2l F r3 dX12_spelt_49 ?_
      refine gw_ladd F rfl dX12_spelt_50 ?_
      refine gw_ldc2 F (n := 96) kw_1060 rfl dX12_spelt_51 ?_
      refine gw_lsub F rfl dX12_spelt_54 ?_
      refine gw_goto F (tgt := 60) dX12_spelt_55 (by decide) ?_
      obtain ⟨g2, hf⟩ := hf
      exact gr_PJ F g2 hf (by decide) (by decide) dX12_spelt_60
  refine gw_if_le F (tgt := 38) dX12_spelt_20 (by decide) r2 (fun c3 => ?_) (fun c3 => ?_)
  · have hf := hf.1 c3
    obtain ⟨g4, hf⟩ := hf
    refine gw_sub [4, 0] rfl ?_
    exact J38 (((27 * (x0 - 96)) + x1) - 96) g4 hf
  · have hf := hf.2 c3
    refine gw_ldc2 F (n := 27) kw_1059 rfl dX12_spelt_23 ?_
    refine gw_lload F 0 rfl dX12_spelt_26 ?_
    refine gw_lmul F rfl dX12_spelt_28 ?_
    refine gw_iload_n F 3 rfl rfl dX12_spelt_29 ?_
    refine gw_i2l F r2 dX12_spelt_30 ?_
    refine gw_ladd F rfl dX12_spelt_31 ?_
    refine gw_ldc2 F (n := 96) kw_1060 rfl dX12_spelt_32 ?_
    refine gw_lsub F rfl dX12_spelt_35 ?_
    obtain ⟨v5, e6⟩ : ∃ z : Int, z = (((27 * (((27 * (x0 - 96)) + x1) - 96)) + x2) - 96) := ⟨_, rfl⟩
    obtain ⟨g7, hf⟩ := hf v5 e6
    refine gw_nmJ e6 ?_
    refine gw_lstore F (by decide) rfl dX12_spelt_36 ?_
    refine gw_sub [4, 0] rfl ?_
    exact J38 v5 g7 hf

theorem dX12_wordOf_0 : decode cX12_wordOf 0 = .ok (.iload_n 0, 1) := by decide +kernel
theorem dX12_wordOf_1 : decode cX12_wordOf 1 = .ok (.tableswitch 403 0 20 #[99, 117, 135, 146, 158, 170, 180, 190, 200, 218, 230, 240, 251, 262, 280, 299, 317, 329, 347, 365, 384], 99) := by decide +kernel
theorem dX12_wordOf_100 : decode cX12_wordOf 100 = .ok (.bipush 112, 2) := by decide +kernel
theorem dX12_wordOf_102 : decode cX12_wordOf 102 = .ok (.bipush 105, 2) := by decide +kernel
theorem dX12_wordOf_104 : decode cX12_wordOf 104 = .ok (.bipush 101, 2) := by decide +kernel
theorem dX12_wordOf_106 : decode cX12_wordOf 106 = .ok (.bipush 99, 2) := by decide +kernel
theorem dX12_wordOf_108 : decode cX12_wordOf 108 = .ok (.invokestatic 134, 3) := by decide +kernel
theorem dX12_wordOf_111 : decode cX12_wordOf 111 = .ok (.bipush 101, 2) := by decide +kernel
theorem dX12_wordOf_113 : decode cX12_wordOf 113 = .ok (.iconst 0, 1) := by decide +kernel
theorem dX12_wordOf_114 : decode cX12_wordOf 114 = .ok (.invokestatic 138, 3) := by decide +kernel
theorem dX12_wordOf_117 : decode cX12_wordOf 117 = .ok (.lreturn, 1) := by decide +kernel
theorem dX12_wordOf_118 : decode cX12_wordOf 118 = .ok (.bipush 116, 2) := by decide +kernel
theorem dX12_wordOf_120 : decode cX12_wordOf 120 = .ok (.bipush 101, 2) := by decide +kernel
theorem dX12_wordOf_122 : decode cX12_wordOf 122 = .ok (.bipush 101, 2) := by decide +kernel
theorem dX12_wordOf_124 : decode cX12_wordOf 124 = .ok (.bipush 116, 2) := by decide +kernel
theorem dX12_wordOf_126 : decode cX12_wordOf 126 = .ok (.invokestatic 134, 3) := by decide +kernel
theorem dX12_wordOf_129 : decode cX12_wordOf 129 = .ok (.bipush 104, 2) := by decide +kernel
theorem dX12_wordOf_131 : decode cX12_wordOf 131 = .ok (.iconst 0, 1) := by decide +kernel
theorem dX12_wordOf_132 : decode cX12_wordOf 132 = .ok (.invokestatic 138, 3) := by decide +kernel
theorem dX12_wordOf_135 : decode cX12_wordOf 135 = .ok (.lreturn, 1) := by decide +kernel
theorem dX12_wordOf_136 : decode cX12_wordOf 136 = .ok (.bipush 111, 2) := by decide +kernel
theorem dX12_wordOf_138 : decode cX12_wordOf 138 = .ok (.bipush 119, 2) := by decide +kernel
theorem dX12_wordOf_140 : decode cX12_wordOf 140 = .ok (.bipush 110, 2) := by decide +kernel
theorem dX12_wordOf_142 : decode cX12_wordOf 142 = .ok (.iconst 0, 1) := by decide +kernel
theorem dX12_wordOf_143 : decode cX12_wordOf 143 = .ok (.invokestatic 134, 3) := by decide +kernel
theorem dX12_wordOf_146 : decode cX12_wordOf 146 = .ok (.lreturn, 1) := by decide +kernel
theorem dX12_wordOf_147 : decode cX12_wordOf 147 = .ok (.bipush 117, 2) := by decide +kernel
theorem dX12_wordOf_149 : decode cX12_wordOf 149 = .ok (.bipush 110, 2) := by decide +kernel
theorem dX12_wordOf_151 : decode cX12_wordOf 151 = .ok (.bipush 105, 2) := by decide +kernel
theorem dX12_wordOf_153 : decode cX12_wordOf 153 = .ok (.bipush 116, 2) := by decide +kernel
theorem dX12_wordOf_155 : decode cX12_wordOf 155 = .ok (.invokestatic 134, 3) := by decide +kernel
theorem dX12_wordOf_158 : decode cX12_wordOf 158 = .ok (.lreturn, 1) := by decide +kernel
theorem dX12_wordOf_159 : decode cX12_wordOf 159 = .ok (.bipush 98, 2) := by decide +kernel
theorem dX12_wordOf_161 : decode cX12_wordOf 161 = .ok (.bipush 101, 2) := by decide +kernel
theorem dX12_wordOf_163 : decode cX12_wordOf 163 = .ok (.bipush 97, 2) := by decide +kernel
theorem dX12_wordOf_165 : decode cX12_wordOf 165 = .ok (.bipush 114, 2) := by decide +kernel
theorem dX12_wordOf_167 : decode cX12_wordOf 167 = .ok (.invokestatic 134, 3) := by decide +kernel
theorem dX12_wordOf_170 : decode cX12_wordOf 170 = .ok (.lreturn, 1) := by decide +kernel
theorem dX12_wordOf_171 : decode cX12_wordOf 171 = .ok (.bipush 97, 2) := by decide +kernel
theorem dX12_wordOf_173 : decode cX12_wordOf 173 = .ok (.bipush 116, 2) := by decide +kernel
theorem dX12_wordOf_175 : decode cX12_wordOf 175 = .ok (.iconst 0, 1) := by decide +kernel
theorem dX12_wordOf_176 : decode cX12_wordOf 176 = .ok (.iconst 0, 1) := by decide +kernel
theorem dX12_wordOf_177 : decode cX12_wordOf 177 = .ok (.invokestatic 134, 3) := by decide +kernel
theorem dX12_wordOf_180 : decode cX12_wordOf 180 = .ok (.lreturn, 1) := by decide +kernel
theorem dX12_wordOf_181 : decode cX12_wordOf 181 = .ok (.bipush 116, 2) := by decide +kernel
theorem dX12_wordOf_183 : decode cX12_wordOf 183 = .ok (.bipush 111, 2) := by decide +kernel
theorem dX12_wordOf_185 : decode cX12_wordOf 185 = .ok (.iconst 0, 1) := by decide +kernel
theorem dX12_wordOf_186 : decode cX12_wordOf 186 = .ok (.iconst 0, 1) := by decide +kernel
theorem dX12_wordOf_187 : decode cX12_wordOf 187 = .ok (.invokestatic 134, 3) := by decide +kernel
theorem dX12_wordOf_190 : decode cX12_wordOf 190 = .ok (.lreturn, 1) := by decide +kernel
theorem dX12_wordOf_191 : decode cX12_wordOf 191 = .ok (.bipush 105, 2) := by decide +kernel
theorem dX12_wordOf_193 : decode cX12_wordOf 193 = .ok (.bipush 110, 2) := by decide +kernel
theorem dX12_wordOf_195 : decode cX12_wordOf 195 = .ok (.iconst 0, 1) := by decide +kernel
theorem dX12_wordOf_196 : decode cX12_wordOf 196 = .ok (.iconst 0, 1) := by decide +kernel
theorem dX12_wordOf_197 : decode cX12_wordOf 197 = .ok (.invokestatic 134, 3) := by decide +kernel
theorem dX12_wordOf_200 : decode cX12_wordOf 200 = .ok (.lreturn, 1) := by decide +kernel
theorem dX12_wordOf_201 : decode cX12_wordOf 201 = .ok (.bipush 115, 2) := by decide +kernel
theorem dX12_wordOf_203 : decode cX12_wordOf 203 = .ok (.bipush 104, 2) := by decide +kernel
theorem dX12_wordOf_205 : decode cX12_wordOf 205 = .ok (.bipush 97, 2) := by decide +kernel
theorem dX12_wordOf_207 : decode cX12_wordOf 207 = .ok (.bipush 107, 2) := by decide +kernel
theorem dX12_wordOf_209 : decode cX12_wordOf 209 = .ok (.invokestatic 134, 3) := by decide +kernel
theorem dX12_wordOf_212 : decode cX12_wordOf 212 = .ok (.bipush 101, 2) := by decide +kernel
theorem dX12_wordOf_214 : decode cX12_wordOf 214 = .ok (.iconst 0, 1) := by decide +kernel
theorem dX12_wordOf_215 : decode cX12_wordOf 215 = .ok (.invokestatic 138, 3) := by decide +kernel
theorem dX12_wordOf_218 : decode cX12_wordOf 218 = .ok (.lreturn, 1) := by decide +kernel
theorem dX12_wordOf_219 : decode cX12_wordOf 219 = .ok (.bipush 119, 2) := by decide +kernel
theorem dX12_wordOf_221 : decode cX12_wordOf 221 = .ok (.bipush 97, 2) := by decide +kernel
theorem dX12_wordOf_223 : decode cX12_wordOf 223 = .ok (.bipush 105, 2) := by decide +kernel
theorem dX12_wordOf_225 : decode cX12_wordOf 225 = .ok (.bipush 116, 2) := by decide +kernel
theorem dX12_wordOf_227 : decode cX12_wordOf 227 = .ok (.invokestatic 134, 3) := by decide +kernel
theorem dX12_wordOf_230 : decode cX12_wordOf 230 = .ok (.lreturn, 1) := by decide +kernel
theorem dX12_wordOf_231 : decode cX12_wordOf 231 = .ok (.bipush 111, 2) := by decide +kernel
theorem dX12_wordOf_233 : decode cX12_wordOf 233 = .ok (.bipush 114, 2) := by decide +kernel
theorem dX12_wordOf_235 : decode cX12_wordOf 235 = .ok (.iconst 0, 1) := by decide +kernel
theorem dX12_wordOf_236 : decode cX12_wordOf 236 = .ok (.iconst 0, 1) := by decide +kernel
theorem dX12_wordOf_237 : decode cX12_wordOf 237 = .ok (.invokestatic 134, 3) := by decide +kernel
theorem dX12_wordOf_240 : decode cX12_wordOf 240 = .ok (.lreturn, 1) := by decide +kernel
theorem dX12_wordOf_241 : decode cX12_wordOf 241 = .ok (.bipush 97, 2) := by decide +kernel
theorem dX12_wordOf_243 : decode cX12_wordOf 243 = .ok (.bipush 110, 2) := by decide +kernel
theorem dX12_wordOf_245 : decode cX12_wordOf 245 = .ok (.bipush 100, 2) := by decide +kernel
theorem dX12_wordOf_247 : decode cX12_wordOf 247 = .ok (.iconst 0, 1) := by decide +kernel
theorem dX12_wordOf_248 : decode cX12_wordOf 248 = .ok (.invokestatic 134, 3) := by decide +kernel
theorem dX12_wordOf_251 : decode cX12_wordOf 251 = .ok (.lreturn, 1) := by decide +kernel
theorem dX12_wordOf_252 : decode cX12_wordOf 252 = .ok (.bipush 110, 2) := by decide +kernel
theorem dX12_wordOf_254 : decode cX12_wordOf 254 = .ok (.bipush 111, 2) := by decide +kernel
theorem dX12_wordOf_256 : decode cX12_wordOf 256 = .ok (.bipush 116, 2) := by decide +kernel
theorem dX12_wordOf_258 : decode cX12_wordOf 258 = .ok (.iconst 0, 1) := by decide +kernel
theorem dX12_wordOf_259 : decode cX12_wordOf 259 = .ok (.invokestatic 134, 3) := by decide +kernel
theorem dX12_wordOf_262 : decode cX12_wordOf 262 = .ok (.lreturn, 1) := by decide +kernel
theorem dX12_wordOf_263 : decode cX12_wordOf 263 = .ok (.bipush 115, 2) := by decide +kernel
theorem dX12_wordOf_265 : decode cX12_wordOf 265 = .ok (.bipush 105, 2) := by decide +kernel
theorem dX12_wordOf_267 : decode cX12_wordOf 267 = .ok (.bipush 110, 2) := by decide +kernel
theorem dX12_wordOf_269 : decode cX12_wordOf 269 = .ok (.bipush 103, 2) := by decide +kernel
theorem dX12_wordOf_271 : decode cX12_wordOf 271 = .ok (.invokestatic 134, 3) := by decide +kernel
theorem dX12_wordOf_274 : decode cX12_wordOf 274 = .ok (.bipush 115, 2) := by decide +kernel
theorem dX12_wordOf_276 : decode cX12_wordOf 276 = .ok (.iconst 0, 1) := by decide +kernel
theorem dX12_wordOf_277 : decode cX12_wordOf 277 = .ok (.invokestatic 138, 3) := by decide +kernel
theorem dX12_wordOf_280 : decode cX12_wordOf 280 = .ok (.lreturn, 1) := by decide +kernel
theorem dX12_wordOf_281 : decode cX12_wordOf 281 = .ok (.bipush 98, 2) := by decide +kernel
theorem dX12_wordOf_283 : decode cX12_wordOf 283 = .ok (.bipush 114, 2) := by decide +kernel
theorem dX12_wordOf_285 : decode cX12_wordOf 285 = .ok (.bipush 111, 2) := by decide +kernel
theorem dX12_wordOf_287 : decode cX12_wordOf 287 = .ok (.bipush 107, 2) := by decide +kernel
theorem dX12_wordOf_289 : decode cX12_wordOf 289 = .ok (.invokestatic 134, 3) := by decide +kernel
theorem dX12_wordOf_292 : decode cX12_wordOf 292 = .ok (.bipush 101, 2) := by decide +kernel
theorem dX12_wordOf_294 : decode cX12_wordOf 294 = .ok (.bipush 110, 2) := by decide +kernel
theorem dX12_wordOf_296 : decode cX12_wordOf 296 = .ok (.invokestatic 138, 3) := by decide +kernel
theorem dX12_wordOf_299 : decode cX12_wordOf 299 = .ok (.lreturn, 1) := by decide +kernel
theorem dX12_wordOf_300 : decode cX12_wordOf 300 = .ok (.bipush 116, 2) := by decide +kernel
theorem dX12_wordOf_302 : decode cX12_wordOf 302 = .ok (.bipush 119, 2) := by decide +kernel
theorem dX12_wordOf_304 : decode cX12_wordOf 304 = .ok (.bipush 105, 2) := by decide +kernel
theorem dX12_wordOf_306 : decode cX12_wordOf 306 = .ok (.bipush 99, 2) := by decide +kernel
theorem dX12_wordOf_308 : decode cX12_wordOf 308 = .ok (.invokestatic 134, 3) := by decide +kernel
theorem dX12_wordOf_311 : decode cX12_wordOf 311 = .ok (.bipush 101, 2) := by decide +kernel
theorem dX12_wordOf_313 : decode cX12_wordOf 313 = .ok (.iconst 0, 1) := by decide +kernel
theorem dX12_wordOf_314 : decode cX12_wordOf 314 = .ok (.invokestatic 138, 3) := by decide +kernel
theorem dX12_wordOf_317 : decode cX12_wordOf 317 = .ok (.lreturn, 1) := by decide +kernel
theorem dX12_wordOf_318 : decode cX12_wordOf 318 = .ok (.bipush 116, 2) := by decide +kernel
theorem dX12_wordOf_320 : decode cX12_wordOf 320 = .ok (.bipush 111, 2) := by decide +kernel
theorem dX12_wordOf_322 : decode cX12_wordOf 322 = .ok (.bipush 110, 2) := by decide +kernel
theorem dX12_wordOf_324 : decode cX12_wordOf 324 = .ok (.bipush 101, 2) := by decide +kernel
theorem dX12_wordOf_326 : decode cX12_wordOf 326 = .ok (.invokestatic 134, 3) := by decide +kernel
theorem dX12_wordOf_329 : decode cX12_wordOf 329 = .ok (.lreturn, 1) := by decide +kernel
theorem dX12_wordOf_330 : decode cX12_wordOf 330 = .ok (.bipush 112, 2) := by decide +kernel
theorem dX12_wordOf_332 : decode cX12_wordOf 332 = .ok (.bipush 108, 2) := by decide +kernel
theorem dX12_wordOf_334 : decode cX12_wordOf 334 = .ok (.bipush 97, 2) := by decide +kernel
theorem dX12_wordOf_336 : decode cX12_wordOf 336 = .ok (.bipush 99, 2) := by decide +kernel
theorem dX12_wordOf_338 : decode cX12_wordOf 338 = .ok (.invokestatic 134, 3) := by decide +kernel
theorem dX12_wordOf_341 : decode cX12_wordOf 341 = .ok (.bipush 101, 2) := by decide +kernel
theorem dX12_wordOf_343 : decode cX12_wordOf 343 = .ok (.iconst 0, 1) := by decide +kernel
theorem dX12_wordOf_344 : decode cX12_wordOf 344 = .ok (.invokestatic 138, 3) := by decide +kernel
theorem dX12_wordOf_347 : decode cX12_wordOf 347 = .ok (.lreturn, 1) := by decide +kernel
theorem dX12_wordOf_348 : decode cX12_wordOf 348 = .ok (.bipush 114, 2) := by decide +kernel
theorem dX12_wordOf_350 : decode cX12_wordOf 350 = .ok (.bipush 105, 2) := by decide +kernel
theorem dX12_wordOf_352 : decode cX12_wordOf 352 = .ok (.bipush 110, 2) := by decide +kernel
theorem dX12_wordOf_354 : decode cX12_wordOf 354 = .ok (.bipush 103, 2) := by decide +kernel
theorem dX12_wordOf_356 : decode cX12_wordOf 356 = .ok (.invokestatic 134, 3) := by decide +kernel
theorem dX12_wordOf_359 : decode cX12_wordOf 359 = .ok (.bipush 115, 2) := by decide +kernel
theorem dX12_wordOf_361 : decode cX12_wordOf 361 = .ok (.iconst 0, 1) := by decide +kernel
theorem dX12_wordOf_362 : decode cX12_wordOf 362 = .ok (.invokestatic 138, 3) := by decide +kernel
theorem dX12_wordOf_365 : decode cX12_wordOf 365 = .ok (.lreturn, 1) := by decide +kernel
theorem dX12_wordOf_366 : decode cX12_wordOf 366 = .ok (.bipush 115, 2) := by decide +kernel
theorem dX12_wordOf_368 : decode cX12_wordOf 368 = .ok (.bipush 116, 2) := by decide +kernel
theorem dX12_wordOf_370 : decode cX12_wordOf 370 = .ok (.bipush 114, 2) := by decide +kernel
theorem dX12_wordOf_372 : decode cX12_wordOf 372 = .ok (.bipush 97, 2) := by decide +kernel
theorem dX12_wordOf_374 : decode cX12_wordOf 374 = .ok (.invokestatic 134, 3) := by decide +kernel
theorem dX12_wordOf_377 : decode cX12_wordOf 377 = .ok (.bipush 105, 2) := by decide +kernel
theorem dX12_wordOf_379 : decode cX12_wordOf 379 = .ok (.bipush 110, 2) := by decide +kernel
theorem dX12_wordOf_381 : decode cX12_wordOf 381 = .ok (.invokestatic 138, 3) := by decide +kernel
theorem dX12_wordOf_384 : decode cX12_wordOf 384 = .ok (.lreturn, 1) := by decide +kernel
theorem dX12_wordOf_385 : decode cX12_wordOf 385 = .ok (.bipush 112, 2) := by decide +kernel
theorem dX12_wordOf_387 : decode cX12_wordOf 387 = .ok (.bipush 108, 2) := by decide +kernel
theorem dX12_wordOf_389 : decode cX12_wordOf 389 = .ok (.bipush 97, 2) := by decide +kernel
theorem dX12_wordOf_391 : decode cX12_wordOf 391 = .ok (.bipush 99, 2) := by decide +kernel
theorem dX12_wordOf_393 : decode cX12_wordOf 393 = .ok (.invokestatic 134, 3) := by decide +kernel
theorem dX12_wordOf_396 : decode cX12_wordOf 396 = .ok (.bipush 101, 2) := by decide +kernel
theorem dX12_wordOf_398 : decode cX12_wordOf 398 = .ok (.bipush 115, 2) := by decide +kernel
theorem dX12_wordOf_400 : decode cX12_wordOf 400 = .ok (.invokestatic 138, 3) := by decide +kernel
theorem dX12_wordOf_403 : decode cX12_wordOf 403 = .ok (.lreturn, 1) := by decide +kernel
theorem dX12_wordOf_404 : decode cX12_wordOf 404 = .ok (.bipush 116, 2) := by decide +kernel
theorem dX12_wordOf_406 : decode cX12_wordOf 406 = .ok (.bipush 105, 2) := by decide +kernel
theorem dX12_wordOf_408 : decode cX12_wordOf 408 = .ok (.bipush 99, 2) := by decide +kernel
theorem dX12_wordOf_410 : decode cX12_wordOf 410 = .ok (.bipush 107, 2) := by decide +kernel
theorem dX12_wordOf_412 : decode cX12_wordOf 412 = .ok (.invokestatic 134, 3) := by decide +kernel
theorem dX12_wordOf_415 : decode cX12_wordOf 415 = .ok (.lreturn, 1) := by decide +kernel
theorem hcX12_wordOf : yX12_wordOf.cls ≠ "java/lang/invoke/MethodHandle" ∧ yX12_wordOf.cls ≠ "java/lang/invoke/VarHandle" ∧ (parseMethodDescriptor yX12_wordOf.desc).map (fun d => d.parameters.length) = some 1 := ⟨by decide +kernel, by decide +kernel, by decide +kernel⟩
def fX12_wordOf (x0 : Int) (Q : Int → Prop) : Prop := ((x0 < 0 ∨ 20 < x0 → fX12_spelt 116 105 99 107 (fun u2 => Q u2)) ∧ (x0 = 0 → fX12_spelt 112 105 101 99 (fun u4 => fX12_on u4 101 0 (fun u6 => Q u6))) ∧ (x0 = 1 → fX12_spelt 116 101 101 116 (fun u8 => fX12_on u8 104 0 (fun u10 => Q u10))) ∧ (x0 = 2 → fX12_spelt 111 119 110 0 (fun u12 => Q u12)) ∧ (x0 = 3 → fX12_spelt 117 110 105 116 (fun u14 => Q u14)) ∧ (x0 = 4 → fX12_spelt 98 101 97 114 (fun u16 => Q u16)) ∧ (x0 = 5 → fX12_spelt 97 116 0 0 (fun u18 => Q u18)) ∧ (x0 = 6 → fX12_spelt 116 111 0 0 (fun u20 => Q u20)) ∧ (x0 = 7 → fX12_spelt 105 110 0 0 (fun u22 => Q u22)) ∧ (x0 = 8 → fX12_spelt 115 104 97 107 (fun u24 => fX12_on u24 101 0 (fun u26 => Q u26))) ∧ (x0 = 9 → fX12_spelt 119 97 105 116 (fun u28 => Q u28)) ∧ (x0 = 10 → fX12_spelt 111 114 0 0 (fun u30 => Q u30)) ∧ (x0 = 11 → fX12_spelt 97 110 100 0 (fun u32 => Q u32)) ∧ (x0 = 12 → fX12_spelt 110 111 116 0 (fun u34 => Q u34)) ∧ (x0 = 13 → fX12_spelt 115 105 110 103 (fun u36 => fX12_on u36 115 0 (fun u38 => Q u38))) ∧ (x0 = 14 → fX12_spelt 98 114 111 107 (fun u40 => fX12_on u40 101 110 (fun u42 => Q u42))) ∧ (x0 = 15 → fX12_spelt 116 119 105 99 (fun u44 => fX12_on u44 101 0 (fun u46 => Q u46))) ∧ (x0 = 16 → fX12_spelt 116 111 110 101 (fun u48 => Q u48)) ∧ (x0 = 17 → fX12_spelt 112 108 97 99 (fun u50 => fX12_on u50 101 0 (fun u52 => Q u52))) ∧ (x0 = 18 → fX12_spelt 114 105 110 103 (fun u54 => fX12_on u54 115 0 (fun u56 => Q u56))) ∧ (x0 = 19 → fX12_spelt 115 116 114 97 (fun u58 => fX12_on u58 105 110 (fun u60 => Q u60))) ∧ (x0 = 20 → fX12_spelt 112 108 97 99 (fun u62 => fX12_on u62 101 115 (fun u64 => Q u64))))
set_option maxHeartbeats 4000000 in
set_option maxRecDepth 100000 in
theorem CX12_wordOf {l : Launch} {G : sg_G} {La : sg_L} {s0 : sg_M} {x0 : Int} (r0 : sg_R x0) {Q : Int → Prop} (hf : fX12_wordOf x0 Q) : sg_C l G yX12_wordOf cX12_wordOf 1 (some .long) 2 0 0 La s0 [sg_i x0] (sg_PJ La s0 Q) := by
  refine sg_body (by decide +kernel) (Nat.le_of_ble_eq_true rfl) ?_
  intro p e s m args below meth c F hnm
  unfold fX12_wordOf at hf
  show sg_W p l e (sg_rm 2 0 0) s m args below meth c (MQ below (sg_Q (some .long) G La s.heap.size (sg_PJ La s0 Q)) args s 0 0 (sg_A La s.heap.size)) 1 G (sg_A La s.heap.size) La s0 0 0 0 [(0, sg_i x0)] []
  refine gw_iload_n F 0 rfl rfl dX12_wordOf_0 ?_
  refine gw_switch F dX12_wordOf_1 r0 (td := 404) (by decide) (fun c1 => ?_) (fun i hi1 hi2 => ?_)
  · have hf := hf.1 c1
    refine gw_bipush F rfl dX12_wordOf_404 ?_
    refine gw_bipush F rfl dX12_wordOf_406 ?_
    refine gw_bipush F rfl dX12_wordOf_408 ?_
    refine gw_bipush F rfl dX12_wordOf_410 ?_
    refine gk_PJ F (gc_S F (S := []) (As := [sg_i 116, sg_i 105, sg_i 99, sg_i 107]) (CX12_spelt (by decide) (by decide) (by decide) (by decide) hf) kw_1072 kw_103 kw_1070 kw_1071 hcX12_spelt ⟨by decide, by decide⟩ rfl rfl (Nat.le_of_ble_eq_true rfl) ⟨by decide, by decide⟩ dX12_wordOf_412) (fun u2 h3 hf => ?_)
    exact gr_PJ F h3 hf (by decide) (by decide) dX12_wordOf_415
  · rcases (show i = 0 ∨ i = 1 ∨ i = 2 ∨ i = 3 ∨ i = 4 ∨ i = 5 ∨ i = 6 ∨ i = 7 ∨ i = 8 ∨ i = 9 ∨ i = 10 ∨ i = 11 ∨ i = 12 ∨ i = 13 ∨ i = 14 ∨ i = 15 ∨ i = 16 ∨ i = 17 ∨ i = 18 ∨ i = 19 ∨ i = 20 by omega) with rfl | rfl | rfl | rfl | rfl | rfl | rfl | rfl | rfl | rfl | rfl | rfl | rfl | rfl | rfl | rfl | rfl | rfl | rfl | rfl | rfl
    · have hf := hf.2.1 (by omega)
      refine ⟨99, 100, rfl, by decide, ?_⟩
      refine gw_bipush F rfl dX12_wordOf_100 ?_
      refine gw_bipush F rfl dX12_wordOf_102 ?_
      refine gw_bipush F rfl dX12_wordOf_104 ?_
      refine gw_bipush F rfl dX12_wordOf_106 ?_
      refine gk_PJ F (gc_S F (S := []) (As := [sg_i 112, sg_i 105, sg_i 101, sg_i 99]) (CX12_spelt (by decide) (by decide) (by decide) (by decide) hf) kw_1072 kw_103 kw_1070 kw_1071 hcX12_spelt ⟨by decide, by decide⟩ rfl rfl (Nat.le_of_ble_eq_true rfl) ⟨by decide, by decide⟩ dX12_wordOf_108) (fun u4 h5 hf => ?_)
      refine gw_bipush F rfl dX12_wordOf_111 ?_
      refine gw_iconst F dX12_wordOf_113 ?_
      refine gk_PJ F (gc_S F (S := []) (As := [sg_l u4, sg_i 101, sg_i 0]) (CX12_on h5 (by decide) (by decide) hf) kw_1075 kw_103 kw_1073 kw_1074 hcX12_on ⟨by decide, by decide⟩ rfl rfl (Nat.le_of_ble_eq_true rfl) ⟨by decide, by decide⟩ dX12_wordOf_114) (fun u6 h7 hf => ?_)
      exact gr_PJ F h7 hf (by decide) (by decide) dX12_wordOf_117
    · have hf := hf.2.2.1 (by omega)
      refine ⟨117, 118, rfl, by decide, ?_⟩
      refine gw_bipush F rfl dX12_wordOf_118 ?_
      refine gw_bipush F rfl dX12_wordOf_120 ?_
      refine gw_bipush F rfl dX12_wordOf_122 ?_
      refine gw_bipush F rfl dX12_wordOf_124 ?_
      refine gk_PJ F (gc_S F (S := []) (As := [sg_i 116, sg_i 101, sg_i 101, sg_i 116]) (CX12_spelt (by decide) (by decide) (by decide) (by decide) hf) kw_1072 kw_103 kw_1070 kw_1071 hcX12_spelt ⟨by decide, by decide⟩ rfl rfl (Nat.le_of_ble_eq_true rfl) ⟨by decide, by decide⟩ dX12_wordOf_126) (fun u8 h9 hf => ?_)
      refine gw_bipush F rfl dX12_wordOf_129 ?_
      refine gw_iconst F dX12_wordOf_131 ?_
      refine gk_PJ F (gc_S F (S := []) (As := [sg_l u8, sg_i 104, sg_i 0]) (CX12_on h9 (by decide) (by decide) hf) kw_1075 kw_103 kw_1073 kw_1074 hcX12_on ⟨by decide, by decide⟩ rfl rfl (Nat.le_of_ble_eq_true rfl) ⟨by decide, by decide⟩ dX12_wordOf_132) (fun u10 h11 hf => ?_)
      exact gr_PJ F h11 hf (by decide) (by decide) dX12_wordOf_135
    · have hf := hf.2.2.2.1 (by omega)
      refine ⟨135, 136, rfl, by decide, ?_⟩
      refine gw_bipush F rfl dX12_wordOf_136 ?_
      refine gw_bipush F rfl dX12_wordOf_138 ?_
      refine gw_bipush F rfl dX12_wordOf_140 ?_
      refine gw_iconst F dX12_wordOf_142 ?_
      refine gk_PJ F (gc_S F (S := []) (As := [sg_i 111, sg_i 119, sg_i 110, sg_i 0]) (CX12_spelt (by decide) (by decide) (by decide) (by decide) hf) kw_1072 kw_103 kw_1070 kw_1071 hcX12_spelt ⟨by decide, by decide⟩ rfl rfl (Nat.le_of_ble_eq_true rfl) ⟨by decide, by decide⟩ dX12_wordOf_143) (fun u12 h13 hf => ?_)
      exact gr_PJ F h13 hf (by decide) (by decide) dX12_wordOf_146
    · have hf := hf.2.2.2.2.1 (by omega)
      refine ⟨146, 147, rfl, by decide, ?_⟩
      refine gw_bipush F rfl dX12_wordOf_147 ?_
      refine gw_bipush F rfl dX12_wordOf_149 ?_
      refine gw_bipush F rfl dX12_wordOf_151 ?_
      refine gw_bipush F rfl dX12_wordOf_153 ?_
      refine gk_PJ F (gc_S F (S := []) (As := [sg_i 117, sg_i 110, sg_i 105, sg_i 116]) (CX12_spelt (by decide) (by decide) (by decide) (by decide) hf) kw_1072 kw_103 kw_1070 kw_1071 hcX12_spelt ⟨by decide, by decide⟩ rfl rfl (Nat.le_of_ble_eq_true rfl) ⟨by decide, by decide⟩ dX12_wordOf_155) (fun u14 h15 hf => ?_)
      exact gr_PJ F h15 hf (by decide) (by decide) dX12_wordOf_158
    · have hf := hf.2.2.2.2.2.1 (by omega)
      refine ⟨158, 159, rfl, by decide, ?_⟩
      refine gw_bipush F rfl dX12_wordOf_159 ?_
      refine gw_bipush F rfl dX12_wordOf_161 ?_
      refine gw_bipush F rfl dX12_wordOf_163 ?_
      refine gw_bipush F rfl dX12_wordOf_165 ?_
      refine gk_PJ F (gc_S F (S := []) (As := [sg_i 98, sg_i 101, sg_i 97, sg_i 114]) (CX12_spelt (by decide) (by decide) (by decide) (by decide) hf) kw_1072 kw_103 kw_1070 kw_1071 hcX12_spelt ⟨by decide, by decide⟩ rfl rfl (Nat.le_of_ble_eq_true rfl) ⟨by decide, by decide⟩ dX12_wordOf_167) (fun u16 h17 hf => ?_)
      exact gr_PJ F h17 hf (by decide) (by decide) dX12_wordOf_170
    · have hf := hf.2.2.2.2.2.2.1 (by omega)
      refine ⟨170, 171, rfl, by decide, ?_⟩
      refine gw_bipush F rfl dX12_wordOf_171 ?_
      refine gw_bipush F rfl dX12_wordOf_173 ?_
      refine gw_iconst F dX12_wordOf_175 ?_
      refine gw_iconst F dX12_wordOf_176 ?_
      refine gk_PJ F (gc_S F (S := []) (As := [sg_i 97, sg_i 116, sg_i 0, sg_i 0]) (CX12_spelt (by decide) (by decide) (by decide) (by decide) hf) kw_1072 kw_103 kw_1070 kw_1071 hcX12_spelt ⟨by decide, by decide⟩ rfl rfl (Nat.le_of_ble_eq_true rfl) ⟨by decide, by decide⟩ dX12_wordOf_177) (fun u18 h19 hf => ?_)
      exact gr_PJ F h19 hf (by decide) (by decide) dX12_wordOf_180
    · have hf := hf.2.2.2.2.2.2.2.1 (by omega)
      refine ⟨180, 181, rfl, by decide, ?_⟩
      refine gw_bipush F rfl dX12_wordOf_181 ?_
      refine gw_bipush F rfl dX12_wordOf_183 ?_
      refine gw_iconst F dX12_wordOf_185 ?_
      refine gw_iconst F dX12_wordOf_186 ?_
      refine gk_PJ F (gc_S F (S := []) (As := [sg_i 116, sg_i 111, sg_i 0, sg_i 0]) (CX12_spelt (by decide) (by decide) (by decide) (by decide) hf) kw_1072 kw_103 kw_1070 kw_1071 hcX12_spelt ⟨by decide, by decide⟩ rfl rfl (Nat.le_of_ble_eq_true rfl) ⟨by decide, by decide⟩ dX12_wordOf_187) (fun u20 h21 hf => ?_)
      exact gr_PJ F h21 hf (by decide) (by decide) dX12_wordOf_190
    · have hf := hf.2.2.2.2.2.2.2.2.1 (by omega)
      refine ⟨190, 191, rfl, by decide, ?_⟩
      refine gw_bipush F rfl dX12_wordOf_191 ?_
      refine gw_bipush F rfl dX12_wordOf_193 ?_
      refine gw_iconst F dX12_wordOf_195 ?_
      refine gw_iconst F dX12_wordOf_196 ?_
      refine gk_PJ F (gc_S F (S := []) (As := [sg_i 105, sg_i 110, sg_i 0, sg_i 0]) (CX12_spelt (by decide) (by decide) (by decide) (by decide) hf) kw_1072 kw_103 kw_1070 kw_1071 hcX12_spelt ⟨by decide, by decide⟩ rfl rfl (Nat.le_of_ble_eq_true rfl) ⟨by decide, by decide⟩ dX12_wordOf_197) (fun u22 h23 hf => ?_)
      exact gr_PJ F h23 hf (by decide) (by decide) dX12_wordOf_200
    · have hf := hf.2.2.2.2.2.2.2.2.2.1 (by omega)
      refine ⟨200, 201, rfl, by decide, ?_⟩
      refine gw_bipush F rfl dX12_wordOf_201 ?_
      refine gw_bipush F rfl dX12_wordOf_203 ?_
      refine gw_bipush F rfl dX12_wordOf_205 ?_
      refine gw_bipush F rfl dX12_wordOf_207 ?_
      refine gk_PJ F (gc_S F (S := []) (As := [sg_i 115, sg_i 104, sg_i 97, sg_i 107]) (CX12_spelt (by decide) (by decide) (by decide) (by decide) hf) kw_1072 kw_103 kw_1070 kw_1071 hcX12_spelt ⟨by decide, by decide⟩ rfl rfl (Nat.le_of_ble_eq_true rfl) ⟨by decide, by decide⟩ dX12_wordOf_209) (fun u24 h25 hf => ?_)
      refine gw_bipush F rfl dX12_wordOf_212 ?_
      refine gw_iconst F dX12_wordOf_214 ?_
      refine gk_PJ F (gc_S F (S := []) (As := [sg_l u24, sg_i 101, sg_i 0]) (CX12_on h25 (by decide) (by decide) hf) kw_1075 kw_103 kw_1073 kw_1074 hcX12_on ⟨by decide, by decide⟩ rfl rfl (Nat.le_of_ble_eq_true rfl) ⟨by decide, by decide⟩ dX12_wordOf_215) (fun u26 h27 hf => ?_)
      exact gr_PJ F h27 hf (by decide) (by decide) dX12_wordOf_218
    · have hf := hf.2.2.2.2.2.2.2.2.2.2.1 (by omega)
      refine ⟨218, 219, rfl, by decide, ?_⟩
      refine gw_bipush F rfl dX12_wordOf_219 ?_
      refine gw_bipush F rfl dX12_wordOf_221 ?_
      refine gw_bipush F rfl dX12_wordOf_223 ?_
      refine gw_bipush F rfl dX12_wordOf_225 ?_
      refine gk_PJ F (gc_S F (S := []) (As := [sg_i 119, sg_i 97, sg_i 105, sg_i 116]) (CX12_spelt (by decide) (by decide) (by decide) (by decide) hf) kw_1072 kw_103 kw_1070 kw_1071 hcX12_spelt ⟨by decide, by decide⟩ rfl rfl (Nat.le_of_ble_eq_true rfl) ⟨by decide, by decide⟩ dX12_wordOf_227) (fun u28 h29 hf => ?_)
      exact gr_PJ F h29 hf (by decide) (by decide) dX12_wordOf_230
    · have hf := hf.2.2.2.2.2.2.2.2.2.2.2.1 (by omega)
      refine ⟨230, 231, rfl, by decide, ?_⟩
      refine gw_bipush F rfl dX12_wordOf_231 ?_
      refine gw_bipush F rfl dX12_wordOf_233 ?_
      refine gw_iconst F dX12_wordOf_235 ?_
      refine gw_iconst F dX12_wordOf_236 ?_
      refine gk_PJ F (gc_S F (S := []) (As := [sg_i 111, sg_i 114, sg_i 0, sg_i 0]) (CX12_spelt (by decide) (by decide) (by decide) (by decide) hf) kw_1072 kw_103 kw_1070 kw_1071 hcX12_spelt ⟨by decide, by decide⟩ rfl rfl (Nat.le_of_ble_eq_true rfl) ⟨by decide, by decide⟩ dX12_wordOf_237) (fun u30 h31 hf => ?_)
      exact gr_PJ F h31 hf (by decide) (by decide) dX12_wordOf_240
    · have hf := hf.2.2.2.2.2.2.2.2.2.2.2.2.1 (by omega)
      refine ⟨240, 241, rfl, by decide, ?_⟩
      refine gw_bipush F rfl dX12_wordOf_241 ?_
      refine gw_bipush F rfl dX12_wordOf_243 ?_
      refine gw_bipush F rfl dX12_wordOf_245 ?_
      refine gw_iconst F dX12_wordOf_247 ?_
      refine gk_PJ F (gc_S F (S := []) (As := [sg_i 97, sg_i 110, sg_i 100, sg_i 0]) (CX12_spelt (by decide) (by decide) (by decide) (by decide) hf) kw_1072 kw_103 kw_1070 kw_1071 hcX12_spelt ⟨by decide, by decide⟩ rfl rfl (Nat.le_of_ble_eq_true rfl) ⟨by decide, by decide⟩ dX12_wordOf_248) (fun u32 h33 hf => ?_)
      exact gr_PJ F h33 hf (by decide) (by decide) dX12_wordOf_251
    · have hf := hf.2.2.2.2.2.2.2.2.2.2.2.2.2.1 (by omega)
      refine ⟨251, 252, rfl, by decide, ?_⟩
      refine gw_bipush F rfl dX12_wordOf_252 ?_
      refine gw_bipush F rfl dX12_wordOf_254 ?_
      refine gw_bipush F rfl dX12_wordOf_256 ?_
      refine gw_iconst F dX12_wordOf_258 ?_
      refine gk_PJ F (gc_S F (S := []) (As := [sg_i 110, sg_i 111, sg_i 116, sg_i 0]) (CX12_spelt (by decide) (by decide) (by decide) (by decide) hf) kw_1072 kw_103 kw_1070 kw_1071 hcX12_spelt ⟨by decide, by decide⟩ rfl rfl (Nat.le_of_ble_eq_true rfl) ⟨by decide, by decide⟩ dX12_wordOf_259) (fun u34 h35 hf => ?_)
      exact gr_PJ F h35 hf (by decide) (by decide) dX12_wordOf_262
    · have hf := hf.2.2.2.2.2.2.2.2.2.2.2.2.2.2.1 (by omega)
      refine ⟨262, 263, rfl, by decide, ?_⟩
      refine gw_bipush F rfl dX12_wordOf_263 ?_
      refine gw_bipush F rfl dX12_wordOf_265 ?_
      refine gw_bipush F rfl dX12_wordOf_267 ?_
      refine gw_bipush F rfl dX12_wordOf_269 ?_
      refine gk_PJ F (gc_S F (S := []) (As := [sg_i 115, sg_i 105, sg_i 110, sg_i 103]) (CX12_spelt (by decide) (by decide) (by decide) (by decide) hf) kw_1072 kw_103 kw_1070 kw_1071 hcX12_spelt ⟨by decide, by decide⟩ rfl rfl (Nat.le_of_ble_eq_true rfl) ⟨by decide, by decide⟩ dX12_wordOf_271) (fun u36 h37 hf => ?_)
      refine gw_bipush F rfl dX12_wordOf_274 ?_
      refine gw_iconst F dX12_wordOf_276 ?_
      refine gk_PJ F (gc_S F (S := []) (As := [sg_l u36, sg_i 115, sg_i 0]) (CX12_on h37 (by decide) (by decide) hf) kw_1075 kw_103 kw_1073 kw_1074 hcX12_on ⟨by decide, by decide⟩ rfl rfl (Nat.le_of_ble_eq_true rfl) ⟨by decide, by decide⟩ dX12_wordOf_277) (fun u38 h39 hf => ?_)
      exact gr_PJ F h39 hf (by decide) (by decide) dX12_wordOf_280
    · have hf := hf.2.2.2.2.2.2.2.2.2.2.2.2.2.2.2.1 (by omega)
      refine ⟨280, 281, rfl, by decide, ?_⟩
      refine gw_bipush F rfl dX12_wordOf_281 ?_
      refine gw_bipush F rfl dX12_wordOf_283 ?_
      refine gw_bipush F rfl dX12_wordOf_285 ?_
      refine gw_bipush F rfl dX12_wordOf_287 ?_
      refine gk_PJ F (gc_S F (S := []) (As := [sg_i 98, sg_i 114, sg_i 111, sg_i 107]) (CX12_spelt (by decide) (by decide) (by decide) (by decide) hf) kw_1072 kw_103 kw_1070 kw_1071 hcX12_spelt ⟨by decide, by decide⟩ rfl rfl (Nat.le_of_ble_eq_true rfl) ⟨by decide, by decide⟩ dX12_wordOf_289) (fun u40 h41 hf => ?_)
      refine gw_bipush F rfl dX12_wordOf_292 ?_
      refine gw_bipush F rfl dX12_wordOf_294 ?_
      refine gk_PJ F (gc_S F (S := []) (As := [sg_l u40, sg_i 101, sg_i 110]) (CX12_on h41 (by decide) (by decide) hf) kw_1075 kw_103 kw_1073 kw_1074 hcX12_on ⟨by decide, by decide⟩ rfl rfl (Nat.le_of_ble_eq_true rfl) ⟨by decide, by decide⟩ dX12_wordOf_296) (fun u42 h43 hf => ?_)
      exact gr_PJ F h43 hf (by decide) (by decide) dX12_wordOf_299
    · have hf := hf.2.2.2.2.2.2.2.2.2.2.2.2.2.2.2.2.1 (by omega)
      refine ⟨299, 300, rfl, by decide, ?_⟩
      refine gw_bipush F rfl dX12_wordOf_300 ?_
      refine gw_bipush F rfl dX12_wordOf_302 ?_
      refine gw_bipush F rfl dX12_wordOf_304 ?_
      refine gw_bipush F rfl dX12_wordOf_306 ?_
      refine gk_PJ F (gc_S F (S := []) (As := [sg_i 116, sg_i 119, sg_i 105, sg_i 99]) (CX12_spelt (by decide) (by decide) (by decide) (by decide) hf) kw_1072 kw_103 kw_1070 kw_1071 hcX12_spelt ⟨by decide, by decide⟩ rfl rfl (Nat.le_of_ble_eq_true rfl) ⟨by decide, by decide⟩ dX12_wordOf_308) (fun u44 h45 hf => ?_)
      refine gw_bipush F rfl dX12_wordOf_311 ?_
      refine gw_iconst F dX12_wordOf_313 ?_
      refine gk_PJ F (gc_S F (S := []) (As := [sg_l u44, sg_i 101, sg_i 0]) (CX12_on h45 (by decide) (by decide) hf) kw_1075 kw_103 kw_1073 kw_1074 hcX12_on ⟨by decide, by decide⟩ rfl rfl (Nat.le_of_ble_eq_true rfl) ⟨by decide, by decide⟩ dX12_wordOf_314) (fun u46 h47 hf => ?_)
      exact gr_PJ F h47 hf (by decide) (by decide) dX12_wordOf_317
    · have hf := hf.2.2.2.2.2.2.2.2.2.2.2.2.2.2.2.2.2.1 (by omega)
      refine ⟨317, 318, rfl, by decide, ?_⟩
      refine gw_bipush F rfl dX12_wordOf_318 ?_
      refine gw_bipush F rfl dX12_wordOf_320 ?_
      refine gw_bipush F rfl dX12_wordOf_322 ?_
      refine gw_bipush F rfl dX12_wordOf_324 ?_
      refine gk_PJ F (gc_S F (S := []) (As := [sg_i 116, sg_i 111, sg_i 110, sg_i 101]) (CX12_spelt (by decide) (by decide) (by decide) (by decide) hf) kw_1072 kw_103 kw_1070 kw_1071 hcX12_spelt ⟨by decide, by decide⟩ rfl rfl (Nat.le_of_ble_eq_true rfl) ⟨by decide, by decide⟩ dX12_wordOf_326) (fun u48 h49 hf => ?_)
      exact gr_PJ F h49 hf (by decide) (by decide) dX12_wordOf_329
    · have hf := hf.2.2.2.2.2.2.2.2.2.2.2.2.2.2.2.2.2.2.1 (by omega)
      refine ⟨329, 330, rfl, by decide, ?_⟩
      refine gw_bipush F rfl dX12_wordOf_330 ?_
      refine gw_bipush F rfl dX12_wordOf_332 ?_
      refine gw_bipush F rfl dX12_wordOf_334 ?_
      refine gw_bipush F rfl dX12_wordOf_336 ?_
      refine gk_PJ F (gc_S F (S := []) (As := [sg_i 112, sg_i 108, sg_i 97, sg_i 99]) (CX12_spelt (by decide) (by decide) (by decide) (by decide) hf) kw_1072 kw_103 kw_1070 kw_1071 hcX12_spelt ⟨by decide, by decide⟩ rfl rfl (Nat.le_of_ble_eq_true rfl) ⟨by decide, by decide⟩ dX12_wordOf_338) (fun u50 h51 hf => ?_)
      refine gw_bipush F rfl dX12_wordOf_341 ?_
      refine gw_iconst F dX12_wordOf_343 ?_
      refine gk_PJ F (gc_S F (S := []) (As := [sg_l u50, sg_i 101, sg_i 0]) (CX12_on h51 (by decide) (by decide) hf) kw_1075 kw_103 kw_1073 kw_1074 hcX12_on ⟨by decide, by decide⟩ rfl rfl (Nat.le_of_ble_eq_true rfl) ⟨by decide, by decide⟩ dX12_wordOf_344) (fun u52 h53 hf => ?_)
      exact gr_PJ F h53 hf (by decide) (by decide) dX12_wordOf_347
    · have hf := hf.2.2.2.2.2.2.2.2.2.2.2.2.2.2.2.2.2.2.2.1 (by omega)
      refine ⟨347, 348, rfl, by decide, ?_⟩
      refine gw_bipush F rfl dX12_wordOf_348 ?_
      refine gw_bipush F rfl dX12_wordOf_350 ?_
      refine gw_bipush F rfl dX12_wordOf_352 ?_
      refine gw_bipush F rfl dX12_wordOf_354 ?_
      refine gk_PJ F (gc_S F (S := []) (As := [sg_i 114, sg_i 105, sg_i 110, sg_i 103]) (CX12_spelt (by decide) (by decide) (by decide) (by decide) hf) kw_1072 kw_103 kw_1070 kw_1071 hcX12_spelt ⟨by decide, by decide⟩ rfl rfl (Nat.le_of_ble_eq_true rfl) ⟨by decide, by decide⟩ dX12_wordOf_356) (fun u54 h55 hf => ?_)
      refine gw_bipush F rfl dX12_wordOf_359 ?_
      refine gw_iconst F dX12_wordOf_361 ?_
      refine gk_PJ F (gc_S F (S := []) (As := [sg_l u54, sg_i 115, sg_i 0]) (CX12_on h55 (by decide) (by decide) hf) kw_1075 kw_103 kw_1073 kw_1074 hcX12_on ⟨by decide, by decide⟩ rfl rfl (Nat.le_of_ble_eq_true rfl) ⟨by decide, by decide⟩ dX12_wordOf_362) (fun u56 h57 hf => ?_)
      exact gr_PJ F h57 hf (by decide) (by decide) dX12_wordOf_365
    · have hf := hf.2.2.2.2.2.2.2.2.2.2.2.2.2.2.2.2.2.2.2.2.1 (by omega)
      refine ⟨365, 366, rfl, by decide, ?_⟩
      refine gw_bipush F rfl dX12_wordOf_366 ?_
      refine gw_bipush F rfl dX12_wordOf_368 ?_
      refine gw_bipush F rfl dX12_wordOf_370 ?_
      refine gw_bipush F rfl dX12_wordOf_372 ?_
      refine gk_PJ F (gc_S F (S := []) (As := [sg_i 115, sg_i 116, sg_i 114, sg_i 97]) (CX12_spelt (by decide) (by decide) (by decide) (by decide) hf) kw_1072 kw_103 kw_1070 kw_1071 hcX12_spelt ⟨by decide, by decide⟩ rfl rfl (Nat.le_of_ble_eq_true rfl) ⟨by decide, by decide⟩ dX12_wordOf_374) (fun u58 h59 hf => ?_)
      refine gw_bipush F rfl dX12_wordOf_377 ?_
      refine gw_bipush F rfl dX12_wordOf_379 ?_
      refine gk_PJ F (gc_S F (S := []) (As := [sg_l u58, sg_i 105, sg_i 110]) (CX12_on h59 (by decide) (by decide) hf) kw_1075 kw_103 kw_1073 kw_1074 hcX12_on ⟨by decide, by decide⟩ rfl rfl (Nat.le_of_ble_eq_true rfl) ⟨by decide, by decide⟩ dX12_wordOf_381) (fun u60 h61 hf => ?_)
      exact gr_PJ F h61 hf (by decide) (by decide) dX12_wordOf_384
    · have hf := hf.2.2.2.2.2.2.2.2.2.2.2.2.2.2.2.2.2.2.2.2.2 (by omega)
      refine ⟨384, 385, rfl, by decide, ?_⟩
      refine gw_bipush F rfl dX12_wordOf_385 ?_
      refine gw_bipush F rfl dX12_wordOf_387 ?_
      refine gw_bipush F rfl dX12_wordOf_389 ?_
      refine gw_bipush F rfl dX12_wordOf_391 ?_
      refine gk_PJ F (gc_S F (S := []) (As := [sg_i 112, sg_i 108, sg_i 97, sg_i 99]) (CX12_spelt (by decide) (by decide) (by decide) (by decide) hf) kw_1072 kw_103 kw_1070 kw_1071 hcX12_spelt ⟨by decide, by decide⟩ rfl rfl (Nat.le_of_ble_eq_true rfl) ⟨by decide, by decide⟩ dX12_wordOf_393) (fun u62 h63 hf => ?_)
      refine gw_bipush F rfl dX12_wordOf_396 ?_
      refine gw_bipush F rfl dX12_wordOf_398 ?_
      refine gk_PJ F (gc_S F (S := []) (As := [sg_l u62, sg_i 101, sg_i 115]) (CX12_on h63 (by decide) (by decide) hf) kw_1075 kw_103 kw_1073 kw_1074 hcX12_on ⟨by decide, by decide⟩ rfl rfl (Nat.le_of_ble_eq_true rfl) ⟨by decide, by decide⟩ dX12_wordOf_400) (fun u64 h65 hf => ?_)
      exact gr_PJ F h65 hf (by decide) (by decide) dX12_wordOf_403

theorem dX12_isWord_0 : decode cX12_isWord 0 = .ok (.aload_n 0, 1) := by decide +kernel
theorem dX12_isWord_1 : decode cX12_isWord 1 = .ok (.getfield 106, 3) := by decide +kernel
theorem dX12_isWord_4 : decode cX12_isWord 4 = .ok (.iconst 2, 1) := by decide +kernel
theorem dX12_isWord_5 : decode cX12_isWord 5 = .ok (.if_icmp .ne 19, 3) := by decide +kernel
theorem dX12_isWord_8 : decode cX12_isWord 8 = .ok (.aload_n 0, 1) := by decide +kernel
theorem dX12_isWord_9 : decode cX12_isWord 9 = .ok (.getfield 119, 3) := by decide +kernel
theorem dX12_isWord_12 : decode cX12_isWord 12 = .ok (.iload_n 1, 1) := by decide +kernel
theorem dX12_isWord_13 : decode cX12_isWord 13 = .ok (.invokestatic 142, 3) := by decide +kernel
theorem dX12_isWord_16 : decode cX12_isWord 16 = .ok (.lcmp, 1) := by decide +kernel
theorem dX12_isWord_17 : decode cX12_isWord 17 = .ok (.ifCond .ne 7, 3) := by decide +kernel
theorem dX12_isWord_20 : decode cX12_isWord 20 = .ok (.iconst 1, 1) := by decide +kernel
theorem dX12_isWord_21 : decode cX12_isWord 21 = .ok (.goto 4, 3) := by decide +kernel
theorem dX12_isWord_24 : decode cX12_isWord 24 = .ok (.iconst 0, 1) := by decide +kernel
theorem dX12_isWord_25 : decode cX12_isWord 25 = .ok (.ireturn, 1) := by decide +kernel
theorem hcX12_isWord : yX12_isWord.cls ≠ "java/lang/invoke/MethodHandle" ∧ yX12_isWord.cls ≠ "java/lang/invoke/VarHandle" ∧ (parseMethodDescriptor yX12_isWord.desc).map (fun d => d.parameters.length) = some 1 := ⟨by decide +kernel, by decide +kernel, by decide +kernel⟩
def fX12_isWord (s0 : sg_M) (x1 : Int) (Q : Int → Prop) : Prop := (((s0 64 7) ≠ 2 → Q 0) ∧ ((s0 64 7) = 2 → fX12_wordOf x1 (fun u4 => (((sg_cmp (s0 64 12) u4) ≠ 0 → Q 0) ∧ ((sg_cmp (s0 64 12) u4) = 0 → Q 1)))))
set_option maxHeartbeats 4000000 in
set_option maxRecDepth 100000 in
theorem CX12_isWord {l : Launch} {G : sg_G} {La : sg_L} {s0 : sg_M} (hst : sg_St La) {x1 : Int} (r1 : sg_R x1) {Q : Int → Prop} (hf : fX12_isWord s0 x1 Q) : sg_C l G yX12_isWord cX12_isWord 2 (some .boolean) 3 0 0 La s0 [sg_r 64, sg_i x1] (sg_PZ La s0 Q) := by
  refine sg_body (by decide +kernel) (Nat.le_of_ble_eq_true rfl) ?_
  intro p e s m args below meth c F hnm
  unfold fX12_isWord at hf
  show sg_W p l e (sg_rm 3 0 0) s m args below meth c (MQ below (sg_Q (some .boolean) G La s.heap.size (sg_PZ La s0 Q)) args s 0 0 (sg_A La s.heap.size)) 2 G (sg_A La s.heap.size) La s0 0 0 0 [(0, sg_r 64), (1, sg_i x1)] []
  refine gw_aload_n F 0 rfl rfl (by decide) dX12_isWord_0 ?_
  refine gw_get0 F (so_64 hst) (by decide) rfl sg_lay_RX12 (j := 7) (by decide) rfl (host := "") (.inl kw_963) dX12_isWord_1 (fun h1 => ?_)
  refine gw_iconst F dX12_isWord_4 ?_
  refine gw_icmp_ne F (tgt := 24) dX12_isWord_5 (by decide) h1 (by decide) (fun c2 => ?_) (fun c2 => ?_)
  · have hf := hf.1 c2
    refine gw_iconst F dX12_isWord_24 ?_
    exact gr_PZ F (by decide) hf (by decide) (by decide) dX12_isWord_25
  · have hf := hf.2 c2
    refine gw_aload_n F 0 rfl rfl (by decide) dX12_isWord_8 ?_
    refine gw_get2 F (so_64 hst) (by decide) rfl sg_lay_RX12 (j := 12) (by decide) rfl (host := "") (.inl kw_968) dX12_isWord_9 (fun h3 => ?_)
    refine gw_iload_n F 1 rfl rfl dX12_isWord_12 ?_
    refine gk_PJ F (gc_S F (S := [sg_l (s0 64 12)]) (As := [sg_i x1]) (CX12_wordOf r1 hf) kw_1069 kw_103 kw_1067 kw_1068 hcX12_wordOf ⟨by decide, by decide⟩ rfl rfl (Nat.le_of_ble_eq_true rfl) ⟨by decide, by decide⟩ dX12_isWord_13) (fun u4 h5 hf => ?_)
    refine gw_lcmp F h3 h5 rfl dX12_isWord_16 ?_
    refine gw_if_ne F (tgt := 24) dX12_isWord_17 (by decide) (sg_cmp_R _ _) (fun c6 => ?_) (fun c6 => ?_)
    · have hf := hf.1 c6
      refine gw_iconst F dX12_isWord_24 ?_
      exact gr_PZ F (by decide) hf (by decide) (by decide) dX12_isWord_25
    · have hf := hf.2 c6
      refine gw_iconst F dX12_isWord_20 ?_
      refine gw_goto F (tgt := 25) dX12_isWord_21 (by decide) ?_
      exact gr_PZ F (by decide) hf (by decide) (by decide) dX12_isWord_25

theorem dX12_readWord_0 : decode cX12_readWord 0 = .ok (.aload_n 0, 1) := by decide +kernel
theorem dX12_readWord_1 : decode cX12_readWord 1 = .ok (.iload_n 1, 1) := by decide +kernel
theorem dX12_readWord_2 : decode cX12_readWord 2 = .ok (.invokevirtual 172, 3) := by decide +kernel
theorem dX12_readWord_5 : decode cX12_readWord 5 = .ok (.ifCond .ne 9, 3) := by decide +kernel
theorem dX12_readWord_8 : decode cX12_readWord 8 = .ok (.aload_n 0, 1) := by decide +kernel
theorem dX12_readWord_9 : decode cX12_readWord 9 = .ok (.iconst 1, 1) := by decide +kernel
theorem dX12_readWord_10 : decode cX12_readWord 10 = .ok (.invokevirtual 152, 3) := by decide +kernel
theorem dX12_readWord_13 : decode cX12_readWord 13 = .ok (.ireturn, 1) := by decide +kernel
theorem dX12_readWord_14 : decode cX12_readWord 14 = .ok (.aload_n 0, 1) := by decide +kernel
theorem dX12_readWord_15 : decode cX12_readWord 15 = .ok (.invokevirtual 162, 3) := by decide +kernel
theorem dX12_readWord_18 : decode cX12_readWord 18 = .ok (.iconst 1, 1) := by decide +kernel
theorem dX12_readWord_19 : decode cX12_readWord 19 = .ok (.ireturn, 1) := by decide +kernel
theorem hcX12_readWord : yX12_readWord.cls ≠ "java/lang/invoke/MethodHandle" ∧ yX12_readWord.cls ≠ "java/lang/invoke/VarHandle" ∧ (parseMethodDescriptor yX12_readWord.desc).map (fun d => d.parameters.length) = some 1 := ⟨by decide +kernel, by decide +kernel, by decide +kernel⟩
def fX12_readWord (s0 : sg_M) (x1 : Int) (Q : Int → sg_M → Prop) : Prop := fX12_isWord s0 x1 (fun u1 => ((u1 ≠ 0 → fX12_go s0 (fun s4 => Q 1 s4)) ∧ (u1 = 0 → fX12_bad s0 1 (fun u5 s7 => Q u5 s7))))
set_option maxHeartbeats 4000000 in
set_option maxRecDepth 100000 in
theorem CX12_readWord {l : Launch} {G : sg_G} {La : sg_L} {s0 : sg_M} (hst : sg_St La) {x1 : Int} (r1 : sg_R x1) {Q : Int → sg_M → Prop} (hf : fX12_readWord s0 x1 Q) : sg_C l G yX12_readWord cX12_readWord 2 (some .boolean) 4 0 0 La s0 [sg_r 64, sg_i x1] (sg_HZ La Q) := by
  refine sg_body (by decide +kernel) (Nat.le_of_ble_eq_true rfl) ?_
  intro p e s m args below meth c F hnm
  unfold fX12_readWord at hf
  show sg_W p l e (sg_rm 4 0 0) s m args below meth c (MQ below (sg_Q (some .boolean) G La s.heap.size (sg_HZ La Q)) args s 0 0 (sg_A La s.heap.size)) 2 G (sg_A La s.heap.size) La s0 0 0 0 [(0, sg_r 64), (1, sg_i x1)] []
  refine gw_aload_n F 0 rfl rfl (by decide) dX12_readWord_0 ?_
  refine gw_iload_n F 1 rfl rfl dX12_readWord_1 ?_
  refine gk_PZ F (gc_V F (S := []) (As := [sg_i x1]) (T := TX12) (N := 62) (CX12_isWord hst r1 hf) (so_64 hst) (by decide) rfl kw_1066 kw_103 kw_1064 kw_1065 kw_46 hcX12_isWord ⟨by decide, by decide⟩ rfl rfl (Nat.le_of_ble_eq_true rfl) ⟨by decide, by decide⟩ dX12_readWord_2) (fun u1 h2 hf => ?_)
  refine gw_if_ne F (tgt := 14) dX12_readWord_5 (by decide) (sg_B_R h2) (fun c3 => ?_) (fun c3 => ?_)
  · have hf := hf.1 c3
    refine gw_aload_n F 0 rfl rfl (by decide) dX12_readWord_14 ?_
    refine gk_HV F (gc_V F (S := []) (As := []) (T := TX12) (N := 62) (CX12_go hst hf) (so_64 hst) (by decide) rfl kw_1049 kw_103 kw_1047 kw_1048 kw_43 hcX12_go ⟨by decide, by decide⟩ rfl rfl (Nat.le_of_ble_eq_true rfl) ⟨by decide, by decide⟩ dX12_readWord_15) (fun s4 hf => ?_)
    refine gw_iconst F dX12_readWord_18 ?_
    exact gr_HZ F (by decide) hf (by decide) (by decide) dX12_readWord_19
  · have hf := hf.2 c3
    refine gw_aload_n F 0 rfl rfl (by decide) dX12_readWord_8 ?_
    refine gw_iconst F dX12_readWord_9 ?_
    refine gk_HZ F (gc_V F (S := []) (As := [sg_i 1]) (T := TX12) (N := 62) (CX12_bad hst (by decide) hf) (so_64 hst) (by decide) rfl kw_1078 kw_103 kw_1076 kw_1077 kw_47 hcX12_bad ⟨by decide, by decide⟩ rfl rfl (Nat.le_of_ble_eq_true rfl) ⟨by decide, by decide⟩ dX12_readWord_10) (fun u5 s7 h6 hf => ?_)
    exact gr_HZ F h6 hf (by decide) (by decide) dX12_readWord_13

theorem dX12_readAt_0 : decode cX12_readAt 0 = .ok (.aload_n 0, 1) := by decide +kernel
theorem dX12_readAt_1 : decode cX12_readAt 1 = .ok (.iconst 0, 1) := by decide +kernel
theorem dX12_readAt_2 : decode cX12_readAt 2 = .ok (.putfield 84, 3) := by decide +kernel
theorem dX12_readAt_5 : decode cX12_readAt 5 = .ok (.iload_n 1, 1) := by decide +kernel
theorem dX12_readAt_6 : decode cX12_readAt 6 = .ok (.ifCond .lt 20, 3) := by decide +kernel
theorem dX12_readAt_9 : decode cX12_readAt 9 = .ok (.iload_n 1, 1) := by decide +kernel
theorem dX12_readAt_10 : decode cX12_readAt 10 = .ok (.aload_n 0, 1) := by decide +kernel
theorem dX12_readAt_11 : decode cX12_readAt 11 = .ok (.getfield 347, 3) := by decide +kernel
theorem dX12_readAt_14 : decode cX12_readAt 14 = .ok (.if_icmp .ge 12, 3) := by decide +kernel
theorem dX12_readAt_17 : decode cX12_readAt 17 = .ok (.aload_n 0, 1) := by decide +kernel
theorem dX12_readAt_18 : decode cX12_readAt 18 = .ok (.getfield 68, 3) := by decide +kernel
theorem dX12_readAt_21 : decode cX12_readAt 21 = .ok (.iload_n 1, 1) := by decide +kernel
theorem dX12_readAt_22 : decode cX12_readAt 22 = .ok (.iaload, 1) := by decide +kernel
theorem dX12_readAt_23 : decode cX12_readAt 23 = .ok (.goto 4, 3) := by decide +kernel
theorem dX12_readAt_26 : decode cX12_readAt 26 = .ok (.iconst (-1), 1) := by decide +kernel
theorem dX12_readAt_27 : decode cX12_readAt 27 = .ok (.ireturn, 1) := by decide +kernel
theorem hcX12_readAt : yX12_readAt.cls ≠ "java/lang/invoke/MethodHandle" ∧ yX12_readAt.cls ≠ "java/lang/invoke/VarHandle" ∧ (parseMethodDescriptor yX12_readAt.desc).map (fun d => d.parameters.length) = some 1 := ⟨by decide +kernel, by decide +kernel, by decide +kernel⟩
def fX12_readAt (s0 : sg_M) (x1 : Int) (Q : Int → sg_M → Prop) : Prop := ∀ s1 : sg_M, s1 = sg_up s0 64 0 0 → ((x1 < 0 → Q (-1) s1) ∧ (¬ (x1 < 0) → (((s1 64 52) ≤ x1 → Q (-1) s1) ∧ (¬ ((s1 64 52) ≤ x1) → (0 ≤ x1 ∧ x1 < 40) ∧ Q (s1 84 x1) s1))))
set_option maxHeartbeats 4000000 in
set_option maxRecDepth 100000 in
theorem CX12_readAt {l : Launch} {G : sg_G} {La : sg_L} {s0 : sg_M} (hst : sg_St La) {x1 : Int} (r1 : sg_R x1) {Q : Int → sg_M → Prop} (hf : fX12_readAt s0 x1 Q) : sg_C l G yX12_readAt cX12_readAt 2 (some .int) 1 0 0 La s0 [sg_r 64, sg_i x1] (sg_HI La Q) := by
  refine sg_body (by decide +kernel) (Nat.le_of_ble_eq_true rfl) ?_
  intro p e s m args below meth c F hnm
  unfold fX12_readAt at hf
  show sg_W p l e (sg_rm 1 0 0) s m args below meth c (MQ below (sg_Q (some .int) G La s.heap.size (sg_HI La Q)) args s 0 0 (sg_A La s.heap.size)) 2 G (sg_A La s.heap.size) La s0 0 0 0 [(0, sg_r 64), (1, sg_i x1)] []
  refine gw_aload_n F 0 rfl rfl (by decide) dX12_readAt_0 ?_
  refine gw_iconst F dX12_readAt_1 ?_
  obtain ⟨s1, e2⟩ : ∃ z : sg_M, z = sg_up s0 64 0 0 := ⟨_, rfl⟩
  have hf := hf s1 e2
  refine gw_put0 F (so_64 hst) (by decide) rfl sg_lay_RX12 (j := 0) (by decide) (by decide) e2 tyX12_ok nmX12 rfl (tyX12_ok 0 (by decide)) rfl (host := "") (.inl kw_956) dX12_readAt_2 ?_
  refine gw_iload_n F 1 rfl rfl dX12_readAt_5 ?_
  refine gw_if_lt F (tgt := 26) dX12_readAt_6 (by decide) r1 (fun c3 => ?_) (fun c3 => ?_)
  · have hf := hf.1 c3
    refine gw_iconst F dX12_readAt_26 ?_
    exact gr_HI F (by decide) hf (by decide) (by decide) dX12_readAt_27
  · have hf := hf.2 c3
    refine gw_iload_n F 1 rfl rfl dX12_readAt_9 ?_
    refine gw_aload_n F 0 rfl rfl (by decide) dX12_readAt_10 ?_
    refine gw_get0 F (so_64 hst) (by decide) rfl sg_lay_RX12 (j := 52) (by decide) rfl (host := "") (.inl kw_1008) dX12_readAt_11 (fun h4 => ?_)
    refine gw_icmp_ge F (tgt := 26) dX12_readAt_14 (by decide) r1 h4 (fun c5 => ?_) (fun c5 => ?_)
    · have hf := hf.1 c5
      refine gw_iconst F dX12_readAt_26 ?_
      exact gr_HI F (by decide) hf (by decide) (by decide) dX12_readAt_27
    · have hf := hf.2 c5
      refine gw_aload_n F 0 rfl rfl (by decide) dX12_readAt_17 ?_
      refine gw_get7 F (so_64 hst) (by decide) rfl sg_lay_RX12 (j := 51) (by decide) (o1 := 84) (by first | rfl | omega) rfl (host := "") (.inl kw_1007) dX12_readAt_18 (fun h6 => ?_)
      refine gw_iload_n F 1 rfl rfl dX12_readAt_21 ?_
      obtain ⟨⟨b70, b71⟩, hf⟩ := hf
      refine gw_iald F (sa_84 hst) b70 b71 dX12_readAt_22 (fun h8 => ?_)
      refine gw_goto F (tgt := 27) dX12_readAt_23 (by decide) ?_
      exact gr_HI F h8 hf (by decide) (by decide) dX12_readAt_27

theorem dX12_come_0 : decode cX12_come 0 = .ok (.bipush 24, 2) := by decide +kernel
theorem dX12_come_2 : decode cX12_come 2 = .ok (.istore_n 2, 1) := by decide +kernel
theorem dX12_come_3 : decode cX12_come 3 = .ok (.iload_n 2, 1) := by decide +kernel
theorem dX12_come_4 : decode cX12_come 4 = .ok (.ifCond .lt 35, 3) := by decide +kernel
theorem dX12_come_7 : decode cX12_come 7 = .ok (.aload_n 0, 1) := by decide +kernel
theorem dX12_come_8 : decode cX12_come 8 = .ok (.getfield 7, 3) := by decide +kernel
theorem dX12_come_11 : decode cX12_come 11 = .ok (.aload_n 0, 1) := by decide +kernel
theorem dX12_come_12 : decode cX12_come 12 = .ok (.getfield 87, 3) := by decide +kernel
theorem dX12_come_15 : decode cX12_come 15 = .ok (.iload_n 1, 1) := by decide +kernel
theorem dX12_come_16 : decode cX12_come 16 = .ok (.iload_n 2, 1) := by decide +kernel
theorem dX12_come_17 : decode cX12_come 17 = .ok (.iushr, 1) := by decide +kernel
theorem dX12_come_18 : decode cX12_come 18 = .ok (.sipush 255, 3) := by decide +kernel
theorem dX12_come_21 : decode cX12_come 21 = .ok (.iand, 1) := by decide +kernel
theorem dX12_come_22 : decode cX12_come 22 = .ok (.iastore, 1) := by decide +kernel
theorem dX12_come_23 : decode cX12_come 23 = .ok (.aload_n 0, 1) := by decide +kernel
theorem dX12_come_24 : decode cX12_come 24 = .ok (.dup, 1) := by decide +kernel
theorem dX12_come_25 : decode cX12_come 25 = .ok (.getfield 87, 3) := by decide +kernel
theorem dX12_come_28 : decode cX12_come 28 = .ok (.iconst 1, 1) := by decide +kernel
theorem dX12_come_29 : decode cX12_come 29 = .ok (.iadd, 1) := by decide +kernel
theorem dX12_come_30 : decode cX12_come 30 = .ok (.putfield 87, 3) := by decide +kernel
theorem dX12_come_33 : decode cX12_come 33 = .ok (.iinc 2 (-8), 3) := by decide +kernel
theorem dX12_come_36 : decode cX12_come 36 = .ok (.goto (-33), 3) := by decide +kernel
theorem dX12_come_39 : decode cX12_come 39 = .ok (.return_, 1) := by decide +kernel
theorem hcX12_come : yX12_come.cls ≠ "java/lang/invoke/MethodHandle" ∧ yX12_come.cls ≠ "java/lang/invoke/VarHandle" ∧ (parseMethodDescriptor yX12_come.desc).map (fun d => d.parameters.length) = some 1 := ⟨by decide +kernel, by decide +kernel, by decide +kernel⟩
def fX12_come_L3 (x1 : Int) (Q : sg_M → Prop) : Nat → sg_M → Int → Prop
  | 0, _, _ => False
  | n_3 + 1, s_3, x2_3 => ((x2_3 < 0 → Q s_3) ∧ (¬ (x2_3 < 0) → (0 ≤ (s_3 64 2) ∧ (s_3 64 2) < 540) ∧ ∀ s5 : sg_M, s5 = sg_up s_3 65 (s_3 64 2) (sg_and (sg_ushr x1 x2_3) 255) → sg_R ((s5 64 2) + 1) ∧ ∀ s9 : sg_M, s9 = sg_up s5 64 2 ((s5 64 2) + 1) → sg_R (x2_3 - 8) ∧ (fX12_come_L3 x1 Q n_3) s9 (x2_3 - 8)))
def fX12_come (s0 : sg_M) (x1 : Int) (Q : sg_M → Prop) : Prop := (∃ n12 : Nat, fX12_come_L3 x1 Q n12 s0 24)
set_option maxHeartbeats 4000000 in
set_option maxRecDepth 100000 in
theorem CX12_come {l : Launch} {G : sg_G} {La : sg_L} {s0 : sg_M} (hst : sg_St La) {x1 : Int} (r1 : sg_R x1) {Q : sg_M → Prop} (hf : fX12_come s0 x1 Q) : sg_C l G yX12_come cX12_come 3 (none) 1 0 0 La s0 [sg_r 64, sg_i x1] (sg_HV La Q) := by
  refine sg_body (by decide +kernel) (Nat.le_of_ble_eq_true rfl) ?_
  intro p e s m args below meth c F hnm
  unfold fX12_come at hf
  show sg_W p l e (sg_rm 1 0 0) s m args below meth c (MQ below (sg_Q (none) G La s.heap.size (sg_HV La Q)) args s 0 0 (sg_A La s.heap.size)) 3 G (sg_A La s.heap.size) La s0 0 0 0 [(0, sg_r 64), (1, sg_i x1)] []
  refine gw_bipush F rfl dX12_come_0 ?_
  refine gw_istore_n F rfl (by decide) rfl dX12_come_2 ?_
  have L3 : ∀ n_3 : Nat, ∀ (s_3 : sg_M) (x2_3 : Int), sg_R x2_3 → fX12_come_L3 x1 Q n_3 s_3 x2_3 → sg_W p l e (sg_rm 1 0 0) s m args below meth c (MQ below (sg_Q (none) G La s.heap.size (sg_HV La Q)) args s 0 0 (sg_A La s.heap.size)) 3 G (sg_A La s.heap.size) La s_3 0 0 3 [(0, sg_r 64), (1, sg_i x1), (2, sg_i x2_3)] [] := by
    intro n_3
    induction n_3 with
    | zero => intro s_3 x2_3 r2_3 hf; exact hf.elim
    | succ n_3 ih =>
      intro s_3 x2_3 r2_3 hf
      unfold fX12_come_L3 at hf
      refine gw_iload_n F 2 rfl rfl dX12_come_3 ?_
      refine gw_if_lt F (tgt := 39) dX12_come_4 (by decide) r2_3 (fun c1 => ?_) (fun c1 => ?_)
      · have hf := hf.1 c1
        exact gr_HV F hf (by decide) (by decide) dX12_come_39
      · have hf := hf.2 c1
        refine gw_aload_n F 0 rfl rfl (by decide) dX12_come_7 ?_
        refine gw_get7 F (so_64 hst) (by decide) rfl sg_lay_RX12 (j := 1) (by decide) (o1 := 65) (by first | rfl | omega) rfl (host := "") (.inl kw_957) dX12_come_8 (fun h2 => ?_)
        refine gw_aload_n F 0 rfl rfl (by decide) dX12_come_11 ?_
        refine gw_get0 F (so_64 hst) (by decide) rfl sg_lay_RX12 (j := 2) (by decide) rfl (host := "") (.inl kw_958) dX12_come_12 (fun h3 => ?_)
        refine gw_iload_n F 1 rfl rfl dX12_come_15 ?_
        refine gw_iload_n F 2 rfl rfl dX12_come_16 ?_
        refine gw_iushr F rfl dX12_come_17 ?_
        refine gw_sipush F rfl dX12_come_18 ?_
        refine gw_iand F rfl dX12_come_21 ?_
        obtain ⟨⟨b40, b41⟩, hf⟩ := hf
        obtain ⟨s5, e6⟩ : ∃ z : sg_M, z = sg_up s_3 65 (s_3 64 2) (sg_and (sg_ushr x1 x2_3) 255) := ⟨_, rfl⟩
        have hf := hf s5 e6
        refine gw_iast F (sa_65 hst) b40 b41 (sg_and_R _ _) e6 dX12_come_22 ?_
        refine gw_aload_n F 0 rfl rfl (by decide) dX12_come_23 ?_
        refine gw_dup F rfl dX12_come_24 ?_
        refine gw_get0 F (so_64 hst) (by decide) rfl sg_lay_RX12 (j := 2) (by decide) rfl (host := "") (.inl kw_958) dX12_come_25 (fun h7 => ?_)
        refine gw_iconst F dX12_come_28 ?_
        refine gw_iadd F rfl dX12_come_29 ?_
        obtain ⟨g8, hf⟩ := hf
        obtain ⟨s9, e10⟩ : ∃ z : sg_M, z = sg_up s5 64 2 ((s5 64 2) + 1) := ⟨_, rfl⟩
        have hf := hf s9 e10
        refine gw_put0 F (so_64 hst) (by decide) rfl sg_lay_RX12 (j := 2) (by decide) g8 e10 tyX12_ok nmX12 rfl (tyX12_ok 2 (by decide)) rfl (host := "") (.inl kw_958) dX12_come_30 ?_
        refine gw_iinc F (z := (x2_3 - 8)) 2 rfl (by omega) (by decide) rfl dX12_come_33 ?_
        refine gw_goto F (tgt := 3) dX12_come_36 (by decide) ?_
        obtain ⟨g11, hf⟩ := hf
        refine gw_sub [1, 2, 0] rfl ?_
        exact ih s9 (x2_3 - 8) g11 hf
  obtain ⟨n12, hf⟩ := hf
  refine gw_sub [1, 2, 0] rfl ?_
  refine L3   n12 s0 24 (by decide) hf

theorem dX12_feed_0 : decode cX12_feed 0 = .ok (.aload_n 0, 1) := by decide +kernel
theorem dX12_feed_1 : decode cX12_feed 1 = .ok (.iconst 0, 1) := by decide +kernel
theorem dX12_feed_2 : decode cX12_feed 2 = .ok (.putfield 84, 3) := by decide +kernel
theorem dX12_feed_5 : decode cX12_feed 5 = .ok (.aload_n 0, 1) := by decide +kernel
theorem dX12_feed_6 : decode cX12_feed 6 = .ok (.getfield 87, 3) := by decide +kernel
theorem dX12_feed_9 : decode cX12_feed 9 = .ok (.bipush 20, 2) := by decide +kernel
theorem dX12_feed_11 : decode cX12_feed 11 = .ok (.iadd, 1) := by decide +kernel
theorem dX12_feed_12 : decode cX12_feed 12 = .ok (.sipush 540, 3) := by decide +kernel
theorem dX12_feed_15 : decode cX12_feed 15 = .ok (.if_icmp .le 5, 3) := by decide +kernel
theorem dX12_feed_18 : decode cX12_feed 18 = .ok (.iconst (-1), 1) := by decide +kernel
theorem dX12_feed_19 : decode cX12_feed 19 = .ok (.ireturn, 1) := by decide +kernel
theorem dX12_feed_20 : decode cX12_feed 20 = .ok (.aload_n 0, 1) := by decide +kernel
theorem dX12_feed_21 : decode cX12_feed 21 = .ok (.iload_n 1, 1) := by decide +kernel
theorem dX12_feed_22 : decode cX12_feed 22 = .ok (.invokevirtual 90, 3) := by decide +kernel
theorem dX12_feed_25 : decode cX12_feed 25 = .ok (.aload_n 0, 1) := by decide +kernel
theorem dX12_feed_26 : decode cX12_feed 26 = .ok (.iload_n 2, 1) := by decide +kernel
theorem dX12_feed_27 : decode cX12_feed 27 = .ok (.invokevirtual 90, 3) := by decide +kernel
theorem dX12_feed_30 : decode cX12_feed 30 = .ok (.aload_n 0, 1) := by decide +kernel
theorem dX12_feed_31 : decode cX12_feed 31 = .ok (.iload_n 3, 1) := by decide +kernel
theorem dX12_feed_32 : decode cX12_feed 32 = .ok (.invokevirtual 90, 3) := by decide +kernel
theorem dX12_feed_35 : decode cX12_feed 35 = .ok (.aload_n 0, 1) := by decide +kernel
theorem dX12_feed_36 : decode cX12_feed 36 = .ok (.iload 4, 2) := by decide +kernel
theorem dX12_feed_38 : decode cX12_feed 38 = .ok (.invokevirtual 90, 3) := by decide +kernel
theorem dX12_feed_41 : decode cX12_feed 41 = .ok (.aload_n 0, 1) := by decide +kernel
theorem dX12_feed_42 : decode cX12_feed 42 = .ok (.iload 5, 2) := by decide +kernel
theorem dX12_feed_44 : decode cX12_feed 44 = .ok (.invokevirtual 90, 3) := by decide +kernel
theorem dX12_feed_47 : decode cX12_feed 47 = .ok (.aload_n 0, 1) := by decide +kernel
theorem dX12_feed_48 : decode cX12_feed 48 = .ok (.getfield 87, 3) := by decide +kernel
theorem dX12_feed_51 : decode cX12_feed 51 = .ok (.ireturn, 1) := by decide +kernel
theorem hcX12_feed : yX12_feed.cls ≠ "java/lang/invoke/MethodHandle" ∧ yX12_feed.cls ≠ "java/lang/invoke/VarHandle" ∧ (parseMethodDescriptor yX12_feed.desc).map (fun d => d.parameters.length) = some 5 := ⟨by decide +kernel, by decide +kernel, by decide +kernel⟩
def fX12_feed (s0 : sg_M) (x1 : Int) (x2 : Int) (x3 : Int) (x4 : Int) (x5 : Int) (Q : Int → sg_M → Prop) : Prop := ∀ s1 : sg_M, s1 = sg_up s0 64 0 0 → sg_R ((s1 64 2) + 20) ∧ ((((s1 64 2) + 20) ≤ 540 → fX12_come s1 x1 (fun s6 => fX12_come s6 x2 (fun s7 => fX12_come s7 x3 (fun s8 => fX12_come s8 x4 (fun s9 => fX12_come s9 x5 (fun s10 => Q (s10 64 2) s10)))))) ∧ (¬ (((s1 64 2) + 20) ≤ 540) → Q (-1) s1))
set_option maxHeartbeats 4000000 in
set_option maxRecDepth 100000 in
theorem CX12_feed {l : Launch} {G : sg_G} {La : sg_L} {s0 : sg_M} (hst : sg_St La) {x1 : Int} (r1 : sg_R x1) {x2 : Int} (r2 : sg_R x2) {x3 : Int} (r3 : sg_R x3) {x4 : Int} (r4 : sg_R x4) {x5 : Int} (r5 : sg_R x5) {Q : Int → sg_M → Prop} (hf : fX12_feed s0 x1 x2 x3 x4 x5 Q) : sg_C l G yX12_feed cX12_feed 6 (some .int) 2 0 0 La s0 [sg_r 64, sg_i x1, sg_i x2, sg_i x3, sg_i x4, sg_i x5] (sg_HI La Q) := by
  refine sg_body (by decide +kernel) (Nat.le_of_ble_eq_true rfl) ?_
  intro p e s m args below meth c F hnm
  unfold fX12_feed at hf
  show sg_W p l e (sg_rm 2 0 0) s m args below meth c (MQ below (sg_Q (some .int) G La s.heap.size (sg_HI La Q)) args s 0 0 (sg_A La s.heap.size)) 6 G (sg_A La s.heap.size) La s0 0 0 0 [(0, sg_r 64), (1, sg_i x1), (2, sg_i x2), (3, sg_i x3), (4, sg_i x4), (5, sg_i x5)] []
  refine gw_aload_n F 0 rfl rfl (by decide) dX12_feed_0 ?_
  refine gw_iconst F dX12_feed_1 ?_
  obtain ⟨s1, e2⟩ : ∃ z : sg_M, z = sg_up s0 64 0 0 := ⟨_, rfl⟩
  have hf := hf s1 e2
  refine gw_put0 F (so_64 hst) (by decide) rfl sg_lay_RX12 (j := 0) (by decide) (by decide) e2 tyX12_ok nmX12 rfl (tyX12_ok 0 (by decide)) rfl (host := "") (.inl kw_956) dX12_feed_2 ?_
  refine gw_aload_n F 0 rfl rfl (by decide) dX12_feed_5 ?_
  refine gw_get0 F (so_64 hst) (by decide) rfl sg_lay_RX12 (j := 2) (by decide) rfl (host := "") (.inl kw_958) dX12_feed_6 (fun h3 => ?_)
  refine gw_bipush F rfl dX12_feed_9 ?_
  refine gw_iadd F rfl dX12_feed_11 ?_
  refine gw_sipush F rfl dX12_feed_12 ?_
  obtain ⟨g4, hf⟩ := hf
  refine gw_icmp_le F (tgt := 20) dX12_feed_15 (by decide) g4 (by decide) (fun c5 => ?_) (fun c5 => ?_)
  · have hf := hf.1 c5
    refine gw_aload_n F 0 rfl rfl (by decide) dX12_feed_20 ?_
    refine gw_iload_n F 1 rfl rfl dX12_feed_21 ?_
    refine gk_HV F (gc_V F (S := []) (As := [sg_i x1]) (T := TX12) (N := 62) (CX12_come hst r1 hf) (so_64 hst) (by decide) rfl kw_1029 kw_103 kw_1027 kw_1028 kw_39 hcX12_come ⟨by decide, by decide⟩ rfl rfl (Nat.le_of_ble_eq_true rfl) ⟨by decide, by decide⟩ dX12_feed_22) (fun s6 hf => ?_)
    refine gw_aload_n F 0 rfl rfl (by decide) dX12_feed_25 ?_
    refine gw_iload_n F 2 rfl rfl dX12_feed_26 ?_
    refine gk_HV F (gc_V F (S := []) (As := [sg_i x2]) (T := TX12) (N := 62) (CX12_come hst r2 hf) (so_64 hst) (by decide) rfl kw_1029 kw_103 kw_1027 kw_1028 kw_39 hcX12_come ⟨by decide, by decide⟩ rfl rfl (Nat.le_of_ble_eq_true rfl) ⟨by decide, by decide⟩ dX12_feed_27) (fun s7 hf => ?_)
    refine gw_aload_n F 0 rfl rfl (by decide) dX12_feed_30 ?_
    refine gw_iload_n F 3 rfl rfl dX12_feed_31 ?_
    refine gk_HV F (gc_V F (S := []) (As := [sg_i x3]) (T := TX12) (N := 62) (CX12_come hst r3 hf) (so_64 hst) (by decide) rfl kw_1029 kw_103 kw_1027 kw_1028 kw_39 hcX12_come ⟨by decide, by decide⟩ rfl rfl (Nat.le_of_ble_eq_true rfl) ⟨by decide, by decide⟩ dX12_feed_32) (fun s8 hf => ?_)
    refine gw_aload_n F 0 rfl rfl (by decide) dX12_feed_35 ?_
    refine gw_iload F 4 rfl dX12_feed_36 ?_
    refine gk_HV F (gc_V F (S := []) (As := [sg_i x4]) (T := TX12) (N := 62) (CX12_come hst r4 hf) (so_64 hst) (by decide) rfl kw_1029 kw_103 kw_1027 kw_1028 kw_39 hcX12_come ⟨by decide, by decide⟩ rfl rfl (Nat.le_of_ble_eq_true rfl) ⟨by decide, by decide⟩ dX12_feed_38) (fun s9 hf => ?_)
    refine gw_aload_n F 0 rfl rfl (by decide) dX12_feed_41 ?_
    refine gw_iload F 5 rfl dX12_feed_42 ?_
    refine gk_HV F (gc_V F (S := []) (As := [sg_i x5]) (T := TX12) (N := 62) (CX12_come hst r5 hf) (so_64 hst) (by decide) rfl kw_1029 kw_103 kw_1027 kw_1028 kw_39 hcX12_come ⟨by decide, by decide⟩ rfl rfl (Nat.le_of_ble_eq_true rfl) ⟨by decide, by decide⟩ dX12_feed_44) (fun s10 hf => ?_)
    refine gw_aload_n F 0 rfl rfl (by decide) dX12_feed_47 ?_
    refine gw_get0 F (so_64 hst) (by decide) rfl sg_lay_RX12 (j := 2) (by decide) rfl (host := "") (.inl kw_958) dX12_feed_48 (fun h11 => ?_)
    exact gr_HI F h11 hf (by decide) (by decide) dX12_feed_51
  · have hf := hf.2 c5
    refine gw_iconst F dX12_feed_18 ?_
    exact gr_HI F (by decide) hf (by decide) (by decide) dX12_feed_19

theorem dX12_evenAt_0 : decode cX12_evenAt 0 = .ok (.aload_n 0, 1) := by decide +kernel
theorem dX12_evenAt_1 : decode cX12_evenAt 1 = .ok (.iconst 0, 1) := by decide +kernel
theorem dX12_evenAt_2 : decode cX12_evenAt 2 = .ok (.putfield 84, 3) := by decide +kernel
theorem dX12_evenAt_5 : decode cX12_evenAt 5 = .ok (.iload_n 1, 1) := by decide +kernel
theorem dX12_evenAt_6 : decode cX12_evenAt 6 = .ok (.ifCond .lt 20, 3) := by decide +kernel
theorem dX12_evenAt_9 : decode cX12_evenAt 9 = .ok (.iload_n 1, 1) := by decide +kernel
theorem dX12_evenAt_10 : decode cX12_evenAt 10 = .ok (.aload_n 0, 1) := by decide +kernel
theorem dX12_evenAt_11 : decode cX12_evenAt 11 = .ok (.getfield 350, 3) := by decide +kernel
theorem dX12_evenAt_14 : decode cX12_evenAt 14 = .ok (.if_icmp .ge 12, 3) := by decide +kernel
theorem dX12_evenAt_17 : decode cX12_evenAt 17 = .ok (.aload_n 0, 1) := by decide +kernel
theorem dX12_evenAt_18 : decode cX12_evenAt 18 = .ok (.getfield 74, 3) := by decide +kernel
theorem dX12_evenAt_21 : decode cX12_evenAt 21 = .ok (.iload_n 1, 1) := by decide +kernel
theorem dX12_evenAt_22 : decode cX12_evenAt 22 = .ok (.iaload, 1) := by decide +kernel
theorem dX12_evenAt_23 : decode cX12_evenAt 23 = .ok (.goto 4, 3) := by decide +kernel
theorem dX12_evenAt_26 : decode cX12_evenAt 26 = .ok (.iconst (-1), 1) := by decide +kernel
theorem dX12_evenAt_27 : decode cX12_evenAt 27 = .ok (.ireturn, 1) := by decide +kernel
theorem hcX12_evenAt : yX12_evenAt.cls ≠ "java/lang/invoke/MethodHandle" ∧ yX12_evenAt.cls ≠ "java/lang/invoke/VarHandle" ∧ (parseMethodDescriptor yX12_evenAt.desc).map (fun d => d.parameters.length) = some 1 := ⟨by decide +kernel, by decide +kernel, by decide +kernel⟩
def fX12_evenAt (s0 : sg_M) (x1 : Int) (Q : Int → sg_M → Prop) : Prop := ∀ s1 : sg_M, s1 = sg_up s0 64 0 0 → ((x1 < 0 → Q (-1) s1) ∧ (¬ (x1 < 0) → (((s1 64 55) ≤ x1 → Q (-1) s1) ∧ (¬ ((s1 64 55) ≤ x1) → (0 ≤ x1 ∧ x1 < 21) ∧ Q (s1 86 x1) s1))))
set_option maxHeartbeats 4000000 in
set_option maxRecDepth 100000 in
theorem CX12_evenAt {l : Launch} {G : sg_G} {La : sg_L} {s0 : sg_M} (hst : sg_St La) {x1 : Int} (r1 : sg_R x1) {Q : Int → sg_M → Prop} (hf : fX12_evenAt s0 x1 Q) : sg_C l G yX12_evenAt cX12_evenAt 2 (some .int) 1 0 0 La s0 [sg_r 64, sg_i x1] (sg_HI La Q) := by
  refine sg_body (by decide +kernel) (Nat.le_of_ble_eq_true rfl) ?_
  intro p e s m args below meth c F hnm
  unfold fX12_evenAt at hf
  show sg_W p l e (sg_rm 1 0 0) s m args below meth c (MQ below (sg_Q (some .int) G La s.heap.size (sg_HI La Q)) args s 0 0 (sg_A La s.heap.size)) 2 G (sg_A La s.heap.size) La s0 0 0 0 [(0, sg_r 64), (1, sg_i x1)] []
  refine gw_aload_n F 0 rfl rfl (by decide) dX12_evenAt_0 ?_
  refine gw_iconst F dX12_evenAt_1 ?_
  obtain ⟨s1, e2⟩ : ∃ z : sg_M, z = sg_up s0 64 0 0 := ⟨_, rfl⟩
  have hf := hf s1 e2
  refine gw_put0 F (so_64 hst) (by decide) rfl sg_lay_RX12 (j := 0) (by decide) (by decide) e2 tyX12_ok nmX12 rfl (tyX12_ok 0 (by decide)) rfl (host := "") (.inl kw_956) dX12_evenAt_2 ?_
  refine gw_iload_n F 1 rfl rfl dX12_evenAt_5 ?_
  refine gw_if_lt F (tgt := 26) dX12_evenAt_6 (by decide) r1 (fun c3 => ?_) (fun c3 => ?_)
  · have hf := hf.1 c3
    refine gw_iconst F dX12_evenAt_26 ?_
    exact gr_HI F (by decide) hf (by decide) (by decide) dX12_evenAt_27
  · have hf := hf.2 c3
    refine gw_iload_n F 1 rfl rfl dX12_evenAt_9 ?_
    refine gw_aload_n F 0 rfl rfl (by decide) dX12_evenAt_10 ?_
    refine gw_get0 F (so_64 hst) (by decide) rfl sg_lay_RX12 (j := 55) (by decide) rfl (host := "") (.inl kw_1011) dX12_evenAt_11 (fun h4 => ?_)
    refine gw_icmp_ge F (tgt := 26) dX12_evenAt_14 (by decide) r1 h4 (fun c5 => ?_) (fun c5 => ?_)
    · have hf := hf.1 c5
      refine gw_iconst F dX12_evenAt_26 ?_
      exact gr_HI F (by decide) hf (by decide) (by decide) dX12_evenAt_27
    · have hf := hf.2 c5
      refine gw_aload_n F 0 rfl rfl (by decide) dX12_evenAt_17 ?_
      refine gw_get7 F (so_64 hst) (by decide) rfl sg_lay_RX12 (j := 54) (by decide) (o1 := 86) (by first | rfl | omega) rfl (host := "") (.inl kw_1010) dX12_evenAt_18 (fun h6 => ?_)
      refine gw_iload_n F 1 rfl rfl dX12_evenAt_21 ?_
      obtain ⟨⟨b70, b71⟩, hf⟩ := hf
      refine gw_iald F (sa_86 hst) b70 b71 dX12_evenAt_22 (fun h8 => ?_)
      refine gw_goto F (tgt := 27) dX12_evenAt_23 (by decide) ?_
      exact gr_HI F h8 hf (by decide) (by decide) dX12_evenAt_27

theorem dX12_fault_0 : decode cX12_fault 0 = .ok (.aload_n 0, 1) := by decide +kernel
theorem dX12_fault_1 : decode cX12_fault 1 = .ok (.iconst 0, 1) := by decide +kernel
theorem dX12_fault_2 : decode cX12_fault 2 = .ok (.putfield 84, 3) := by decide +kernel
theorem dX12_fault_5 : decode cX12_fault 5 = .ok (.aload_n 0, 1) := by decide +kernel
theorem dX12_fault_6 : decode cX12_fault 6 = .ok (.getfield 146, 3) := by decide +kernel
theorem dX12_fault_9 : decode cX12_fault 9 = .ok (.ireturn, 1) := by decide +kernel
theorem hcX12_fault : yX12_fault.cls ≠ "java/lang/invoke/MethodHandle" ∧ yX12_fault.cls ≠ "java/lang/invoke/VarHandle" ∧ (parseMethodDescriptor yX12_fault.desc).map (fun d => d.parameters.length) = some 0 := ⟨by decide +kernel, by decide +kernel, by decide +kernel⟩
def fX12_fault (s0 : sg_M) (Q : Int → sg_M → Prop) : Prop := ∀ s1 : sg_M, s1 = sg_up s0 64 0 0 → Q (s1 64 10) s1
set_option maxHeartbeats 4000000 in
set_option maxRecDepth 100000 in
theorem CX12_fault {l : Launch} {G : sg_G} {La : sg_L} {s0 : sg_M} (hst : sg_St La) {Q : Int → sg_M → Prop} (hf : fX12_fault s0 Q) : sg_C l G yX12_fault cX12_fault 1 (some .int) 1 0 0 La s0 [sg_r 64] (sg_HI La Q) := by
  refine sg_body (by decide +kernel) (Nat.le_of_ble_eq_true rfl) ?_
  intro p e s m args below meth c F hnm
  unfold fX12_fault at hf
  show sg_W p l e (sg_rm 1 0 0) s m args below meth c (MQ below (sg_Q (some .int) G La s.heap.size (sg_HI La Q)) args s 0 0 (sg_A La s.heap.size)) 1 G (sg_A La s.heap.size) La s0 0 0 0 [(0, sg_r 64)] []
  refine gw_aload_n F 0 rfl rfl (by decide) dX12_fault_0 ?_
  refine gw_iconst F dX12_fault_1 ?_
  obtain ⟨s1, e2⟩ : ∃ z : sg_M, z = sg_up s0 64 0 0 := ⟨_, rfl⟩
  have hf := hf s1 e2
  refine gw_put0 F (so_64 hst) (by decide) rfl sg_lay_RX12 (j := 0) (by decide) (by decide) e2 tyX12_ok nmX12 rfl (tyX12_ok 0 (by decide)) rfl (host := "") (.inl kw_956) dX12_fault_2 ?_
  refine gw_aload_n F 0 rfl rfl (by decide) dX12_fault_5 ?_
  refine gw_get0 F (so_64 hst) (by decide) rfl sg_lay_RX12 (j := 10) (by decide) rfl (host := "") (.inl kw_966) dX12_fault_6 (fun h3 => ?_)
  exact gr_HI F h3 hf (by decide) (by decide) dX12_fault_9

theorem dX12_lays_0 : decode cX12_lays 0 = .ok (.iconst 4, 1) := by decide +kernel
theorem dX12_lays_1 : decode cX12_lays 1 = .ok (.aload_n 0, 1) := by decide +kernel
theorem dX12_lays_2 : decode cX12_lays 2 = .ok (.getfield 362, 3) := by decide +kernel
theorem dX12_lays_5 : decode cX12_lays 5 = .ok (.imul, 1) := by decide +kernel
theorem dX12_lays_6 : decode cX12_lays 6 = .ok (.istore 5, 2) := by decide +kernel
theorem dX12_lays_8 : decode cX12_lays 8 = .ok (.aload_n 0, 1) := by decide +kernel
theorem dX12_lays_9 : decode cX12_lays 9 = .ok (.getfield 81, 3) := by decide +kernel
theorem dX12_lays_12 : decode cX12_lays 12 = .ok (.iload 5, 2) := by decide +kernel
theorem dX12_lays_14 : decode cX12_lays 14 = .ok (.iload_n 1, 1) := by decide +kernel
theorem dX12_lays_15 : decode cX12_lays 15 = .ok (.iastore, 1) := by decide +kernel
theorem dX12_lays_16 : decode cX12_lays 16 = .ok (.aload_n 0, 1) := by decide +kernel
theorem dX12_lays_17 : decode cX12_lays 17 = .ok (.getfield 81, 3) := by decide +kernel
theorem dX12_lays_20 : decode cX12_lays 20 = .ok (.iload 5, 2) := by decide +kernel
theorem dX12_lays_22 : decode cX12_lays 22 = .ok (.iconst 1, 1) := by decide +kernel
theorem dX12_lays_23 : decode cX12_lays 23 = .ok (.iadd, 1) := by decide +kernel
theorem dX12_lays_24 : decode cX12_lays 24 = .ok (.iload_n 2, 1) := by decide +kernel
theorem dX12_lays_25 : decode cX12_lays 25 = .ok (.iastore, 1) := by decide +kernel
theorem dX12_lays_26 : decode cX12_lays 26 = .ok (.aload_n 0, 1) := by decide +kernel
theorem dX12_lays_27 : decode cX12_lays 27 = .ok (.getfield 81, 3) := by decide +kernel
theorem dX12_lays_30 : decode cX12_lays 30 = .ok (.iload 5, 2) := by decide +kernel
theorem dX12_lays_32 : decode cX12_lays 32 = .ok (.iconst 2, 1) := by decide +kernel
theorem dX12_lays_33 : decode cX12_lays 33 = .ok (.iadd, 1) := by decide +kernel
theorem dX12_lays_34 : decode cX12_lays 34 = .ok (.iload_n 3, 1) := by decide +kernel
theorem dX12_lays_35 : decode cX12_lays 35 = .ok (.iastore, 1) := by decide +kernel
theorem dX12_lays_36 : decode cX12_lays 36 = .ok (.aload_n 0, 1) := by decide +kernel
theorem dX12_lays_37 : decode cX12_lays 37 = .ok (.getfield 81, 3) := by decide +kernel
theorem dX12_lays_40 : decode cX12_lays 40 = .ok (.iload 5, 2) := by decide +kernel
theorem dX12_lays_42 : decode cX12_lays 42 = .ok (.iconst 3, 1) := by decide +kernel
theorem dX12_lays_43 : decode cX12_lays 43 = .ok (.iadd, 1) := by decide +kernel
theorem dX12_lays_44 : decode cX12_lays 44 = .ok (.iload 4, 2) := by decide +kernel
theorem dX12_lays_46 : decode cX12_lays 46 = .ok (.iastore, 1) := by decide +kernel
theorem dX12_lays_47 : decode cX12_lays 47 = .ok (.aload_n 0, 1) := by decide +kernel
theorem dX12_lays_48 : decode cX12_lays 48 = .ok (.dup, 1) := by decide +kernel
theorem dX12_lays_49 : decode cX12_lays 49 = .ok (.getfield 362, 3) := by decide +kernel
theorem dX12_lays_52 : decode cX12_lays 52 = .ok (.iconst 1, 1) := by decide +kernel
theorem dX12_lays_53 : decode cX12_lays 53 = .ok (.iadd, 1) := by decide +kernel
theorem dX12_lays_54 : decode cX12_lays 54 = .ok (.putfield 362, 3) := by decide +kernel
theorem dX12_lays_57 : decode cX12_lays 57 = .ok (.aload_n 0, 1) := by decide +kernel
theorem dX12_lays_58 : decode cX12_lays 58 = .ok (.getfield 362, 3) := by decide +kernel
theorem dX12_lays_61 : decode cX12_lays 61 = .ok (.iconst 1, 1) := by decide +kernel
theorem dX12_lays_62 : decode cX12_lays 62 = .ok (.isub, 1) := by decide +kernel
theorem dX12_lays_63 : decode cX12_lays 63 = .ok (.ireturn, 1) := by decide +kernel
theorem hcX12_lays : yX12_lays.cls ≠ "java/lang/invoke/MethodHandle" ∧ yX12_lays.cls ≠ "java/lang/invoke/VarHandle" ∧ (parseMethodDescriptor yX12_lays.desc).map (fun d => d.parameters.length) = some 4 := ⟨by decide +kernel, by decide +kernel, by decide +kernel⟩
def fX12_lays (s0 : sg_M) (x1 : Int) (x2 : Int) (x3 : Int) (x4 : Int) (Q : Int → sg_M → Prop) : Prop := (0 ≤ (4 * (s0 64 58)) ∧ (4 * (s0 64 58)) < 240) ∧ ∀ s4 : sg_M, s4 = sg_up s0 87 (4 * (s0 64 58)) x1 → (0 ≤ ((4 * (s0 64 58)) + 1) ∧ ((4 * (s0 64 58)) + 1) < 240) ∧ ∀ s8 : sg_M, s8 = sg_up s4 87 ((4 * (s0 64 58)) + 1) x2 → (0 ≤ ((4 * (s0 64 58)) + 2) ∧ ((4 * (s0 64 58)) + 2) < 240) ∧ ∀ s12 : sg_M, s12 = sg_up s8 87 ((4 * (s0 64 58)) + 2) x3 → (0 ≤ ((4 * (s0 64 58)) + 3) ∧ ((4 * (s0 64 58)) + 3) < 240) ∧ ∀ s16 : sg_M, s16 = sg_up s12 87 ((4 * (s0 64 58)) + 3) x4 → sg_R ((s16 64 58) + 1) ∧ ∀ s20 : sg_M, s20 = sg_up s16 64 58 ((s16 64 58) + 1) → sg_R ((s20 64 58) - 1) ∧ Q ((s20 64 58) - 1) s20
set_option maxHeartbeats 4000000 in
set_option maxRecDepth 100000 in
theorem CX12_lays {l : Launch} {G : sg_G} {La : sg_L} {s0 : sg_M} (hst : sg_St La) {x1 : Int} (r1 : sg_R x1) {x2 : Int} (r2 : sg_R x2) {x3 : Int} (r3 : sg_R x3) {x4 : Int} (r4 : sg_R x4) {Q : Int → sg_M → Prop} (hf : fX12_lays s0 x1 x2 x3 x4 Q) : sg_C l G yX12_lays cX12_lays 6 (some .int) 1 0 0 La s0 [sg_r 64, sg_i x1, sg_i x2, sg_i x3, sg_i x4] (sg_HI La Q) := by
  refine sg_body (by decide +kernel) (Nat.le_of_ble_eq_true rfl) ?_
  intro p e s m args below meth c F hnm
  unfold fX12_lays at hf
  show sg_W p l e (sg_rm 1 0 0) s m args below meth c (MQ below (sg_Q (some .int) G La s.heap.size (sg_HI La Q)) args s 0 0 (sg_A La s.heap.size)) 6 G (sg_A La s.heap.size) La s0 0 0 0 [(0, sg_r 64), (1, sg_i x1), (2, sg_i x2), (3, sg_i x3), (4, sg_i x4)] []
  refine gw_iconst F dX12_lays_0 ?_
  refine gw_aload_n F 0 rfl rfl (by decide) dX12_lays_1 ?_
  refine gw_get0 F (so_64 hst) (by decide) rfl sg_lay_RX12 (j := 58) (by decide) rfl (host := "") (.inl kw_1014) dX12_lays_2 (fun h1 => ?_)
  refine gw_imul F rfl dX12_lays_5 ?_
  refine gw_istore F (by decide) rfl dX12_lays_6 ?_
  refine gw_aload_n F 1 rfl rfl (by decide) dX12_lays_8 ?_
  refine gw_get7 F (so_64 hst) (by decide) rfl sg_lay_RX12 (j := 57) (by decide) (o1 := 87) (by first | rfl | omega) rfl (host := "") (.inl kw_1013) dX12_lays_9 (fun h2 => ?_)
  refine gw_iload F 0 rfl dX12_lays_12 ?_
  refine gw_iload_n F 2 rfl rfl dX12_lays_14 ?_
  obtain ⟨⟨b30, b31⟩, hf⟩ := hf
  obtain ⟨s4, e5⟩ : ∃ z : sg_M, z = sg_up s0 87 (4 * (s0 64 58)) x1 := ⟨_, rfl⟩
  have hf := hf s4 e5
  refine gw_iast F (sa_87 hst) b30 b31 r1 e5 dX12_lays_15 ?_
  refine gw_aload_n F 1 rfl rfl (by decide) dX12_lays_16 ?_
  refine gw_get7 F (so_64 hst) (by decide) rfl sg_lay_RX12 (j := 57) (by decide) (o1 := 87) (by first | rfl | omega) rfl (host := "") (.inl kw_1013) dX12_lays_17 (fun h6 => ?_)
  refine gw_iload F 0 rfl dX12_lays_20 ?_
  refine gw_iconst F dX12_lays_22 ?_
  refine gw_iadd F rfl dX12_lays_23 ?_
  refine gw_iload_n F 3 rfl rfl dX12_lays_24 ?_
  obtain ⟨⟨b70, b71⟩, hf⟩ := hf
  obtain ⟨s8, e9⟩ : ∃ z : sg_M, z = sg_up s4 87 ((4 * (s0 64 58)) + 1) x2 := ⟨_, rfl⟩
  have hf := hf s8 e9
  refine gw_iast F (sa_87 hst) b70 b71 r2 e9 dX12_lays_25 ?_
  refine gw_aload_n F 1 rfl rfl (by decide) dX12_lays_26 ?_
  refine gw_get7 F (so_64 hst) (by decide) rfl sg_lay_RX12 (j := 57) (by decide) (o1 := 87) (by first | rfl | omega) rfl (host := "") (.inl kw_1013) dX12_lays_27 (fun h10 => ?_)
  refine gw_iload F 0 rfl dX12_lays_30 ?_
  refine gw_iconst F dX12_lays_32 ?_
  refine gw_iadd F rfl dX12_lays_33 ?_
  refine gw_iload_n F 4 rfl rfl dX12_lays_34 ?_
  obtain ⟨⟨b110, b111⟩, hf⟩ := hf
  obtain ⟨s12, e13⟩ : ∃ z : sg_M, z = sg_up s8 87 ((4 * (s0 64 58)) + 2) x3 := ⟨_, rfl⟩
  have hf := hf s12 e13
  refine gw_iast F (sa_87 hst) b110 b111 r3 e13 dX12_lays_35 ?_
  refine gw_aload_n F 1 rfl rfl (by decide) dX12_lays_36 ?_
  refine gw_get7 F (so_64 hst) (by decide) rfl sg_lay_RX12 (j := 57) (by decide) (o1 := 87) (by first | rfl | omega) rfl (host := "") (.inl kw_1013) dX12_lays_37 (fun h14 => ?_)
  refine gw_iload F 0 rfl dX12_lays_40 ?_
  refine gw_iconst F dX12_lays_42 ?_
  refine gw_iadd F rfl dX12_lays_43 ?_
  refine gw_iload F 5 rfl dX12_lays_44 ?_
  obtain ⟨⟨b150, b151⟩, hf⟩ := hf
  obtain ⟨s16, e17⟩ : ∃ z : sg_M, z = sg_up s12 87 ((4 * (s0 64 58)) + 3) x4 := ⟨_, rfl⟩
  have hf := hf s16 e17
  refine gw_iast F (sa_87 hst) b150 b151 r4 e17 dX12_lays_46 ?_
  refine gw_aload_n F 1 rfl rfl (by decide) dX12_lays_47 ?_
  refine gw_dup F rfl dX12_lays_48 ?_
  refine gw_get0 F (so_64 hst) (by decide) rfl sg_lay_RX12 (j := 58) (by decide) rfl (host := "") (.inl kw_1014) dX12_lays_49 (fun h18 => ?_)
  refine gw_iconst F dX12_lays_52 ?_
  refine gw_iadd F rfl dX12_lays_53 ?_
  obtain ⟨g19, hf⟩ := hf
  obtain ⟨s20, e21⟩ : ∃ z : sg_M, z = sg_up s16 64 58 ((s16 64 58) + 1) := ⟨_, rfl⟩
  have hf := hf s20 e21
  refine gw_put0 F (so_64 hst) (by decide) rfl sg_lay_RX12 (j := 58) (by decide) g19 e21 tyX12_ok nmX12 rfl (tyX12_ok 58 (by decide)) rfl (host := "") (.inl kw_1014) dX12_lays_54 ?_
  refine gw_aload_n F 1 rfl rfl (by decide) dX12_lays_57 ?_
  refine gw_get0 F (so_64 hst) (by decide) rfl sg_lay_RX12 (j := 58) (by decide) rfl (host := "") (.inl kw_1014) dX12_lays_58 (fun h22 => ?_)
  refine gw_iconst F dX12_lays_61 ?_
  refine gw_isub F rfl dX12_lays_62 ?_
  obtain ⟨g23, hf⟩ := hf
  exact gr_HI F g23 hf (by decide) (by decide) dX12_lays_63

theorem dX12_cut_0 : decode cX12_cut 0 = .ok (.iload_n 0, 1) := by decide +kernel
theorem dX12_cut_1 : decode cX12_cut 1 = .ok (.sipush 9999, 3) := by decide +kernel
theorem dX12_cut_4 : decode cX12_cut 4 = .ok (.if_icmp .le 9, 3) := by decide +kernel
theorem dX12_cut_7 : decode cX12_cut 7 = .ok (.sipush 9999, 3) := by decide +kernel
theorem dX12_cut_10 : decode cX12_cut 10 = .ok (.goto 17, 3) := by decide +kernel
theorem dX12_cut_13 : decode cX12_cut 13 = .ok (.iload_n 0, 1) := by decide +kernel
theorem dX12_cut_14 : decode cX12_cut 14 = .ok (.sipush (-9999), 3) := by decide +kernel
theorem dX12_cut_17 : decode cX12_cut 17 = .ok (.if_icmp .ge 9, 3) := by decide +kernel
theorem dX12_cut_20 : decode cX12_cut 20 = .ok (.sipush (-9999), 3) := by decide +kernel
theorem dX12_cut_23 : decode cX12_cut 23 = .ok (.goto 4, 3) := by decide +kernel
theorem dX12_cut_26 : decode cX12_cut 26 = .ok (.iload_n 0, 1) := by decide +kernel
theorem dX12_cut_27 : decode cX12_cut 27 = .ok (.ireturn, 1) := by decide +kernel
theorem hcX12_cut : yX12_cut.cls ≠ "java/lang/invoke/MethodHandle" ∧ yX12_cut.cls ≠ "java/lang/invoke/VarHandle" ∧ (parseMethodDescriptor yX12_cut.desc).map (fun d => d.parameters.length) = some 1 := ⟨by decide +kernel, by decide +kernel, by decide +kernel⟩
def fX12_cut (x0 : Int) (Q : Int → Prop) : Prop := ((x0 ≤ 9999 → (((-9999) ≤ x0 → Q x0) ∧ (¬ ((-9999) ≤ x0) → Q (-9999)))) ∧ (¬ (x0 ≤ 9999) → Q 9999))
set_option maxHeartbeats 4000000 in
set_option maxRecDepth 100000 in
theorem CX12_cut {l : Launch} {G : sg_G} {La : sg_L} {s0 : sg_M} {x0 : Int} (r0 : sg_R x0) {Q : Int → Prop} (hf : fX12_cut x0 Q) : sg_C l G yX12_cut cX12_cut 1 (some .int) 1 0 0 La s0 [sg_i x0] (sg_PI La s0 Q) := by
  refine sg_body (by decide +kernel) (Nat.le_of_ble_eq_true rfl) ?_
  intro p e s m args below meth c F hnm
  unfold fX12_cut at hf
  show sg_W p l e (sg_rm 1 0 0) s m args below meth c (MQ below (sg_Q (some .int) G La s.heap.size (sg_PI La s0 Q)) args s 0 0 (sg_A La s.heap.size)) 1 G (sg_A La s.heap.size) La s0 0 0 0 [(0, sg_i x0)] []
  refine gw_iload_n F 0 rfl rfl dX12_cut_0 ?_
  refine gw_sipush F rfl dX12_cut_1 ?_
  refine gw_icmp_le F (tgt := 13) dX12_cut_4 (by decide) r0 (by decide) (fun c1 => ?_) (fun c1 => ?_)
  · have hf := hf.1 c1
    refine gw_iload_n F 0 rfl rfl dX12_cut_13 ?_
    refine gw_sipush F rfl dX12_cut_14 ?_
    refine gw_icmp_ge F (tgt := 26) dX12_cut_17 (by decide) r0 (by decide) (fun c2 => ?_) (fun c2 => ?_)
    · have hf := hf.1 c2
      refine gw_iload_n F 0 rfl rfl dX12_cut_26 ?_
      exact gr_PI F r0 hf (by decide) (by decide) dX12_cut_27
    · have hf := hf.2 c2
      refine gw_sipush F rfl dX12_cut_20 ?_
      refine gw_goto F (tgt := 27) dX12_cut_23 (by decide) ?_
      exact gr_PI F (by decide) hf (by decide) (by decide) dX12_cut_27
  · have hf := hf.2 c1
    refine gw_sipush F rfl dX12_cut_7 ?_
    refine gw_goto F (tgt := 27) dX12_cut_10 (by decide) ?_
    exact gr_PI F (by decide) hf (by decide) (by decide) dX12_cut_27

theorem dX12_tremble_0 : decode cX12_tremble 0 = .ok (.aload_n 0, 1) := by decide +kernel
theorem dX12_tremble_1 : decode cX12_tremble 1 = .ok (.iconst 0, 1) := by decide +kernel
theorem dX12_tremble_2 : decode cX12_tremble 2 = .ok (.putfield 84, 3) := by decide +kernel
theorem dX12_tremble_5 : decode cX12_tremble 5 = .ok (.aload_n 0, 1) := by decide +kernel
theorem dX12_tremble_6 : decode cX12_tremble 6 = .ok (.invokevirtual 175, 3) := by decide +kernel
theorem dX12_tremble_9 : decode cX12_tremble 9 = .ok (.iload_n 1, 1) := by decide +kernel
theorem dX12_tremble_10 : decode cX12_tremble 10 = .ok (.iload_n 2, 1) := by decide +kernel
theorem dX12_tremble_11 : decode cX12_tremble 11 = .ok (.invokestatic 232, 3) := by decide +kernel
theorem dX12_tremble_14 : decode cX12_tremble 14 = .ok (.ifCond .eq 14, 3) := by decide +kernel
theorem dX12_tremble_17 : decode cX12_tremble 17 = .ok (.iload_n 3, 1) := by decide +kernel
theorem dX12_tremble_18 : decode cX12_tremble 18 = .ok (.iconst 0, 1) := by decide +kernel
theorem dX12_tremble_19 : decode cX12_tremble 19 = .ok (.sipush 999, 3) := by decide +kernel
theorem dX12_tremble_22 : decode cX12_tremble 22 = .ok (.invokestatic 155, 3) := by decide +kernel
theorem dX12_tremble_25 : decode cX12_tremble 25 = .ok (.ifCond .ne 5, 3) := by decide +kernel
theorem dX12_tremble_28 : decode cX12_tremble 28 = .ok (.iconst (-1), 1) := by decide +kernel
theorem dX12_tremble_29 : decode cX12_tremble 29 = .ok (.ireturn, 1) := by decide +kernel
theorem dX12_tremble_30 : decode cX12_tremble 30 = .ok (.aload_n 0, 1) := by decide +kernel
theorem dX12_tremble_31 : decode cX12_tremble 31 = .ok (.iload_n 1, 1) := by decide +kernel
theorem dX12_tremble_32 : decode cX12_tremble 32 = .ok (.iload_n 2, 1) := by decide +kernel
theorem dX12_tremble_33 : decode cX12_tremble 33 = .ok (.iload_n 3, 1) := by decide +kernel
theorem dX12_tremble_34 : decode cX12_tremble 34 = .ok (.isub, 1) := by decide +kernel
theorem dX12_tremble_35 : decode cX12_tremble 35 = .ok (.invokestatic 311, 3) := by decide +kernel
theorem dX12_tremble_38 : decode cX12_tremble 38 = .ok (.invokevirtual 317, 3) := by decide +kernel
theorem dX12_tremble_41 : decode cX12_tremble 41 = .ok (.istore 4, 2) := by decide +kernel
theorem dX12_tremble_43 : decode cX12_tremble 43 = .ok (.aload_n 0, 1) := by decide +kernel
theorem dX12_tremble_44 : decode cX12_tremble 44 = .ok (.iload_n 1, 1) := by decide +kernel
theorem dX12_tremble_45 : decode cX12_tremble 45 = .ok (.iload_n 2, 1) := by decide +kernel
theorem dX12_tremble_46 : decode cX12_tremble 46 = .ok (.invokevirtual 317, 3) := by decide +kernel
theorem dX12_tremble_49 : decode cX12_tremble 49 = .ok (.istore 5, 2) := by decide +kernel
theorem dX12_tremble_51 : decode cX12_tremble 51 = .ok (.aload_n 0, 1) := by decide +kernel
theorem dX12_tremble_52 : decode cX12_tremble 52 = .ok (.iload_n 1, 1) := by decide +kernel
theorem dX12_tremble_53 : decode cX12_tremble 53 = .ok (.iload_n 2, 1) := by decide +kernel
theorem dX12_tremble_54 : decode cX12_tremble 54 = .ok (.iload_n 3, 1) := by decide +kernel
theorem dX12_tremble_55 : decode cX12_tremble 55 = .ok (.iadd, 1) := by decide +kernel
theorem dX12_tremble_56 : decode cX12_tremble 56 = .ok (.invokestatic 311, 3) := by decide +kernel
theorem dX12_tremble_59 : decode cX12_tremble 59 = .ok (.invokevirtual 317, 3) := by decide +kernel
theorem dX12_tremble_62 : decode cX12_tremble 62 = .ok (.istore 6, 2) := by decide +kernel
theorem dX12_tremble_64 : decode cX12_tremble 64 = .ok (.iload 4, 2) := by decide +kernel
theorem dX12_tremble_66 : decode cX12_tremble 66 = .ok (.ifCond .eq 13, 3) := by decide +kernel
theorem dX12_tremble_69 : decode cX12_tremble 69 = .ok (.iload 5, 2) := by decide +kernel
theorem dX12_tremble_71 : decode cX12_tremble 71 = .ok (.ifCond .eq 8, 3) := by decide +kernel
theorem dX12_tremble_74 : decode cX12_tremble 74 = .ok (.iload 6, 2) := by decide +kernel
theorem dX12_tremble_76 : decode cX12_tremble 76 = .ok (.ifCond .ne 5, 3) := by decide +kernel
theorem dX12_tremble_79 : decode cX12_tremble 79 = .ok (.iconst (-1), 1) := by decide +kernel
theorem dX12_tremble_80 : decode cX12_tremble 80 = .ok (.ireturn, 1) := by decide +kernel
theorem dX12_tremble_81 : decode cX12_tremble 81 = .ok (.iload 4, 2) := by decide +kernel
theorem dX12_tremble_83 : decode cX12_tremble 83 = .ok (.iload 5, 2) := by decide +kernel
theorem dX12_tremble_85 : decode cX12_tremble 85 = .ok (.if_icmp .ge 8, 3) := by decide +kernel
theorem dX12_tremble_88 : decode cX12_tremble 88 = .ok (.iload 4, 2) := by decide +kernel
theorem dX12_tremble_90 : decode cX12_tremble 90 = .ok (.goto 5, 3) := by decide +kernel
theorem dX12_tremble_93 : decode cX12_tremble 93 = .ok (.iload 5, 2) := by decide +kernel
theorem dX12_tremble_95 : decode cX12_tremble 95 = .ok (.istore 7, 2) := by decide +kernel
theorem dX12_tremble_97 : decode cX12_tremble 97 = .ok (.iload 4, 2) := by decide +kernel
theorem dX12_tremble_99 : decode cX12_tremble 99 = .ok (.iload 5, 2) := by decide +kernel
theorem dX12_tremble_101 : decode cX12_tremble 101 = .ok (.if_icmp .ge 8, 3) := by decide +kernel
theorem dX12_tremble_104 : decode cX12_tremble 104 = .ok (.iload 5, 2) := by decide +kernel
theorem dX12_tremble_106 : decode cX12_tremble 106 = .ok (.goto 5, 3) := by decide +kernel
theorem dX12_tremble_109 : decode cX12_tremble 109 = .ok (.iload 4, 2) := by decide +kernel
theorem dX12_tremble_111 : decode cX12_tremble 111 = .ok (.istore 8, 2) := by decide +kernel
theorem dX12_tremble_113 : decode cX12_tremble 113 = .ok (.iload 6, 2) := by decide +kernel
theorem dX12_tremble_115 : decode cX12_tremble 115 = .ok (.iload 7, 2) := by decide +kernel
theorem dX12_tremble_117 : decode cX12_tremble 117 = .ok (.if_icmp .ge 7, 3) := by decide +kernel
theorem dX12_tremble_120 : decode cX12_tremble 120 = .ok (.iload 6, 2) := by decide +kernel
theorem dX12_tremble_122 : decode cX12_tremble 122 = .ok (.istore 7, 2) := by decide +kernel
theorem dX12_tremble_124 : decode cX12_tremble 124 = .ok (.iload 6, 2) := by decide +kernel
theorem dX12_tremble_126 : decode cX12_tremble 126 = .ok (.iload 8, 2) := by decide +kernel
theorem dX12_tremble_128 : decode cX12_tremble 128 = .ok (.if_icmp .le 8, 3) := by decide +kernel
theorem dX12_tremble_131 : decode cX12_tremble 131 = .ok (.iload 6, 2) := by decide +kernel
theorem dX12_tremble_133 : decode cX12_tremble 133 = .ok (.goto 5, 3) := by decide +kernel
theorem dX12_tremble_136 : decode cX12_tremble 136 = .ok (.iload 8, 2) := by decide +kernel
theorem dX12_tremble_138 : decode cX12_tremble 138 = .ok (.iload 7, 2) := by decide +kernel
theorem dX12_tremble_140 : decode cX12_tremble 140 = .ok (.isub, 1) := by decide +kernel
theorem dX12_tremble_141 : decode cX12_tremble 141 = .ok (.ireturn, 1) := by decide +kernel
theorem hcX12_tremble : yX12_tremble.cls ≠ "java/lang/invoke/MethodHandle" ∧ yX12_tremble.cls ≠ "java/lang/invoke/VarHandle" ∧ (parseMethodDescriptor yX12_tremble.desc).map (fun d => d.parameters.length) = some 3 := ⟨by decide +kernel, by decide +kernel, by decide +kernel⟩
def fX12_tremble_j124 (u22 : Int) (s24 : sg_M) (y0_111 : Int) (Q : Int → sg_M → Prop) (x7_124 : Int) : Prop := ((u22 ≤ y0_111 → sg_R (y0_111 - x7_124) ∧ Q (y0_111 - x7_124) s24) ∧ (¬ (u22 ≤ y0_111) → sg_R (u22 - x7_124) ∧ Q (u22 - x7_124) s24))
def fX12_tremble_j111 (u22 : Int) (s24 : sg_M) (y0_95 : Int) (Q : Int → sg_M → Prop) (y0_111 : Int) : Prop := ((y0_95 ≤ u22 → (fX12_tremble_j124 u22 s24 y0_111 Q) y0_95) ∧ (¬ (y0_95 ≤ u22) → (fX12_tremble_j124 u22 s24 y0_111 Q) u22))
def fX12_tremble_j95 (u13 : Int) (u16 : Int) (u22 : Int) (s24 : sg_M) (Q : Int → sg_M → Prop) (y0_95 : Int) : Prop := ((u16 ≤ u13 → (fX12_tremble_j111 u22 s24 y0_95 Q) u13) ∧ (¬ (u16 ≤ u13) → (fX12_tremble_j111 u22 s24 y0_95 Q) u16))
def fX12_tremble (s0 : sg_M) (x1 : Int) (x2 : Int) (x3 : Int) (Q : Int → sg_M → Prop) : Prop := ∀ s1 : sg_M, s1 = sg_up s0 64 0 0 → fX12_lay s1 (fun s3 => fX12_isBend x1 x2 (fun u4 => ((u4 = 0 → Q (-1) s3) ∧ (¬ (u4 = 0) → fX12_isIn x3 0 999 (fun u7 => ((u7 ≠ 0 → sg_R (x2 - x3) ∧ fX12_cut (x2 - x3) (fun u11 => fX12_voiceOf s3 x1 u11 (fun u13 s15 => fX12_voiceOf s15 x1 x2 (fun u16 s18 => sg_R (x2 + x3) ∧ fX12_cut (x2 + x3) (fun u20 => fX12_voiceOf s18 x1 u20 (fun u22 s24 => ((u13 = 0 → Q (-1) s24) ∧ (¬ (u13 = 0) → ((u16 = 0 → Q (-1) s24) ∧ (¬ (u16 = 0) → ((u22 ≠ 0 → ((u16 ≤ u13 → (fX12_tremble_j95 u13 u16 u22 s24 Q) u16) ∧ (¬ (u16 ≤ u13) → (fX12_tremble_j95 u13 u16 u22 s24 Q) u13))) ∧ (u22 = 0 → Q (-1) s24)))))))))))) ∧ (u7 = 0 → Q (-1) s3)))))))
set_option maxHeartbeats 4000000 in
set_option maxRecDepth 100000 in
theorem CX12_tremble {l : Launch} {G : sg_G} {La : sg_L} {s0 : sg_M} (hst : sg_St La) {x1 : Int} (r1 : sg_R x1) {x2 : Int} (r2 : sg_R x2) {x3 : Int} (r3 : sg_R x3) {Q : Int → sg_M → Prop} (hf : fX12_tremble s0 x1 x2 x3 Q) : sg_C l G yX12_tremble cX12_tremble 9 (some .int) 6 0 0 La s0 [sg_r 64, sg_i x1, sg_i x2, sg_i x3] (sg_HI La Q) := by
  refine sg_body (by decide +kernel) (Nat.le_of_ble_eq_true rfl) ?_
  intro p e s m args below meth c F hnm
  unfold fX12_tremble at hf
  show sg_W p l e (sg_rm 6 0 0) s m args below meth c (MQ below (sg_Q (some .int) G La s.heap.size (sg_HI La Q)) args s 0 0 (sg_A La s.heap.size)) 9 G (sg_A La s.heap.size) La s0 0 0 0 [(0, sg_r 64), (1, sg_i x1), (2, sg_i x2), (3, sg_i x3)] []
  refine gw_aload_n F 0 rfl rfl (by decide) dX12_tremble_0 ?_
  refine gw_iconst F dX12_tremble_1 ?_
  obtain ⟨s1, e2⟩ : ∃ z : sg_M, z = sg_up s0 64 0 0 := ⟨_, rfl⟩
  have hf := hf s1 e2
  refine gw_put0 F (so_64 hst) (by decide) rfl sg_lay_RX12 (j := 0) (by decide) (by decide) e2 tyX12_ok nmX12 rfl (tyX12_ok 0 (by decide)) rfl (host := "") (.inl kw_956) dX12_tremble_2 ?_
  refine gw_aload_n F 0 rfl rfl (by decide) dX12_tremble_5 ?_
  refine gk_HV F (gc_V F (S := []) (As := []) (T := TX12) (N := 62) (CX12_lay hst hf) (so_64 hst) (by decide) rfl kw_1043 kw_103 kw_1041 kw_1042 kw_41 hcX12_lay ⟨by decide, by decide⟩ rfl rfl (Nat.le_of_ble_eq_true rfl) ⟨by decide, by decide⟩ dX12_tremble_6) (fun s3 hf => ?_)
  refine gw_iload_n F 1 rfl rfl dX12_tremble_9 ?_
  refine gw_iload_n F 2 rfl rfl dX12_tremble_10 ?_
  refine gk_PZ F (gc_S F (S := []) (As := [sg_i x1, sg_i x2]) (CX12_isBend r1 r2 hf) kw_1117 kw_103 kw_1115 kw_1116 hcX12_isBend ⟨by decide, by decide⟩ rfl rfl (Nat.le_of_ble_eq_true rfl) ⟨by decide, by decide⟩ dX12_tremble_11) (fun u4 h5 hf => ?_)
  refine gw_if_eq F (tgt := 28) dX12_tremble_14 (by decide) (sg_B_R h5) (fun c6 => ?_) (fun c6 => ?_)
  · have hf := hf.1 c6
    refine gw_iconst F dX12_tremble_28 ?_
    exact gr_HI F (by decide) hf (by decide) (by decide) dX12_tremble_29
  · have hf := hf.2 c6
    refine gw_iload_n F 3 rfl rfl dX12_tremble_17 ?_
    refine gw_iconst F dX12_tremble_18 ?_
    refine gw_sipush F rfl dX12_tremble_19 ?_
    refine gk_PZ F (gc_S F (S := []) (As := [sg_i x3, sg_i 0, sg_i 999]) (CX12_isIn r3 (by decide) (by decide) hf) kw_1084 kw_103 kw_1082 kw_1083 hcX12_isIn ⟨by decide, by decide⟩ rfl rfl (Nat.le_of_ble_eq_true rfl) ⟨by decide, by decide⟩ dX12_tremble_22) (fun u7 h8 hf => ?_)
    refine gw_if_ne F (tgt := 30) dX12_tremble_25 (by decide) (sg_B_R h8) (fun c9 => ?_) (fun c9 => ?_)
    · have hf := hf.1 c9
      refine gw_aload_n F 0 rfl rfl (by decide) dX12_tremble_30 ?_
      refine gw_iload_n F 1 rfl rfl dX12_tremble_31 ?_
      refine gw_iload_n F 2 rfl rfl dX12_tremble_32 ?_
      refine gw_iload_n F 3 rfl rfl dX12_tremble_33 ?_
      refine gw_isub F rfl dX12_tremble_34 ?_
      obtain ⟨g10, hf⟩ := hf
      refine gk_PI F (gc_S F (S := [sg_i x1, sg_r 64]) (As := [sg_i (x2 - x3)]) (CX12_cut g10 hf) kw_1195 kw_103 kw_1193 kw_1194 hcX12_cut ⟨by decide, by decide⟩ rfl rfl (Nat.le_of_ble_eq_true rfl) ⟨by decide, by decide⟩ dX12_tremble_35) (fun u11 h12 hf => ?_)
      refine gk_HI F (gc_V F (S := []) (As := [sg_i x1, sg_i u11]) (T := TX12) (N := 62) (CX12_voiceOf hst r1 h12 hf) (so_64 hst) (by decide) rfl kw_1202 kw_103 kw_1200 kw_1201 kw_68 hcX12_voiceOf ⟨by decide, by decide⟩ rfl rfl (Nat.le_of_ble_eq_true rfl) ⟨by decide, by decide⟩ dX12_tremble_38) (fun u13 s15 h14 hf => ?_)
      refine gw_istore F (by decide) rfl dX12_tremble_41 ?_
      refine gw_aload_n F 1 rfl rfl (by decide) dX12_tremble_43 ?_
      refine gw_iload_n F 2 rfl rfl dX12_tremble_44 ?_
      refine gw_iload_n F 3 rfl rfl dX12_tremble_45 ?_
      refine gk_HI F (gc_V F (S := []) (As := [sg_i x1, sg_i x2]) (T := TX12) (N := 62) (CX12_voiceOf hst r1 r2 hf) (so_64 hst) (by decide) rfl kw_1202 kw_103 kw_1200 kw_1201 kw_68 hcX12_voiceOf ⟨by decide, by decide⟩ rfl rfl (Nat.le_of_ble_eq_true rfl) ⟨by decide, by decide⟩ dX12_tremble_46) (fun u16 s18 h17 hf => ?_)
      refine gw_istore F (by decide) rfl dX12_tremble_49 ?_
      refine gw_aload_n F 2 rfl rfl (by decide) dX12_tremble_51 ?_
      refine gw_iload_n F 3 rfl rfl dX12_tremble_52 ?_
      refine gw_iload_n F 4 rfl rfl dX12_tremble_53 ?_
      refine gw_iload_n F 5 rfl rfl dX12_tremble_54 ?_
      refine gw_iadd F rfl dX12_tremble_55 ?_
      obtain ⟨g19, hf⟩ := hf
      refine gk_PI F (gc_S F (S := [sg_i x1, sg_r 64]) (As := [sg_i (x2 + x3)]) (CX12_cut g19 hf) kw_1195 kw_103 kw_1193 kw_1194 hcX12_cut ⟨by decide, by decide⟩ rfl rfl (Nat.le_of_ble_eq_true rfl) ⟨by decide, by decide⟩ dX12_tremble_56) (fun u20 h21 hf => ?_)
      refine gk_HI F (gc_V F (S := []) (As := [sg_i x1, sg_i u20]) (T := TX12) (N := 62) (CX12_voiceOf hst r1 h21 hf) (so_64 hst) (by decide) rfl kw_1202 kw_103 kw_1200 kw_1201 kw_68 hcX12_voiceOf ⟨by decide, by decide⟩ rfl rfl (Nat.le_of_ble_eq_true rfl) ⟨by decide, by decide⟩ dX12_tremble_59) (fun u22 s24 h23 hf => ?_)
      refine gw_istore F (by decide) rfl dX12_tremble_62 ?_
      refine gw_iload F 2 rfl dX12_tremble_64 ?_
      refine gw_if_eq F (tgt := 79) dX12_tremble_66 (by decide) h14 (fun c25 => ?_) (fun c25 => ?_)
      · have hf := hf.1 c25
        refine gw_iconst F dX12_tremble_79 ?_
        exact gr_HI F (by decide) hf (by decide) (by decide) dX12_tremble_80
      · have hf := hf.2 c25
        refine gw_iload F 1 rfl dX12_tremble_69 ?_
        refine gw_if_eq F (tgt := 79) dX12_tremble_71 (by decide) h17 (fun c26 => ?_) (fun c26 => ?_)
        · have hf := hf.1 c26
          refine gw_iconst F dX12_tremble_79 ?_
          exact gr_HI F (by decide) hf (by decide) (by decide) dX12_tremble_80
        · have hf := hf.2 c26
          refine gw_iload F 0 rfl dX12_tremble_74 ?_
          refine gw_if_ne F (tgt := 81) dX12_tremble_76 (by decide) h23 (fun c27 => ?_) (fun c27 => ?_)
          · have hf := hf.1 c27
            refine gw_iload F 2 rfl dX12_tremble_81 ?_
            refine gw_iload F 1 rfl dX12_tremble_83 ?_
            have J95 : ∀ (y0_95 : Int), sg_R y0_95 → (fX12_tremble_j95 u13 u16 u22 s24 Q) y0_95 → sg_W p l e (sg_rm 6 0 0) s m args below meth c (MQ below (sg_Q (some .int) G La s.heap.size (sg_HI La Q)) args s 0 0 (sg_A La s.heap.size)) 9 G (sg_A La s.heap.size) La s24 0 0 95 [(4, sg_i u13), (5, sg_i u16), (6, sg_i u22)] [sg_i y0_95] := by
              intro y0_95 ry0_95 hf
              unfold fX12_tremble_j95 at hf
              refine gw_istore F (by decide) rfl dX12_tremble_95 ?_
              refine gw_iload F 1 rfl dX12_tremble_97 ?_
              refine gw_iload F 2 rfl dX12_tremble_99 ?_
              have J111 : ∀ (y0_111 : Int), sg_R y0_111 → (fX12_tremble_j111 u22 s24 y0_95 Q) y0_111 → sg_W p l e (sg_rm 6 0 0) s m args below meth c (MQ below (sg_Q (some .int) G La s.heap.size (sg_HI La Q)) args s 0 0 (sg_A La s.heap.size)) 9 G (sg_A La s.heap.size) La s24 0 0 111 [(6, sg_i u22), (7, sg_i y0_95)] [sg_i y0_111] := by
                intro y0_111 ry0_111 hf
                unfold fX12_tremble_j111 at hf
                refine gw_istore F (by decide) rfl dX12_tremble_111 ?_
                refine gw_iload F 1 rfl dX12_tremble_113 ?_
                refine gw_iload F 2 rfl dX12_tremble_115 ?_
                have J124 : ∀ (x7_124 : Int), sg_R x7_124 → (fX12_tremble_j124 u22 s24 y0_111 Q) x7_124 → sg_W p l e (sg_rm 6 0 0) s m args below meth c (MQ below (sg_Q (some .int) G La s.heap.size (sg_HI La Q)) args s 0 0 (sg_A La s.heap.size)) 9 G (sg_A La s.heap.size) La s24 0 0 124 [(6, sg_i u22), (7, sg_i x7_124), (8, sg_i y0_111)] [] := by
                  intro x7_124 r7_124 hf
                  unfold fX12_tremble_j124 at hf
                  refine gw_iload F 0 rfl dX12_tremble_124 ?_
                  refine gw_iload F 2 rfl dX12_tremble_126 ?_
                  refine gw_icmp_le F (tgt := 136) dX12_tremble_128 (by decide) h23 ry0_111 (fun c28 => ?_) (fun c28 => ?_)
                  · have hf := hf.1 c28
                    refine gw_iload F 2 rfl dX12_tremble_136 ?_
                    refine gw_iload F 1 rfl dX12_tremble_138 ?_
                    refine gw_isub F rfl dX12_tremble_140 ?_
                    obtain ⟨g29, hf⟩ := hf
                    exact gr_HI F g29 hf (by decide) (by decide) dX12_tremble_141
                  · have hf := hf.2 c28
                    refine gw_iload F 0 rfl dX12_tremble_131 ?_
                    refine gw_goto F (tgt := 138) dX12_tremble_133 (by decide) ?_
                    refine gw_iload F 1 rfl dX12_tremble_138 ?_
                    refine gw_isub F rfl dX12_tremble_140 ?_
                    obtain ⟨g30, hf⟩ := hf
                    exact gr_HI F g30 hf (by decide) (by decide) dX12_tremble_141
                refine gw_icmp_ge F (tgt := 124) dX12_tremble_117 (by decide) h23 ry0_95 (fun c31 => ?_) (fun c31 => ?_)
                · have hf := hf.1 c31
                  refine gw_sub [1, 2, 0] rfl ?_
                  exact J124 y0_95 ry0_95 hf
                · have hf := hf.2 c31
                  refine gw_iload F 1 rfl dX12_tremble_120 ?_
                  refine gw_istore F (by decide) rfl dX12_tremble_122 ?_
                  refine gw_sub [2, 0, 1] rfl ?_
                  exact J124 u22 h23 hf
              refine gw_icmp_ge F (tgt := 109) dX12_tremble_101 (by decide) h14 h17 (fun c32 => ?_) (fun c32 => ?_)
              · have hf := hf.1 c32
                refine gw_iload F 1 rfl dX12_tremble_109 ?_
                refine gw_sub [3, 0] rfl ?_
                exact J111 u13 h14 hf
              · have hf := hf.2 c32
                refine gw_iload F 2 rfl dX12_tremble_104 ?_
                refine gw_goto F (tgt := 111) dX12_tremble_106 (by decide) ?_
                refine gw_sub [3, 0] rfl ?_
                exact J111 u16 h17 hf
            refine gw_icmp_ge F (tgt := 93) dX12_tremble_85 (by decide) h14 h17 (fun c33 => ?_) (fun c33 => ?_)
            · have hf := hf.1 c33
              refine gw_iload F 1 rfl dX12_tremble_93 ?_
              refine gw_sub [2, 1, 0] rfl ?_
              exact J95 u16 h17 hf
            · have hf := hf.2 c33
              refine gw_iload F 2 rfl dX12_tremble_88 ?_
              refine gw_goto F (tgt := 95) dX12_tremble_90 (by decide) ?_
              refine gw_sub [2, 1, 0] rfl ?_
              exact J95 u13 h14 hf
          · have hf := hf.2 c27
            refine gw_iconst F dX12_tremble_79 ?_
            exact gr_HI F (by decide) hf (by decide) (by decide) dX12_tremble_80
    · have hf := hf.2 c9
      refine gw_iconst F dX12_tremble_28 ?_
      exact gr_HI F (by decide) hf (by decide) (by decide) dX12_tremble_29

theorem dX12_refuse_0 : decode cX12_refuse 0 = .ok (.aload_n 0, 1) := by decide +kernel
theorem dX12_refuse_1 : decode cX12_refuse 1 = .ok (.iconst 1, 1) := by decide +kernel
theorem dX12_refuse_2 : decode cX12_refuse 2 = .ok (.putfield 84, 3) := by decide +kernel
theorem dX12_refuse_5 : decode cX12_refuse 5 = .ok (.iconst 0, 1) := by decide +kernel
theorem dX12_refuse_6 : decode cX12_refuse 6 = .ok (.ireturn, 1) := by decide +kernel
theorem hcX12_refuse : yX12_refuse.cls ≠ "java/lang/invoke/MethodHandle" ∧ yX12_refuse.cls ≠ "java/lang/invoke/VarHandle" ∧ (parseMethodDescriptor yX12_refuse.desc).map (fun d => d.parameters.length) = some 0 := ⟨by decide +kernel, by decide +kernel, by decide +kernel⟩
def fX12_refuse (s0 : sg_M) (Q : Int → sg_M → Prop) : Prop := ∀ s1 : sg_M, s1 = sg_up s0 64 0 1 → Q 0 s1
set_option maxHeartbeats 4000000 in
set_option maxRecDepth 100000 in
theorem CX12_refuse {l : Launch} {G : sg_G} {La : sg_L} {s0 : sg_M} (hst : sg_St La) {Q : Int → sg_M → Prop} (hf : fX12_refuse s0 Q) : sg_C l G yX12_refuse cX12_refuse 1 (some .int) 1 0 0 La s0 [sg_r 64] (sg_HI La Q) := by
  refine sg_body (by decide +kernel) (Nat.le_of_ble_eq_true rfl) ?_
  intro p e s m args below meth c F hnm
  unfold fX12_refuse at hf
  show sg_W p l e (sg_rm 1 0 0) s m args below meth c (MQ below (sg_Q (some .int) G La s.heap.size (sg_HI La Q)) args s 0 0 (sg_A La s.heap.size)) 1 G (sg_A La s.heap.size) La s0 0 0 0 [(0, sg_r 64)] []
  refine gw_aload_n F 0 rfl rfl (by decide) dX12_refuse_0 ?_
  refine gw_iconst F dX12_refuse_1 ?_
  obtain ⟨s1, e2⟩ : ∃ z : sg_M, z = sg_up s0 64 0 1 := ⟨_, rfl⟩
  have hf := hf s1 e2
  refine gw_put0 F (so_64 hst) (by decide) rfl sg_lay_RX12 (j := 0) (by decide) (by decide) e2 tyX12_ok nmX12 rfl (tyX12_ok 0 (by decide)) rfl (host := "") (.inl kw_956) dX12_refuse_2 ?_
  refine gw_iconst F dX12_refuse_5 ?_
  exact gr_HI F (by decide) hf (by decide) (by decide) dX12_refuse_6

theorem dX12_piece_0 : decode cX12_piece 0 = .ok (.aload_n 0, 1) := by decide +kernel
theorem dX12_piece_1 : decode cX12_piece 1 = .ok (.invokevirtual 175, 3) := by decide +kernel
theorem dX12_piece_4 : decode cX12_piece 4 = .ok (.iload_n 1, 1) := by decide +kernel
theorem dX12_piece_5 : decode cX12_piece 5 = .ok (.ifCond .lt 20, 3) := by decide +kernel
theorem dX12_piece_8 : decode cX12_piece 8 = .ok (.iload_n 1, 1) := by decide +kernel
theorem dX12_piece_9 : decode cX12_piece 9 = .ok (.aload_n 0, 1) := by decide +kernel
theorem dX12_piece_10 : decode cX12_piece 10 = .ok (.invokevirtual 202, 3) := by decide +kernel
theorem dX12_piece_13 : decode cX12_piece 13 = .ok (.if_icmp .ge 12, 3) := by decide +kernel
theorem dX12_piece_16 : decode cX12_piece 16 = .ok (.iload_n 2, 1) := by decide +kernel
theorem dX12_piece_17 : decode cX12_piece 17 = .ok (.iconst 0, 1) := by decide +kernel
theorem dX12_piece_18 : decode cX12_piece 18 = .ok (.iconst 4, 1) := by decide +kernel
theorem dX12_piece_19 : decode cX12_piece 19 = .ok (.invokestatic 155, 3) := by decide +kernel
theorem dX12_piece_22 : decode cX12_piece 22 = .ok (.ifCond .ne 8, 3) := by decide +kernel
theorem dX12_piece_25 : decode cX12_piece 25 = .ok (.aload_n 0, 1) := by decide +kernel
theorem dX12_piece_26 : decode cX12_piece 26 = .ok (.invokevirtual 205, 3) := by decide +kernel
theorem dX12_piece_29 : decode cX12_piece 29 = .ok (.ireturn, 1) := by decide +kernel
theorem dX12_piece_30 : decode cX12_piece 30 = .ok (.aload_n 0, 1) := by decide +kernel
theorem dX12_piece_31 : decode cX12_piece 31 = .ok (.iconst 0, 1) := by decide +kernel
theorem dX12_piece_32 : decode cX12_piece 32 = .ok (.putfield 84, 3) := by decide +kernel
theorem dX12_piece_35 : decode cX12_piece 35 = .ok (.bipush 10, 2) := by decide +kernel
theorem dX12_piece_37 : decode cX12_piece 37 = .ok (.iconst 4, 1) := by decide +kernel
theorem dX12_piece_38 : decode cX12_piece 38 = .ok (.iload_n 1, 1) := by decide +kernel
theorem dX12_piece_39 : decode cX12_piece 39 = .ok (.imul, 1) := by decide +kernel
theorem dX12_piece_40 : decode cX12_piece 40 = .ok (.iadd, 1) := by decide +kernel
theorem dX12_piece_41 : decode cX12_piece 41 = .ok (.istore_n 3, 1) := by decide +kernel
theorem dX12_piece_42 : decode cX12_piece 42 = .ok (.iload_n 2, 1) := by decide +kernel
theorem dX12_piece_43 : decode cX12_piece 43 = .ok (.iconst 4, 1) := by decide +kernel
theorem dX12_piece_44 : decode cX12_piece 44 = .ok (.if_icmp .ge 14, 3) := by decide +kernel
theorem dX12_piece_47 : decode cX12_piece 47 = .ok (.aload_n 0, 1) := by decide +kernel
theorem dX12_piece_48 : decode cX12_piece 48 = .ok (.getfield 13, 3) := by decide +kernel
theorem dX12_piece_51 : decode cX12_piece 51 = .ok (.iload_n 3, 1) := by decide +kernel
theorem dX12_piece_52 : decode cX12_piece 52 = .ok (.iload_n 2, 1) := by decide +kernel
theorem dX12_piece_53 : decode cX12_piece 53 = .ok (.iadd, 1) := by decide +kernel
theorem dX12_piece_54 : decode cX12_piece 54 = .ok (.iaload, 1) := by decide +kernel
theorem dX12_piece_55 : decode cX12_piece 55 = .ok (.goto 17, 3) := by decide +kernel
theorem dX12_piece_58 : decode cX12_piece 58 = .ok (.aload_n 0, 1) := by decide +kernel
theorem dX12_piece_59 : decode cX12_piece 59 = .ok (.iconst 0, 1) := by decide +kernel
theorem dX12_piece_60 : decode cX12_piece 60 = .ok (.iload_n 1, 1) := by decide +kernel
theorem dX12_piece_61 : decode cX12_piece 61 = .ok (.aload_n 0, 1) := by decide +kernel
theorem dX12_piece_62 : decode cX12_piece 62 = .ok (.getfield 13, 3) := by decide +kernel
theorem dX12_piece_65 : decode cX12_piece 65 = .ok (.iload_n 3, 1) := by decide +kernel
theorem dX12_piece_66 : decode cX12_piece 66 = .ok (.iconst 1, 1) := by decide +kernel
theorem dX12_piece_67 : decode cX12_piece 67 = .ok (.iadd, 1) := by decide +kernel
theorem dX12_piece_68 : decode cX12_piece 68 = .ok (.iaload, 1) := by decide +kernel
theorem dX12_piece_69 : decode cX12_piece 69 = .ok (.invokevirtual 208, 3) := by decide +kernel
theorem dX12_piece_72 : decode cX12_piece 72 = .ok (.ireturn, 1) := by decide +kernel
theorem hcX12_piece : yX12_piece.cls ≠ "java/lang/invoke/MethodHandle" ∧ yX12_piece.cls ≠ "java/lang/invoke/VarHandle" ∧ (parseMethodDescriptor yX12_piece.desc).map (fun d => d.parameters.length) = some 2 := ⟨by decide +kernel, by decide +kernel, by decide +kernel⟩
def fX12_piece (s0 : sg_M) (x1 : Int) (x2 : Int) (Q : Int → sg_M → Prop) : Prop := fX12_lay s0 (fun s1 => ((x1 < 0 → fX12_refuse s1 (fun u3 s5 => Q u3 s5)) ∧ (¬ (x1 < 0) → fX12_pieces s1 (fun u6 => ((u6 ≤ x1 → fX12_refuse s1 (fun u9 s11 => Q u9 s11)) ∧ (¬ (u6 ≤ x1) → fX12_isIn x2 0 4 (fun u12 => ((u12 ≠ 0 → ∀ s15 : sg_M, s15 = sg_up s1 64 0 0 → ((4 ≤ x2 → (0 ≤ ((10 + (4 * x1)) + 1) ∧ ((10 + (4 * x1)) + 1) < 2040) ∧ fX12_stiffness s15 0 x1 (s15 66 ((10 + (4 * x1)) + 1)) (fun u21 => Q u21 s15)) ∧ (¬ (4 ≤ x2) → (0 ≤ ((10 + (4 * x1)) + x2) ∧ ((10 + (4 * x1)) + x2) < 2040) ∧ Q (s15 66 ((10 + (4 * x1)) + x2)) s15))) ∧ (u12 = 0 → fX12_refuse s1 (fun u26 s28 => Q u26 s28))))))))))
set_option maxHeartbeats 4000000 in
set_option maxRecDepth 100000 in
theorem CX12_piece {l : Launch} {G : sg_G} {La : sg_L} {s0 : sg_M} (hst : sg_St La) {x1 : Int} (r1 : sg_R x1) {x2 : Int} (r2 : sg_R x2) {Q : Int → sg_M → Prop} (hf : fX12_piece s0 x1 x2 Q) : sg_C l G yX12_piece cX12_piece 4 (some .int) 2 0 0 La s0 [sg_r 64, sg_i x1, sg_i x2] (sg_HI La Q) := by
  refine sg_body (by decide +kernel) (Nat.le_of_ble_eq_true rfl) ?_
  intro p e s m args below meth c F hnm
  unfold fX12_piece at hf
  show sg_W p l e (sg_rm 2 0 0) s m args below meth c (MQ below (sg_Q (some .int) G La s.heap.size (sg_HI La Q)) args s 0 0 (sg_A La s.heap.size)) 4 G (sg_A La s.heap.size) La s0 0 0 0 [(0, sg_r 64), (1, sg_i x1), (2, sg_i x2)] []
  refine gw_aload_n F 0 rfl rfl (by decide) dX12_piece_0 ?_
  refine gk_HV F (gc_V F (S := []) (As := []) (T := TX12) (N := 62) (CX12_lay hst hf) (so_64 hst) (by decide) rfl kw_1043 kw_103 kw_1041 kw_1042 kw_41 hcX12_lay ⟨by decide, by decide⟩ rfl rfl (Nat.le_of_ble_eq_true rfl) ⟨by decide, by decide⟩ dX12_piece_1) (fun s1 hf => ?_)
  refine gw_iload_n F 1 rfl rfl dX12_piece_4 ?_
  refine gw_if_lt F (tgt := 25) dX12_piece_5 (by decide) r1 (fun c2 => ?_) (fun c2 => ?_)
  · have hf := hf.1 c2
    refine gw_aload_n F 0 rfl rfl (by decide) dX12_piece_25 ?_
    refine gk_HI F (gc_V F (S := []) (As := []) (T := TX12) (N := 62) (CX12_refuse hst hf) (so_64 hst) (by decide) rfl kw_1107 kw_103 kw_1105 kw_1106 kw_53 hcX12_refuse ⟨by decide, by decide⟩ rfl rfl (Nat.le_of_ble_eq_true rfl) ⟨by decide, by decide⟩ dX12_piece_26) (fun u3 s5 h4 hf => ?_)
    exact gr_HI F h4 hf (by decide) (by decide) dX12_piece_29
  · have hf := hf.2 c2
    refine gw_iload_n F 1 rfl rfl dX12_piece_8 ?_
    refine gw_aload_n F 0 rfl rfl (by decide) dX12_piece_9 ?_
    refine gk_PI F (gc_V F (S := [sg_i x1]) (As := []) (T := TX12) (N := 62) (CX12_pieces hst hf) (so_64 hst) (by decide) rfl kw_1104 kw_103 kw_1102 kw_1103 kw_52 hcX12_pieces ⟨by decide, by decide⟩ rfl rfl (Nat.le_of_ble_eq_true rfl) ⟨by decide, by decide⟩ dX12_piece_10) (fun u6 h7 hf => ?_)
    refine gw_icmp_ge F (tgt := 25) dX12_piece_13 (by decide) r1 h7 (fun c8 => ?_) (fun c8 => ?_)
    · have hf := hf.1 c8
      refine gw_aload_n F 0 rfl rfl (by decide) dX12_piece_25 ?_
      refine gk_HI F (gc_V F (S := []) (As := []) (T := TX12) (N := 62) (CX12_refuse hst hf) (so_64 hst) (by decide) rfl kw_1107 kw_103 kw_1105 kw_1106 kw_53 hcX12_refuse ⟨by decide, by decide⟩ rfl rfl (Nat.le_of_ble_eq_true rfl) ⟨by decide, by decide⟩ dX12_piece_26) (fun u9 s11 h10 hf => ?_)
      exact gr_HI F h10 hf (by decide) (by decide) dX12_piece_29
    · have hf := hf.2 c8
      refine gw_iload_n F 2 rfl rfl dX12_piece_16 ?_
      refine gw_iconst F dX12_piece_17 ?_
      refine gw_iconst F dX12_piece_18 ?_
      refine gk_PZ F (gc_S F (S := []) (As := [sg_i x2, sg_i 0, sg_i 4]) (CX12_isIn r2 (by decide) (by decide) hf) kw_1084 kw_103 kw_1082 kw_1083 hcX12_isIn ⟨by decide, by decide⟩ rfl rfl (Nat.le_of_ble_eq_true rfl) ⟨by decide, by decide⟩ dX12_piece_19) (fun u12 h13 hf => ?_)
      refine gw_if_ne F (tgt := 30) dX12_piece_22 (by decide) (sg_B_R h13) (fun c14 => ?_) (fun c14 => ?_)
      · have hf := hf.1 c14
        refine gw_aload_n F 0 rfl rfl (by decide) dX12_piece_30 ?_
        refine gw_iconst F dX12_piece_31 ?_
        obtain ⟨s15, e16⟩ : ∃ z : sg_M, z = sg_up s1 64 0 0 := ⟨_, rfl⟩
        have hf := hf s15 e16
        refine gw_put0 F (so_64 hst) (by decide) rfl sg_lay_RX12 (j := 0) (by decide) (by decide) e16 tyX12_ok nmX12 rfl (tyX12_ok 0 (by decide)) rfl (host := "") (.inl kw_956) dX12_piece_32 ?_
        refine gw_bipush F rfl dX12_piece_35 ?_
        refine gw_iconst F dX12_piece_37 ?_
        refine gw_iload_n F 1 rfl rfl dX12_piece_38 ?_
        refine gw_imul F rfl dX12_piece_39 ?_
        refine gw_iadd F rfl dX12_piece_40 ?_
        refine gw_istore_n F rfl (by decide) rfl dX12_piece_41 ?_
        refine gw_iload_n F 3 rfl rfl dX12_piece_42 ?_
        refine gw_iconst F dX12_piece_43 ?_
        refine gw_icmp_ge F (tgt := 58) dX12_piece_44 (by decide) r2 (by decide) (fun c17 => ?_) (fun c17 => ?_)
        · have hf := hf.1 c17
          refine gw_aload_n F 1 rfl rfl (by decide) dX12_piece_58 ?_
          refine gw_iconst F dX12_piece_59 ?_
          refine gw_iload_n F 2 rfl rfl dX12_piece_60 ?_
          refine gw_aload_n F 1 rfl rfl (by decide) dX12_piece_61 ?_
          refine gw_get7 F (so_64 hst) (by decide) rfl sg_lay_RX12 (j := 14) (by decide) (o1 := 66) (by first | rfl | omega) rfl (host := "") (.inl kw_970) dX12_piece_62 (fun h18 => ?_)
          refine gw_iload_n F 0 rfl rfl dX12_piece_65 ?_
          refine gw_iconst F dX12_piece_66 ?_
          refine gw_iadd F rfl dX12_piece_67 ?_
          obtain ⟨⟨b190, b191⟩, hf⟩ := hf
          refine gw_iald F (sa_66 hst) b190 b191 dX12_piece_68 (fun h20 => ?_)
          refine gk_PI F (gc_V F (S := []) (As := [sg_i 0, sg_i x1, sg_i (s15 66 ((10 + (4 * x1)) + 1))]) (T := TX12) (N := 62) (CX12_stiffness hst (by decide) r1 h20 hf) (so_64 hst) (by decide) rfl kw_1110 kw_103 kw_1108 kw_1109 kw_54 hcX12_stiffness ⟨by decide, by decide⟩ rfl rfl (Nat.le_of_ble_eq_true rfl) ⟨by decide, by decide⟩ dX12_piece_69) (fun u21 h22 hf => ?_)
          exact gr_HI F h22 hf (by decide) (by decide) dX12_piece_72
        · have hf := hf.2 c17
          refine gw_aload_n F 1 rfl rfl (by decide) dX12_piece_47 ?_
          refine gw_get7 F (so_64 hst) (by decide) rfl sg_lay_RX12 (j := 14) (by decide) (o1 := 66) (by first | rfl | omega) rfl (host := "") (.inl kw_970) dX12_piece_48 (fun h23 => ?_)
          refine gw_iload_n F 0 rfl rfl dX12_piece_51 ?_
          refine gw_iload_n F 3 rfl rfl dX12_piece_52 ?_
          refine gw_iadd F rfl dX12_piece_53 ?_
          obtain ⟨⟨b240, b241⟩, hf⟩ := hf
          refine gw_iald F (sa_66 hst) b240 b241 dX12_piece_54 (fun h25 => ?_)
          refine gw_goto F (tgt := 72) dX12_piece_55 (by decide) ?_
          exact gr_HI F h25 hf (by decide) (by decide) dX12_piece_72
      · have hf := hf.2 c14
        refine gw_aload_n F 0 rfl rfl (by decide) dX12_piece_25 ?_
        refine gk_HI F (gc_V F (S := []) (As := []) (T := TX12) (N := 62) (CX12_refuse hst hf) (so_64 hst) (by decide) rfl kw_1107 kw_103 kw_1105 kw_1106 kw_53 hcX12_refuse ⟨by decide, by decide⟩ rfl rfl (Nat.le_of_ble_eq_true rfl) ⟨by decide, by decide⟩ dX12_piece_26) (fun u26 s28 h27 hf => ?_)
        exact gr_HI F h27 hf (by decide) (by decide) dX12_piece_29

theorem dX12_tone_0 : decode cX12_tone 0 = .ok (.aload_n 0, 1) := by decide +kernel
theorem dX12_tone_1 : decode cX12_tone 1 = .ok (.iconst 0, 1) := by decide +kernel
theorem dX12_tone_2 : decode cX12_tone 2 = .ok (.putfield 84, 3) := by decide +kernel
theorem dX12_tone_5 : decode cX12_tone 5 = .ok (.aload_n 0, 1) := by decide +kernel
theorem dX12_tone_6 : decode cX12_tone 6 = .ok (.invokevirtual 175, 3) := by decide +kernel
theorem dX12_tone_9 : decode cX12_tone 9 = .ok (.iload_n 1, 1) := by decide +kernel
theorem dX12_tone_10 : decode cX12_tone 10 = .ok (.iload_n 2, 1) := by decide +kernel
theorem dX12_tone_11 : decode cX12_tone 11 = .ok (.invokestatic 232, 3) := by decide +kernel
theorem dX12_tone_14 : decode cX12_tone 14 = .ok (.ifCond .eq 17, 3) := by decide +kernel
theorem dX12_tone_17 : decode cX12_tone 17 = .ok (.iload 4, 2) := by decide +kernel
theorem dX12_tone_19 : decode cX12_tone 19 = .ok (.iconst 0, 1) := by decide +kernel
theorem dX12_tone_20 : decode cX12_tone 20 = .ok (.iconst 5, 1) := by decide +kernel
theorem dX12_tone_21 : decode cX12_tone 21 = .ok (.invokestatic 155, 3) := by decide +kernel
theorem dX12_tone_24 : decode cX12_tone 24 = .ok (.ifCond .eq 7, 3) := by decide +kernel
theorem dX12_tone_27 : decode cX12_tone 27 = .ok (.iload_n 3, 1) := by decide +kernel
theorem dX12_tone_28 : decode cX12_tone 28 = .ok (.ifCond .ge 5, 3) := by decide +kernel
theorem dX12_tone_31 : decode cX12_tone 31 = .ok (.iconst (-1), 1) := by decide +kernel
theorem dX12_tone_32 : decode cX12_tone 32 = .ok (.ireturn, 1) := by decide +kernel
theorem dX12_tone_33 : decode cX12_tone 33 = .ok (.aload_n 0, 1) := by decide +kernel
theorem dX12_tone_34 : decode cX12_tone 34 = .ok (.iconst 0, 1) := by decide +kernel
theorem dX12_tone_35 : decode cX12_tone 35 = .ok (.iload_n 1, 1) := by decide +kernel
theorem dX12_tone_36 : decode cX12_tone 36 = .ok (.iload_n 2, 1) := by decide +kernel
theorem dX12_tone_37 : decode cX12_tone 37 = .ok (.iconst 0, 1) := by decide +kernel
theorem dX12_tone_38 : decode cX12_tone 38 = .ok (.iconst 0, 1) := by decide +kernel
theorem dX12_tone_39 : decode cX12_tone 39 = .ok (.invokevirtual 235, 3) := by decide +kernel
theorem dX12_tone_42 : decode cX12_tone 42 = .ok (.iload_n 3, 1) := by decide +kernel
theorem dX12_tone_43 : decode cX12_tone 43 = .ok (.aload_n 0, 1) := by decide +kernel
theorem dX12_tone_44 : decode cX12_tone 44 = .ok (.getfield 226, 3) := by decide +kernel
theorem dX12_tone_47 : decode cX12_tone 47 = .ok (.if_icmp .lt 5, 3) := by decide +kernel
theorem dX12_tone_50 : decode cX12_tone 50 = .ok (.iconst (-1), 1) := by decide +kernel
theorem dX12_tone_51 : decode cX12_tone 51 = .ok (.ireturn, 1) := by decide +kernel
theorem dX12_tone_52 : decode cX12_tone 52 = .ok (.aload_n 0, 1) := by decide +kernel
theorem dX12_tone_53 : decode cX12_tone 53 = .ok (.aload_n 0, 1) := by decide +kernel
theorem dX12_tone_54 : decode cX12_tone 54 = .ok (.getfield 41, 3) := by decide +kernel
theorem dX12_tone_57 : decode cX12_tone 57 = .ok (.iload_n 3, 1) := by decide +kernel
theorem dX12_tone_58 : decode cX12_tone 58 = .ok (.iaload, 1) := by decide +kernel
theorem dX12_tone_59 : decode cX12_tone 59 = .ok (.iload 4, 2) := by decide +kernel
theorem dX12_tone_61 : decode cX12_tone 61 = .ok (.invokevirtual 255, 3) := by decide +kernel
theorem dX12_tone_64 : decode cX12_tone 64 = .ok (.istore 5, 2) := by decide +kernel
theorem dX12_tone_66 : decode cX12_tone 66 = .ok (.iload 5, 2) := by decide +kernel
theorem dX12_tone_68 : decode cX12_tone 68 = .ok (.iconst (-1), 1) := by decide +kernel
theorem dX12_tone_69 : decode cX12_tone 69 = .ok (.if_icmp .ne 5, 3) := by decide +kernel
theorem dX12_tone_72 : decode cX12_tone 72 = .ok (.iconst (-1), 1) := by decide +kernel
theorem dX12_tone_73 : decode cX12_tone 73 = .ok (.ireturn, 1) := by decide +kernel
theorem dX12_tone_74 : decode cX12_tone 74 = .ok (.aload_n 0, 1) := by decide +kernel
theorem dX12_tone_75 : decode cX12_tone 75 = .ok (.getfield 47, 3) := by decide +kernel
theorem dX12_tone_78 : decode cX12_tone 78 = .ok (.iconst 0, 1) := by decide +kernel
theorem dX12_tone_79 : decode cX12_tone 79 = .ok (.aload_n 0, 1) := by decide +kernel
theorem dX12_tone_80 : decode cX12_tone 80 = .ok (.getfield 239, 3) := by decide +kernel
theorem dX12_tone_83 : decode cX12_tone 83 = .ok (.iastore, 1) := by decide +kernel
theorem dX12_tone_84 : decode cX12_tone 84 = .ok (.aload_n 0, 1) := by decide +kernel
theorem dX12_tone_85 : decode cX12_tone 85 = .ok (.getfield 47, 3) := by decide +kernel
theorem dX12_tone_88 : decode cX12_tone 88 = .ok (.iconst 1, 1) := by decide +kernel
theorem dX12_tone_89 : decode cX12_tone 89 = .ok (.aload_n 0, 1) := by decide +kernel
theorem dX12_tone_90 : decode cX12_tone 90 = .ok (.getfield 242, 3) := by decide +kernel
theorem dX12_tone_93 : decode cX12_tone 93 = .ok (.iastore, 1) := by decide +kernel
theorem dX12_tone_94 : decode cX12_tone 94 = .ok (.aload_n 0, 1) := by decide +kernel
theorem dX12_tone_95 : decode cX12_tone 95 = .ok (.getfield 47, 3) := by decide +kernel
theorem dX12_tone_98 : decode cX12_tone 98 = .ok (.iconst 2, 1) := by decide +kernel
theorem dX12_tone_99 : decode cX12_tone 99 = .ok (.aload_n 0, 1) := by decide +kernel
theorem dX12_tone_100 : decode cX12_tone 100 = .ok (.invokevirtual 252, 3) := by decide +kernel
theorem dX12_tone_103 : decode cX12_tone 103 = .ok (.ifCond .eq 7, 3) := by decide +kernel
theorem dX12_tone_106 : decode cX12_tone 106 = .ok (.iconst 1, 1) := by decide +kernel
theorem dX12_tone_107 : decode cX12_tone 107 = .ok (.goto 4, 3) := by decide +kernel
theorem dX12_tone_110 : decode cX12_tone 110 = .ok (.iconst 0, 1) := by decide +kernel
theorem dX12_tone_111 : decode cX12_tone 111 = .ok (.iastore, 1) := by decide +kernel
theorem dX12_tone_112 : decode cX12_tone 112 = .ok (.aload_n 0, 1) := by decide +kernel
theorem dX12_tone_113 : decode cX12_tone 113 = .ok (.getfield 47, 3) := by decide +kernel
theorem dX12_tone_116 : decode cX12_tone 116 = .ok (.iconst 3, 1) := by decide +kernel
theorem dX12_tone_117 : decode cX12_tone 117 = .ok (.aload_n 0, 1) := by decide +kernel
theorem dX12_tone_118 : decode cX12_tone 118 = .ok (.aload_n 0, 1) := by decide +kernel
theorem dX12_tone_119 : decode cX12_tone 119 = .ok (.getfield 41, 3) := by decide +kernel
theorem dX12_tone_122 : decode cX12_tone 122 = .ok (.iload_n 3, 1) := by decide +kernel
theorem dX12_tone_123 : decode cX12_tone 123 = .ok (.iaload, 1) := by decide +kernel
theorem dX12_tone_124 : decode cX12_tone 124 = .ok (.invokevirtual 258, 3) := by decide +kernel
theorem dX12_tone_127 : decode cX12_tone 127 = .ok (.ifCond .eq 7, 3) := by decide +kernel
theorem dX12_tone_130 : decode cX12_tone 130 = .ok (.iconst 1, 1) := by decide +kernel
theorem dX12_tone_131 : decode cX12_tone 131 = .ok (.goto 4, 3) := by decide +kernel
theorem dX12_tone_134 : decode cX12_tone 134 = .ok (.iconst 0, 1) := by decide +kernel
theorem dX12_tone_135 : decode cX12_tone 135 = .ok (.iastore, 1) := by decide +kernel
theorem dX12_tone_136 : decode cX12_tone 136 = .ok (.aload_n 0, 1) := by decide +kernel
theorem dX12_tone_137 : decode cX12_tone 137 = .ok (.getfield 47, 3) := by decide +kernel
theorem dX12_tone_140 : decode cX12_tone 140 = .ok (.iconst 4, 1) := by decide +kernel
theorem dX12_tone_141 : decode cX12_tone 141 = .ok (.aload_n 0, 1) := by decide +kernel
theorem dX12_tone_142 : decode cX12_tone 142 = .ok (.iload 5, 2) := by decide +kernel
theorem dX12_tone_144 : decode cX12_tone 144 = .ok (.invokevirtual 261, 3) := by decide +kernel
theorem dX12_tone_147 : decode cX12_tone 147 = .ok (.iastore, 1) := by decide +kernel
theorem dX12_tone_148 : decode cX12_tone 148 = .ok (.aload_n 0, 1) := by decide +kernel
theorem dX12_tone_149 : decode cX12_tone 149 = .ok (.aload_n 0, 1) := by decide +kernel
theorem dX12_tone_150 : decode cX12_tone 150 = .ok (.getfield 212, 3) := by decide +kernel
theorem dX12_tone_153 : decode cX12_tone 153 = .ok (.putfield 264, 3) := by decide +kernel
theorem dX12_tone_156 : decode cX12_tone 156 = .ok (.iconst 0, 1) := by decide +kernel
theorem dX12_tone_157 : decode cX12_tone 157 = .ok (.istore 6, 2) := by decide +kernel
theorem dX12_tone_159 : decode cX12_tone 159 = .ok (.iload 6, 2) := by decide +kernel
theorem dX12_tone_161 : decode cX12_tone 161 = .ok (.aload_n 0, 1) := by decide +kernel
theorem dX12_tone_162 : decode cX12_tone 162 = .ok (.getfield 212, 3) := by decide +kernel
theorem dX12_tone_165 : decode cX12_tone 165 = .ok (.if_icmp .ge 24, 3) := by decide +kernel
theorem dX12_tone_168 : decode cX12_tone 168 = .ok (.aload_n 0, 1) := by decide +kernel
theorem dX12_tone_169 : decode cX12_tone 169 = .ok (.getfield 50, 3) := by decide +kernel
theorem dX12_tone_172 : decode cX12_tone 172 = .ok (.iload 6, 2) := by decide +kernel
theorem dX12_tone_174 : decode cX12_tone 174 = .ok (.aload_n 0, 1) := by decide +kernel
theorem dX12_tone_175 : decode cX12_tone 175 = .ok (.iload 6, 2) := by decide +kernel
theorem dX12_tone_177 : decode cX12_tone 177 = .ok (.iload 5, 2) := by decide +kernel
theorem dX12_tone_179 : decode cX12_tone 179 = .ok (.invokevirtual 267, 3) := by decide +kernel
theorem dX12_tone_182 : decode cX12_tone 182 = .ok (.iastore, 1) := by decide +kernel
theorem dX12_tone_183 : decode cX12_tone 183 = .ok (.iinc 6 1, 3) := by decide +kernel
theorem dX12_tone_186 : decode cX12_tone 186 = .ok (.goto (-27), 3) := by decide +kernel
theorem dX12_tone_189 : decode cX12_tone 189 = .ok (.iload 5, 2) := by decide +kernel
theorem dX12_tone_191 : decode cX12_tone 191 = .ok (.ireturn, 1) := by decide +kernel
theorem hcX12_tone : yX12_tone.cls ≠ "java/lang/invoke/MethodHandle" ∧ yX12_tone.cls ≠ "java/lang/invoke/VarHandle" ∧ (parseMethodDescriptor yX12_tone.desc).map (fun d => d.parameters.length) = some 4 := ⟨by decide +kernel, by decide +kernel, by decide +kernel⟩
def fX12_tone_L159 (u17 : Int) (Q : Int → sg_M → Prop) : Nat → sg_M → Int → Prop
  | 0, _, _ => False
  | n_159 + 1, s_159, x6_159 => (((s_159 64 27) ≤ x6_159 → Q u17 s_159) ∧ (¬ ((s_159 64 27) ≤ x6_159) → fX12_strengthAt s_159 x6_159 u17 (fun u53 => (0 ≤ x6_159 ∧ x6_159 < 60) ∧ ∀ s56 : sg_M, s56 = sg_up s_159 78 x6_159 u53 → sg_R (x6_159 + 1) ∧ (fX12_tone_L159 u17 Q n_159) s56 (x6_159 + 1))))
def fX12_tone_j135 (u17 : Int) (s32 : sg_M) (Q : Int → sg_M → Prop) (y0_135 : Int) : Prop := ∀ s40 : sg_M, s40 = sg_up s32 77 3 y0_135 → fX12_rings s40 u17 (fun u43 => ∀ s45 : sg_M, s45 = sg_up s40 77 4 u43 → ∀ s48 : sg_M, s48 = sg_up s45 64 37 (s45 64 27) → (∃ n59 : Nat, fX12_tone_L159 u17 Q n59 s48 0))
def fX12_tone_j111 (x3 : Int) (u17 : Int) (s27 : sg_M) (Q : Int → sg_M → Prop) (y0_111 : Int) : Prop := ∀ s32 : sg_M, s32 = sg_up s27 77 2 y0_111 → (0 ≤ x3 ∧ x3 < 60) ∧ fX12_isTwice s32 (s32 75 x3) (fun u38 => ((u38 = 0 → (fX12_tone_j135 u17 s32 Q) 0) ∧ (¬ (u38 = 0) → (fX12_tone_j135 u17 s32 Q) 1)))
def fX12_tone (s0 : sg_M) (x1 : Int) (x2 : Int) (x3 : Int) (x4 : Int) (Q : Int → sg_M → Prop) : Prop := ∀ s1 : sg_M, s1 = sg_up s0 64 0 0 → fX12_lay s1 (fun s3 => fX12_isBend x1 x2 (fun u4 => ((u4 = 0 → Q (-1) s3) ∧ (¬ (u4 = 0) → fX12_isIn x4 0 5 (fun u7 => ((u7 = 0 → Q (-1) s3) ∧ (¬ (u7 = 0) → ((0 ≤ x3 → fX12_layBend s3 0 x1 x2 0 0 (fun s11 => ((x3 < (s11 64 29) → (0 ≤ x3 ∧ x3 < 60) ∧ fX12_toneOf s11 (s11 75 x3) x4 (fun u17 s19 => ((u17 ≠ (-1) → ∀ s23 : sg_M, s23 = sg_up s19 77 0 (s19 64 32) → ∀ s27 : sg_M, s27 = sg_up s23 77 1 (s23 64 33) → fX12_isShut s27 (fun u30 => ((u30 = 0 → (fX12_tone_j111 x3 u17 s27 Q) 0) ∧ (¬ (u30 = 0) → (fX12_tone_j111 x3 u17 s27 Q) 1)))) ∧ (u17 = (-1) → Q (-1) s19)))) ∧ (¬ (x3 < (s11 64 29)) → Q (-1) s11)))) ∧ (¬ (0 ≤ x3) → Q (-1) s3)))))))))
set_option maxHeartbeats 4000000 in
set_option maxRecDepth 100000 in
theorem CX12_tone {l : Launch} {G : sg_G} {La : sg_L} {s0 : sg_M} (hst : sg_St La) {x1 : Int} (r1 : sg_R x1) {x2 : Int} (r2 : sg_R x2) {x3 : Int} (r3 : sg_R x3) {x4 : Int} (r4 : sg_R x4) {Q : Int → sg_M → Prop} (hf : fX12_tone s0 x1 x2 x3 x4 Q) : sg_C l G yX12_tone cX12_tone 7 (some .int) 4 0 0 La s0 [sg_r 64, sg_i x1, sg_i x2, sg_i x3, sg_i x4] (sg_HI La Q) := by
  refine sg_body (by decide +kernel) (Nat.le_of_ble_eq_true rfl) ?_
  intro p e s m args below meth c F hnm
  unfold fX12_tone at hf
  show sg_W p l e (sg_rm 4 0 0) s m args below meth c (MQ below (sg_Q (some .int) G La s.heap.size (sg_HI La Q)) args s 0 0 (sg_A La s.heap.size)) 7 G (sg_A La s.heap.size) La s0 0 0 0 [(0, sg_r 64), (1, sg_i x1), (2, sg_i x2), (3, sg_i x3), (4, sg_i x4)] []
  refine gw_aload_n F 0 rfl rfl (by decide) dX12_tone_0 ?_
  refine gw_iconst F dX12_tone_1 ?_
  obtain ⟨s1, e2⟩ : ∃ z : sg_M, z = sg_up s0 64 0 0 := ⟨_, rfl⟩
  have hf := hf s1 e2
  refine gw_put0 F (so_64 hst) (by decide) rfl sg_lay_RX12 (j := 0) (by decide) (by decide) e2 tyX12_ok nmX12 rfl (tyX12_ok 0 (by decide)) rfl (host := "") (.inl kw_956) dX12_tone_2 ?_
  refine gw_aload_n F 0 rfl rfl (by decide) dX12_tone_5 ?_
  refine gk_HV F (gc_V F (S := []) (As := []) (T := TX12) (N := 62) (CX12_lay hst hf) (so_64 hst) (by decide) rfl kw_1043 kw_103 kw_1041 kw_1042 kw_41 hcX12_lay ⟨by decide, by decide⟩ rfl rfl (Nat.le_of_ble_eq_true rfl) ⟨by decide, by decide⟩ dX12_tone_6) (fun s3 hf => ?_)
  refine gw_iload_n F 1 rfl rfl dX12_tone_9 ?_
  refine gw_iload_n F 2 rfl rfl dX12_tone_10 ?_
  refine gk_PZ F (gc_S F (S := []) (As := [sg_i x1, sg_i x2]) (CX12_isBend r1 r2 hf) kw_1117 kw_103 kw_1115 kw_1116 hcX12_isBend ⟨by decide, by decide⟩ rfl rfl (Nat.le_of_ble_eq_true rfl) ⟨by decide, by decide⟩ dX12_tone_11) (fun u4 h5 hf => ?_)
  refine gw_if_eq F (tgt := 31) dX12_tone_14 (by decide) (sg_B_R h5) (fun c6 => ?_) (fun c6 => ?_)
  · have hf := hf.1 c6
    refine gw_iconst F dX12_tone_31 ?_
    exact gr_HI F (by decide) hf (by decide) (by decide) dX12_tone_32
  · have hf := hf.2 c6
    refine gw_iload F 4 rfl dX12_tone_17 ?_
    refine gw_iconst F dX12_tone_19 ?_
    refine gw_iconst F dX12_tone_20 ?_
    refine gk_PZ F (gc_S F (S := []) (As := [sg_i x4, sg_i 0, sg_i 5]) (CX12_isIn r4 (by decide) (by decide) hf) kw_1084 kw_103 kw_1082 kw_1083 hcX12_isIn ⟨by decide, by decide⟩ rfl rfl (Nat.le_of_ble_eq_true rfl) ⟨by decide, by decide⟩ dX12_tone_21) (fun u7 h8 hf => ?_)
    refine gw_if_eq F (tgt := 31) dX12_tone_24 (by decide) (sg_B_R h8) (fun c9 => ?_) (fun c9 => ?_)
    · have hf := hf.1 c9
      refine gw_iconst F dX12_tone_31 ?_
      exact gr_HI F (by decide) hf (by decide) (by decide) dX12_tone_32
    · have hf := hf.2 c9
      refine gw_iload_n F 3 rfl rfl dX12_tone_27 ?_
      refine gw_if_ge F (tgt := 33) dX12_tone_28 (by decide) r3 (fun c10 => ?_) (fun c10 => ?_)
      · have hf := hf.1 c10
        refine gw_aload_n F 0 rfl rfl (by decide) dX12_tone_33 ?_
        refine gw_iconst F dX12_tone_34 ?_
        refine gw_iload_n F 1 rfl rfl dX12_tone_35 ?_
        refine gw_iload_n F 2 rfl rfl dX12_tone_36 ?_
        refine gw_iconst F dX12_tone_37 ?_
        refine gw_iconst F dX12_tone_38 ?_
        refine gk_HV F (gc_V F (S := []) (As := [sg_i 0, sg_i x1, sg_i x2, sg_i 0, sg_i 0]) (T := TX12) (N := 62) (CX12_layBend hst (by decide) r1 r2 (by decide) (by decide) hf) (so_64 hst) (by decide) rfl kw_1120 kw_103 kw_1118 kw_1119 kw_55 hcX12_layBend ⟨by decide, by decide⟩ rfl rfl (Nat.le_of_ble_eq_true rfl) ⟨by decide, by decide⟩ dX12_tone_39) (fun s11 hf => ?_)
        refine gw_iload_n F 3 rfl rfl dX12_tone_42 ?_
        refine gw_aload_n F 0 rfl rfl (by decide) dX12_tone_43 ?_
        refine gw_get0 F (so_64 hst) (by decide) rfl sg_lay_RX12 (j := 29) (by decide) rfl (host := "") (.inl kw_985) dX12_tone_44 (fun h12 => ?_)
        refine gw_icmp_lt F (tgt := 52) dX12_tone_47 (by decide) r3 h12 (fun c13 => ?_) (fun c13 => ?_)
        · have hf := hf.1 c13
          refine gw_aload_n F 0 rfl rfl (by decide) dX12_tone_52 ?_
          refine gw_aload_n F 0 rfl rfl (by decide) dX12_tone_53 ?_
          refine gw_get7 F (so_64 hst) (by decide) rfl sg_lay_RX12 (j := 25) (by decide) (o1 := 75) (by first | rfl | omega) rfl (host := "") (.inl kw_981) dX12_tone_54 (fun h14 => ?_)
          refine gw_iload_n F 3 rfl rfl dX12_tone_57 ?_
          obtain ⟨⟨b150, b151⟩, hf⟩ := hf
          refine gw_iald F (sa_75 hst) b150 b151 dX12_tone_58 (fun h16 => ?_)
          refine gw_iload F 4 rfl dX12_tone_59 ?_
          refine gk_HI F (gc_V F (S := []) (As := [sg_i (s11 75 x3), sg_i x4]) (T := TX12) (N := 62) (CX12_toneOf hst h16 r4 hf) (so_64 hst) (by decide) rfl kw_1139 kw_103 kw_1137 kw_1138 kw_57 hcX12_toneOf ⟨by decide, by decide⟩ rfl rfl (Nat.le_of_ble_eq_true rfl) ⟨by decide, by decide⟩ dX12_tone_61) (fun u17 s19 h18 hf => ?_)
          refine gw_istore F (by decide) rfl dX12_tone_64 ?_
          refine gw_iload F 0 rfl dX12_tone_66 ?_
          refine gw_iconst F dX12_tone_68 ?_
          refine gw_icmp_ne F (tgt := 74) dX12_tone_69 (by decide) h18 (by decide) (fun c20 => ?_) (fun c20 => ?_)
          · have hf := hf.1 c20
            refine gw_aload_n F 1 rfl rfl (by decide) dX12_tone_74 ?_
            refine gw_get7 F (so_64 hst) (by decide) rfl sg_lay_RX12 (j := 34) (by decide) (o1 := 77) (by first | rfl | omega) rfl (host := "") (.inl kw_990) dX12_tone_75 (fun h21 => ?_)
            refine gw_iconst F dX12_tone_78 ?_
            refine gw_aload_n F 1 rfl rfl (by decide) dX12_tone_79 ?_
            refine gw_get0 F (so_64 hst) (by decide) rfl sg_lay_RX12 (j := 32) (by decide) rfl (host := "") (.inl kw_988) dX12_tone_80 (fun h22 => ?_)
            obtain ⟨s23, e24⟩ : ∃ z : sg_M, z = sg_up s19 77 0 (s19 64 32) := ⟨_, rfl⟩
            have hf := hf s23 e24
            refine gw_iast F (sa_77 hst) (by decide) (by decide) h22 e24 dX12_tone_83 ?_
            refine gw_aload_n F 1 rfl rfl (by decide) dX12_tone_84 ?_
            refine gw_get7 F (so_64 hst) (by decide) rfl sg_lay_RX12 (j := 34) (by decide) (o1 := 77) (by first | rfl | omega) rfl (host := "") (.inl kw_990) dX12_tone_85 (fun h25 => ?_)
            refine gw_iconst F dX12_tone_88 ?_
            refine gw_aload_n F 1 rfl rfl (by decide) dX12_tone_89 ?_
            refine gw_get0 F (so_64 hst) (by decide) rfl sg_lay_RX12 (j := 33) (by decide) rfl (host := "") (.inl kw_989) dX12_tone_90 (fun h26 => ?_)
            obtain ⟨s27, e28⟩ : ∃ z : sg_M, z = sg_up s23 77 1 (s23 64 33) := ⟨_, rfl⟩
            have hf := hf s27 e28
            refine gw_iast F (sa_77 hst) (by decide) (by decide) h26 e28 dX12_tone_93 ?_
            refine gw_aload_n F 1 rfl rfl (by decide) dX12_tone_94 ?_
            refine gw_get7 F (so_64 hst) (by decide) rfl sg_lay_RX12 (j := 34) (by decide) (o1 := 77) (by first | rfl | omega) rfl (host := "") (.inl kw_990) dX12_tone_95 (fun h29 => ?_)
            refine gw_iconst F dX12_tone_98 ?_
            refine gw_aload_n F 1 rfl rfl (by decide) dX12_tone_99 ?_
            refine gk_PZ F (gc_V F (S := [sg_i 2, sg_r 77]) (As := []) (T := TX12) (N := 62) (CX12_isShut hst hf) (so_64 hst) (by decide) rfl kw_1148 kw_103 kw_1146 kw_1147 kw_59 hcX12_isShut ⟨by decide, by decide⟩ rfl rfl (Nat.le_of_ble_eq_true rfl) ⟨by decide, by decide⟩ dX12_tone_100) (fun u30 h31 hf => ?_)
            have J111 : ∀ (y0_111 : Int), sg_R y0_111 → (fX12_tone_j111 x3 u17 s27 Q) y0_111 → sg_W p l e (sg_rm 4 0 0) s m args below meth c (MQ below (sg_Q (some .int) G La s.heap.size (sg_HI La Q)) args s 0 0 (sg_A La s.heap.size)) 7 G (sg_A La s.heap.size) La s27 0 0 111 [(0, sg_r 64), (3, sg_i x3), (5, sg_i u17)] [sg_i y0_111, sg_i 2, sg_r 77] := by
              intro y0_111 ry0_111 hf
              unfold fX12_tone_j111 at hf
              obtain ⟨s32, e33⟩ : ∃ z : sg_M, z = sg_up s27 77 2 y0_111 := ⟨_, rfl⟩
              have hf := hf s32 e33
              refine gw_iast F (sa_77 hst) (by decide) (by decide) ry0_111 e33 dX12_tone_111 ?_
              refine gw_aload_n F 0 rfl rfl (by decide) dX12_tone_112 ?_
              refine gw_get7 F (so_64 hst) (by decide) rfl sg_lay_RX12 (j := 34) (by decide) (o1 := 77) (by first | rfl | omega) rfl (host := "") (.inl kw_990) dX12_tone_113 (fun h34 => ?_)
              refine gw_iconst F dX12_tone_116 ?_
              refine gw_aload_n F 0 rfl rfl (by decide) dX12_tone_117 ?_
              refine gw_aload_n F 0 rfl rfl (by decide) dX12_tone_118 ?_
              refine gw_get7 F (so_64 hst) (by decide) rfl sg_lay_RX12 (j := 25) (by decide) (o1 := 75) (by first | rfl | omega) rfl (host := "") (.inl kw_981) dX12_tone_119 (fun h35 => ?_)
              refine gw_iload_n F 1 rfl rfl dX12_tone_122 ?_
              obtain ⟨⟨b360, b361⟩, hf⟩ := hf
              refine gw_iald F (sa_75 hst) b360 b361 dX12_tone_123 (fun h37 => ?_)
              refine gk_PZ F (gc_V F (S := [sg_i 3, sg_r 77]) (As := [sg_i (s32 75 x3)]) (T := TX12) (N := 62) (CX12_isTwice hst h37 hf) (so_64 hst) (by decide) rfl kw_1151 kw_103 kw_1149 kw_1150 kw_60 hcX12_isTwice ⟨by decide, by decide⟩ rfl rfl (Nat.le_of_ble_eq_true rfl) ⟨by decide, by decide⟩ dX12_tone_124) (fun u38 h39 hf => ?_)
              have J135 : ∀ (y0_135 : Int), sg_R y0_135 → (fX12_tone_j135 u17 s32 Q) y0_135 → sg_W p l e (sg_rm 4 0 0) s m args below meth c (MQ below (sg_Q (some .int) G La s.heap.size (sg_HI La Q)) args s 0 0 (sg_A La s.heap.size)) 7 G (sg_A La s.heap.size) La s32 0 0 135 [(0, sg_r 64), (5, sg_i u17)] [sg_i y0_135, sg_i 3, sg_r 77] := by
                intro y0_135 ry0_135 hf
                unfold fX12_tone_j135 at hf
                obtain ⟨s40, e41⟩ : ∃ z : sg_M, z = sg_up s32 77 3 y0_135 := ⟨_, rfl⟩
                have hf := hf s40 e41
                refine gw_iast F (sa_77 hst) (by decide) (by decide) ry0_135 e41 dX12_tone_135 ?_
                refine gw_aload_n F 0 rfl rfl (by decide) dX12_tone_136 ?_
                refine gw_get7 F (so_64 hst) (by decide) rfl sg_lay_RX12 (j := 34) (by decide) (o1 := 77) (by first | rfl | omega) rfl (host := "") (.inl kw_990) dX12_tone_137 (fun h42 => ?_)
                refine gw_iconst F dX12_tone_140 ?_
                refine gw_aload_n F 0 rfl rfl (by decide) dX12_tone_141 ?_
                refine gw_iload F 1 rfl dX12_tone_142 ?_
                refine gk_PI F (gc_V F (S := [sg_i 4, sg_r 77]) (As := [sg_i u17]) (T := TX12) (N := 62) (CX12_rings hst h18 hf) (so_64 hst) (by decide) rfl kw_1154 kw_103 kw_1152 kw_1153 kw_61 hcX12_rings ⟨by decide, by decide⟩ rfl rfl (Nat.le_of_ble_eq_true rfl) ⟨by decide, by decide⟩ dX12_tone_144) (fun u43 h44 hf => ?_)
                obtain ⟨s45, e46⟩ : ∃ z : sg_M, z = sg_up s40 77 4 u43 := ⟨_, rfl⟩
                have hf := hf s45 e46
                refine gw_iast F (sa_77 hst) (by decide) (by decide) h44 e46 dX12_tone_147 ?_
                refine gw_aload_n F 0 rfl rfl (by decide) dX12_tone_148 ?_
                refine gw_aload_n F 0 rfl rfl (by decide) dX12_tone_149 ?_
                refine gw_get0 F (so_64 hst) (by decide) rfl sg_lay_RX12 (j := 27) (by decide) rfl (host := "") (.inl kw_983) dX12_tone_150 (fun h47 => ?_)
                obtain ⟨s48, e49⟩ : ∃ z : sg_M, z = sg_up s45 64 37 (s45 64 27) := ⟨_, rfl⟩
                have hf := hf s48 e49
                refine gw_put0 F (so_64 hst) (by decide) rfl sg_lay_RX12 (j := 37) (by decide) h47 e49 tyX12_ok nmX12 rfl (tyX12_ok 37 (by decide)) rfl (host := "") (.inl kw_993) dX12_tone_153 ?_
                refine gw_iconst F dX12_tone_156 ?_
                refine gw_istore F (by decide) rfl dX12_tone_157 ?_
                have L159 : ∀ n_159 : Nat, ∀ (s_159 : sg_M) (x6_159 : Int), sg_R x6_159 → fX12_tone_L159 u17 Q n_159 s_159 x6_159 → sg_W p l e (sg_rm 4 0 0) s m args below meth c (MQ below (sg_Q (some .int) G La s.heap.size (sg_HI La Q)) args s 0 0 (sg_A La s.heap.size)) 7 G (sg_A La s.heap.size) La s_159 0 0 159 [(0, sg_r 64), (5, sg_i u17), (6, sg_i x6_159)] [] := by
                  intro n_159
                  induction n_159 with
                  | zero => intro s_159 x6_159 r6_159 hf; exact hf.elim
                  | succ n_159 ih =>
                    intro s_159 x6_159 r6_159 hf
                    unfold fX12_tone_L159 at hf
                    refine gw_iload F 2 rfl dX12_tone_159 ?_
                    refine gw_aload_n F 0 rfl rfl (by decide) dX12_tone_161 ?_
                    refine gw_get0 F (so_64 hst) (by decide) rfl sg_lay_RX12 (j := 27) (by decide) rfl (host := "") (.inl kw_983) dX12_tone_162 (fun h50 => ?_)
                    refine gw_icmp_ge F (tgt := 189) dX12_tone_165 (by decide) r6_159 h50 (fun c51 => ?_) (fun c51 => ?_)
                    · have hf := hf.1 c51
                      refine gw_iload F 1 rfl dX12_tone_189 ?_
                      exact gr_HI F h18 hf (by decide) (by decide) dX12_tone_191
                    · have hf := hf.2 c51
                      refine gw_aload_n F 0 rfl rfl (by decide) dX12_tone_168 ?_
                      refine gw_get7 F (so_64 hst) (by decide) rfl sg_lay_RX12 (j := 35) (by decide) (o1 := 78) (by first | rfl | omega) rfl (host := "") (.inl kw_991) dX12_tone_169 (fun h52 => ?_)
                      refine gw_iload F 2 rfl dX12_tone_172 ?_
                      refine gw_aload_n F 0 rfl rfl (by decide) dX12_tone_174 ?_
                      refine gw_iload F 2 rfl dX12_tone_175 ?_
                      refine gw_iload F 1 rfl dX12_tone_177 ?_
                      refine gk_PI F (gc_V F (S := [sg_i x6_159, sg_r 78]) (As := [sg_i x6_159, sg_i u17]) (T := TX12) (N := 62) (CX12_strengthAt hst r6_159 h18 hf) (so_64 hst) (by decide) rfl kw_1157 kw_103 kw_1155 kw_1156 kw_62 hcX12_strengthAt ⟨by decide, by decide⟩ rfl rfl (Nat.le_of_ble_eq_true rfl) ⟨by decide, by decide⟩ dX12_tone_179) (fun u53 h54 hf => ?_)
                      obtain ⟨⟨b550, b551⟩, hf⟩ := hf
                      obtain ⟨s56, e57⟩ : ∃ z : sg_M, z = sg_up s_159 78 x6_159 u53 := ⟨_, rfl⟩
                      have hf := hf s56 e57
                      refine gw_iast F (sa_78 hst) b550 b551 h54 e57 dX12_tone_182 ?_
                      refine gw_iinc F (z := (x6_159 + 1)) 2 rfl (by omega) (by decide) rfl dX12_tone_183 ?_
                      refine gw_goto F (tgt := 159) dX12_tone_186 (by decide) ?_
                      obtain ⟨g58, hf⟩ := hf
                      refine gw_sub [1, 2, 0] rfl ?_
                      exact ih s56 (x6_159 + 1) g58 hf
                obtain ⟨n59, hf⟩ := hf
                refine gw_sub [1, 2, 0] rfl ?_
                refine L159   n59 s48 0 (by decide) hf
              refine gw_if_eq F (tgt := 134) dX12_tone_127 (by decide) (sg_B_R h39) (fun c60 => ?_) (fun c60 => ?_)
              · have hf := hf.1 c60
                refine gw_iconst F dX12_tone_134 ?_
                refine gw_sub [0, 2] rfl ?_
                exact J135 0 (by decide) hf
              · have hf := hf.2 c60
                refine gw_iconst F dX12_tone_130 ?_
                refine gw_goto F (tgt := 135) dX12_tone_131 (by decide) ?_
                refine gw_sub [0, 2] rfl ?_
                exact J135 1 (by decide) hf
            refine gw_if_eq F (tgt := 110) dX12_tone_103 (by decide) (sg_B_R h31) (fun c61 => ?_) (fun c61 => ?_)
            · have hf := hf.1 c61
              refine gw_iconst F dX12_tone_110 ?_
              refine gw_sub [1, 4, 0] rfl ?_
              exact J111 0 (by decide) hf
            · have hf := hf.2 c61
              refine gw_iconst F dX12_tone_106 ?_
              refine gw_goto F (tgt := 111) dX12_tone_107 (by decide) ?_
              refine gw_sub [1, 4, 0] rfl ?_
              exact J111 1 (by decide) hf
          · have hf := hf.2 c20
            refine gw_iconst F dX12_tone_72 ?_
            exact gr_HI F (by decide) hf (by decide) (by decide) dX12_tone_73
        · have hf := hf.2 c13
          refine gw_iconst F dX12_tone_50 ?_
          exact gr_HI F (by decide) hf (by decide) (by decide) dX12_tone_51
      · have hf := hf.2 c10
        refine gw_iconst F dX12_tone_31 ?_
        exact gr_HI F (by decide) hf (by decide) (by decide) dX12_tone_32

theorem dX12_bow_0 : decode cX12_bow 0 = .ok (.aload_n 0, 1) := by decide +kernel
theorem dX12_bow_1 : decode cX12_bow 1 = .ok (.iconst 0, 1) := by decide +kernel
theorem dX12_bow_2 : decode cX12_bow 2 = .ok (.putfield 84, 3) := by decide +kernel
theorem dX12_bow_5 : decode cX12_bow 5 = .ok (.iload_n 1, 1) := by decide +kernel
theorem dX12_bow_6 : decode cX12_bow 6 = .ok (.ifCond .lt 20, 3) := by decide +kernel
theorem dX12_bow_9 : decode cX12_bow 9 = .ok (.iload_n 1, 1) := by decide +kernel
theorem dX12_bow_10 : decode cX12_bow 10 = .ok (.aload_n 0, 1) := by decide +kernel
theorem dX12_bow_11 : decode cX12_bow 11 = .ok (.getfield 264, 3) := by decide +kernel
theorem dX12_bow_14 : decode cX12_bow 14 = .ok (.if_icmp .ge 12, 3) := by decide +kernel
theorem dX12_bow_17 : decode cX12_bow 17 = .ok (.aload_n 0, 1) := by decide +kernel
theorem dX12_bow_18 : decode cX12_bow 18 = .ok (.getfield 50, 3) := by decide +kernel
theorem dX12_bow_21 : decode cX12_bow 21 = .ok (.iload_n 1, 1) := by decide +kernel
theorem dX12_bow_22 : decode cX12_bow 22 = .ok (.iaload, 1) := by decide +kernel
theorem dX12_bow_23 : decode cX12_bow 23 = .ok (.goto 4, 3) := by decide +kernel
theorem dX12_bow_26 : decode cX12_bow 26 = .ok (.iconst (-1), 1) := by decide +kernel
theorem dX12_bow_27 : decode cX12_bow 27 = .ok (.ireturn, 1) := by decide +kernel
theorem hcX12_bow : yX12_bow.cls ≠ "java/lang/invoke/MethodHandle" ∧ yX12_bow.cls ≠ "java/lang/invoke/VarHandle" ∧ (parseMethodDescriptor yX12_bow.desc).map (fun d => d.parameters.length) = some 1 := ⟨by decide +kernel, by decide +kernel, by decide +kernel⟩
def fX12_bow (s0 : sg_M) (x1 : Int) (Q : Int → sg_M → Prop) : Prop := ∀ s1 : sg_M, s1 = sg_up s0 64 0 0 → ((x1 < 0 → Q (-1) s1) ∧ (¬ (x1 < 0) → (((s1 64 37) ≤ x1 → Q (-1) s1) ∧ (¬ ((s1 64 37) ≤ x1) → (0 ≤ x1 ∧ x1 < 60) ∧ Q (s1 78 x1) s1))))
set_option maxHeartbeats 4000000 in
set_option maxRecDepth 100000 in
theorem CX12_bow {l : Launch} {G : sg_G} {La : sg_L} {s0 : sg_M} (hst : sg_St La) {x1 : Int} (r1 : sg_R x1) {Q : Int → sg_M → Prop} (hf : fX12_bow s0 x1 Q) : sg_C l G yX12_bow cX12_bow 2 (some .int) 1 0 0 La s0 [sg_r 64, sg_i x1] (sg_HI La Q) := by
  refine sg_body (by decide +kernel) (Nat.le_of_ble_eq_true rfl) ?_
  intro p e s m args below meth c F hnm
  unfold fX12_bow at hf
  show sg_W p l e (sg_rm 1 0 0) s m args below meth c (MQ below (sg_Q (some .int) G La s.heap.size (sg_HI La Q)) args s 0 0 (sg_A La s.heap.size)) 2 G (sg_A La s.heap.size) La s0 0 0 0 [(0, sg_r 64), (1, sg_i x1)] []
  refine gw_aload_n F 0 rfl rfl (by decide) dX12_bow_0 ?_
  refine gw_iconst F dX12_bow_1 ?_
  obtain ⟨s1, e2⟩ : ∃ z : sg_M, z = sg_up s0 64 0 0 := ⟨_, rfl⟩
  have hf := hf s1 e2
  refine gw_put0 F (so_64 hst) (by decide) rfl sg_lay_RX12 (j := 0) (by decide) (by decide) e2 tyX12_ok nmX12 rfl (tyX12_ok 0 (by decide)) rfl (host := "") (.inl kw_956) dX12_bow_2 ?_
  refine gw_iload_n F 1 rfl rfl dX12_bow_5 ?_
  refine gw_if_lt F (tgt := 26) dX12_bow_6 (by decide) r1 (fun c3 => ?_) (fun c3 => ?_)
  · have hf := hf.1 c3
    refine gw_iconst F dX12_bow_26 ?_
    exact gr_HI F (by decide) hf (by decide) (by decide) dX12_bow_27
  · have hf := hf.2 c3
    refine gw_iload_n F 1 rfl rfl dX12_bow_9 ?_
    refine gw_aload_n F 0 rfl rfl (by decide) dX12_bow_10 ?_
    refine gw_get0 F (so_64 hst) (by decide) rfl sg_lay_RX12 (j := 37) (by decide) rfl (host := "") (.inl kw_993) dX12_bow_11 (fun h4 => ?_)
    refine gw_icmp_ge F (tgt := 26) dX12_bow_14 (by decide) r1 h4 (fun c5 => ?_) (fun c5 => ?_)
    · have hf := hf.1 c5
      refine gw_iconst F dX12_bow_26 ?_
      exact gr_HI F (by decide) hf (by decide) (by decide) dX12_bow_27
    · have hf := hf.2 c5
      refine gw_aload_n F 0 rfl rfl (by decide) dX12_bow_17 ?_
      refine gw_get7 F (so_64 hst) (by decide) rfl sg_lay_RX12 (j := 35) (by decide) (o1 := 78) (by first | rfl | omega) rfl (host := "") (.inl kw_991) dX12_bow_18 (fun h6 => ?_)
      refine gw_iload_n F 1 rfl rfl dX12_bow_21 ?_
      obtain ⟨⟨b70, b71⟩, hf⟩ := hf
      refine gw_iald F (sa_78 hst) b70 b71 dX12_bow_22 (fun h8 => ?_)
      refine gw_goto F (tgt := 27) dX12_bow_23 (by decide) ?_
      exact gr_HI F h8 hf (by decide) (by decide) dX12_bow_27

theorem dX12_voice_0 : decode cX12_voice 0 = .ok (.aload_n 0, 1) := by decide +kernel
theorem dX12_voice_1 : decode cX12_voice 1 = .ok (.iconst 0, 1) := by decide +kernel
theorem dX12_voice_2 : decode cX12_voice 2 = .ok (.putfield 84, 3) := by decide +kernel
theorem dX12_voice_5 : decode cX12_voice 5 = .ok (.aload_n 0, 1) := by decide +kernel
theorem dX12_voice_6 : decode cX12_voice 6 = .ok (.invokevirtual 175, 3) := by decide +kernel
theorem dX12_voice_9 : decode cX12_voice 9 = .ok (.aload_n 0, 1) := by decide +kernel
theorem dX12_voice_10 : decode cX12_voice 10 = .ok (.iload_n 1, 1) := by decide +kernel
theorem dX12_voice_11 : decode cX12_voice 11 = .ok (.invokevirtual 323, 3) := by decide +kernel
theorem dX12_voice_14 : decode cX12_voice 14 = .ok (.ifCond .eq 12, 3) := by decide +kernel
theorem dX12_voice_17 : decode cX12_voice 17 = .ok (.iload_n 2, 1) := by decide +kernel
theorem dX12_voice_18 : decode cX12_voice 18 = .ok (.iconst 0, 1) := by decide +kernel
theorem dX12_voice_19 : decode cX12_voice 19 = .ok (.iconst 1, 1) := by decide +kernel
theorem dX12_voice_20 : decode cX12_voice 20 = .ok (.invokestatic 155, 3) := by decide +kernel
theorem dX12_voice_23 : decode cX12_voice 23 = .ok (.ifCond .ne 5, 3) := by decide +kernel
theorem dX12_voice_26 : decode cX12_voice 26 = .ok (.iconst (-1), 1) := by decide +kernel
theorem dX12_voice_27 : decode cX12_voice 27 = .ok (.ireturn, 1) := by decide +kernel
theorem dX12_voice_28 : decode cX12_voice 28 = .ok (.aload_n 0, 1) := by decide +kernel
theorem dX12_voice_29 : decode cX12_voice 29 = .ok (.aload_n 0, 1) := by decide +kernel
theorem dX12_voice_30 : decode cX12_voice 30 = .ok (.iload_n 1, 1) := by decide +kernel
theorem dX12_voice_31 : decode cX12_voice 31 = .ok (.invokevirtual 326, 3) := by decide +kernel
theorem dX12_voice_34 : decode cX12_voice 34 = .ok (.aload_n 0, 1) := by decide +kernel
theorem dX12_voice_35 : decode cX12_voice 35 = .ok (.iload_n 1, 1) := by decide +kernel
theorem dX12_voice_36 : decode cX12_voice 36 = .ok (.invokevirtual 329, 3) := by decide +kernel
theorem dX12_voice_39 : decode cX12_voice 39 = .ok (.invokevirtual 317, 3) := by decide +kernel
theorem dX12_voice_42 : decode cX12_voice 42 = .ok (.pop, 1) := by decide +kernel
theorem dX12_voice_43 : decode cX12_voice 43 = .ok (.iload_n 2, 1) := by decide +kernel
theorem dX12_voice_44 : decode cX12_voice 44 = .ok (.ifCond .ne 10, 3) := by decide +kernel
theorem dX12_voice_47 : decode cX12_voice 47 = .ok (.aload_n 0, 1) := by decide +kernel
theorem dX12_voice_48 : decode cX12_voice 48 = .ok (.getfield 273, 3) := by decide +kernel
theorem dX12_voice_51 : decode cX12_voice 51 = .ok (.goto 7, 3) := by decide +kernel
theorem dX12_voice_54 : decode cX12_voice 54 = .ok (.aload_n 0, 1) := by decide +kernel
theorem dX12_voice_55 : decode cX12_voice 55 = .ok (.getfield 276, 3) := by decide +kernel
theorem dX12_voice_58 : decode cX12_voice 58 = .ok (.ireturn, 1) := by decide +kernel
theorem hcX12_voice : yX12_voice.cls ≠ "java/lang/invoke/MethodHandle" ∧ yX12_voice.cls ≠ "java/lang/invoke/VarHandle" ∧ (parseMethodDescriptor yX12_voice.desc).map (fun d => d.parameters.length) = some 2 := ⟨by decide +kernel, by decide +kernel, by decide +kernel⟩
def fX12_voice (s0 : sg_M) (x1 : Int) (x2 : Int) (Q : Int → sg_M → Prop) : Prop := ∀ s1 : sg_M, s1 = sg_up s0 64 0 0 → fX12_lay s1 (fun s3 => fX12_isWritten s3 x1 (fun u4 => ((u4 = 0 → Q (-1) s3) ∧ (¬ (u4 = 0) → fX12_isIn x2 0 1 (fun u7 => ((u7 ≠ 0 → fX12_aOf s3 x1 (fun u10 => fX12_bOf s3 x1 (fun u12 => fX12_voiceOf s3 u10 u12 (fun u14 s16 => ((x2 ≠ 0 → Q (s16 64 40) s16) ∧ (x2 = 0 → Q (s16 64 39) s16)))))) ∧ (u7 = 0 → Q (-1) s3)))))))
set_option maxHeartbeats 4000000 in
set_option maxRecDepth 100000 in
theorem CX12_voice {l : Launch} {G : sg_G} {La : sg_L} {s0 : sg_M} (hst : sg_St La) {x1 : Int} (r1 : sg_R x1) {x2 : Int} (r2 : sg_R x2) {Q : Int → sg_M → Prop} (hf : fX12_voice s0 x1 x2 Q) : sg_C l G yX12_voice cX12_voice 3 (some .int) 6 0 0 La s0 [sg_r 64, sg_i x1, sg_i x2] (sg_HI La Q) := by
  refine sg_body (by decide +kernel) (Nat.le_of_ble_eq_true rfl) ?_
  intro p e s m args below meth c F hnm
  unfold fX12_voice at hf
  show sg_W p l e (sg_rm 6 0 0) s m args below meth c (MQ below (sg_Q (some .int) G La s.heap.size (sg_HI La Q)) args s 0 0 (sg_A La s.heap.size)) 3 G (sg_A La s.heap.size) La s0 0 0 0 [(0, sg_r 64), (1, sg_i x1), (2, sg_i x2)] []
  refine gw_aload_n F 0 rfl rfl (by decide) dX12_voice_0 ?_
  refine gw_iconst F dX12_voice_1 ?_
  obtain ⟨s1, e2⟩ : ∃ z : sg_M, z = sg_up s0 64 0 0 := ⟨_, rfl⟩
  have hf := hf s1 e2
  refine gw_put0 F (so_64 hst) (by decide) rfl sg_lay_RX12 (j := 0) (by decide) (by decide) e2 tyX12_ok nmX12 rfl (tyX12_ok 0 (by decide)) rfl (host := "") (.inl kw_956) dX12_voice_2 ?_
  refine gw_aload_n F 0 rfl rfl (by decide) dX12_voice_5 ?_
  refine gk_HV F (gc_V F (S := []) (As := []) (T := TX12) (N := 62) (CX12_lay hst hf) (so_64 hst) (by decide) rfl kw_1043 kw_103 kw_1041 kw_1042 kw_41 hcX12_lay ⟨by decide, by decide⟩ rfl rfl (Nat.le_of_ble_eq_true rfl) ⟨by decide, by decide⟩ dX12_voice_6) (fun s3 hf => ?_)
  refine gw_aload_n F 0 rfl rfl (by decide) dX12_voice_9 ?_
  refine gw_iload_n F 1 rfl rfl dX12_voice_10 ?_
  refine gk_PZ F (gc_V F (S := []) (As := [sg_i x1]) (T := TX12) (N := 62) (CX12_isWritten hst r1 hf) (so_64 hst) (by decide) rfl kw_1219 kw_103 kw_1217 kw_1218 kw_71 hcX12_isWritten ⟨by decide, by decide⟩ rfl rfl (Nat.le_of_ble_eq_true rfl) ⟨by decide, by decide⟩ dX12_voice_11) (fun u4 h5 hf => ?_)
  refine gw_if_eq F (tgt := 26) dX12_voice_14 (by decide) (sg_B_R h5) (fun c6 => ?_) (fun c6 => ?_)
  · have hf := hf.1 c6
    refine gw_iconst F dX12_voice_26 ?_
    exact gr_HI F (by decide) hf (by decide) (by decide) dX12_voice_27
  · have hf := hf.2 c6
    refine gw_iload_n F 2 rfl rfl dX12_voice_17 ?_
    refine gw_iconst F dX12_voice_18 ?_
    refine gw_iconst F dX12_voice_19 ?_
    refine gk_PZ F (gc_S F (S := []) (As := [sg_i x2, sg_i 0, sg_i 1]) (CX12_isIn r2 (by decide) (by decide) hf) kw_1084 kw_103 kw_1082 kw_1083 hcX12_isIn ⟨by decide, by decide⟩ rfl rfl (Nat.le_of_ble_eq_true rfl) ⟨by decide, by decide⟩ dX12_voice_20) (fun u7 h8 hf => ?_)
    refine gw_if_ne F (tgt := 28) dX12_voice_23 (by decide) (sg_B_R h8) (fun c9 => ?_) (fun c9 => ?_)
    · have hf := hf.1 c9
      refine gw_aload_n F 0 rfl rfl (by decide) dX12_voice_28 ?_
      refine gw_aload_n F 0 rfl rfl (by decide) dX12_voice_29 ?_
      refine gw_iload_n F 1 rfl rfl dX12_voice_30 ?_
      refine gk_PI F (gc_V F (S := [sg_r 64]) (As := [sg_i x1]) (T := TX12) (N := 62) (CX12_aOf hst r1 hf) (so_64 hst) (by decide) rfl kw_1222 kw_103 kw_1220 kw_1221 kw_72 hcX12_aOf ⟨by decide, by decide⟩ rfl rfl (Nat.le_of_ble_eq_true rfl) ⟨by decide, by decide⟩ dX12_voice_31) (fun u10 h11 hf => ?_)
      refine gw_aload_n F 0 rfl rfl (by decide) dX12_voice_34 ?_
      refine gw_iload_n F 1 rfl rfl dX12_voice_35 ?_
      refine gk_PI F (gc_V F (S := [sg_i u10, sg_r 64]) (As := [sg_i x1]) (T := TX12) (N := 62) (CX12_bOf hst r1 hf) (so_64 hst) (by decide) rfl kw_1225 kw_103 kw_1223 kw_1224 kw_73 hcX12_bOf ⟨by decide, by decide⟩ rfl rfl (Nat.le_of_ble_eq_true rfl) ⟨by decide, by decide⟩ dX12_voice_36) (fun u12 h13 hf => ?_)
      refine gk_HI F (gc_V F (S := []) (As := [sg_i u10, sg_i u12]) (T := TX12) (N := 62) (CX12_voiceOf hst h11 h13 hf) (so_64 hst) (by decide) rfl kw_1202 kw_103 kw_1200 kw_1201 kw_68 hcX12_voiceOf ⟨by decide, by decide⟩ rfl rfl (Nat.le_of_ble_eq_true rfl) ⟨by decide, by decide⟩ dX12_voice_39) (fun u14 s16 h15 hf => ?_)
      refine gw_pop F rfl dX12_voice_42 ?_
      refine gw_iload_n F 2 rfl rfl dX12_voice_43 ?_
      refine gw_if_ne F (tgt := 54) dX12_voice_44 (by decide) r2 (fun c17 => ?_) (fun c17 => ?_)
      · have hf := hf.1 c17
        refine gw_aload_n F 0 rfl rfl (by decide) dX12_voice_54 ?_
        refine gw_get0 F (so_64 hst) (by decide) rfl sg_lay_RX12 (j := 40) (by decide) rfl (host := "") (.inl kw_996) dX12_voice_55 (fun h18 => ?_)
        exact gr_HI F h18 hf (by decide) (by decide) dX12_voice_58
      · have hf := hf.2 c17
        refine gw_aload_n F 0 rfl rfl (by decide) dX12_voice_47 ?_
        refine gw_get0 F (so_64 hst) (by decide) rfl sg_lay_RX12 (j := 39) (by decide) rfl (host := "") (.inl kw_995) dX12_voice_48 (fun h19 => ?_)
        refine gw_goto F (tgt := 58) dX12_voice_51 (by decide) ?_
        exact gr_HI F h19 hf (by decide) (by decide) dX12_voice_58
    · have hf := hf.2 c9
      refine gw_iconst F dX12_voice_26 ?_
      exact gr_HI F (by decide) hf (by decide) (by decide) dX12_voice_27

theorem dX12_take_0 : decode cX12_take 0 = .ok (.aload_n 0, 1) := by decide +kernel
theorem dX12_take_1 : decode cX12_take 1 = .ok (.iconst 0, 1) := by decide +kernel
theorem dX12_take_2 : decode cX12_take 2 = .ok (.putfield 84, 3) := by decide +kernel
theorem dX12_take_5 : decode cX12_take 5 = .ok (.aload_n 0, 1) := by decide +kernel
theorem dX12_take_6 : decode cX12_take 6 = .ok (.invokevirtual 175, 3) := by decide +kernel
theorem dX12_take_9 : decode cX12_take 9 = .ok (.aload_n 0, 1) := by decide +kernel
theorem dX12_take_10 : decode cX12_take 10 = .ok (.iload_n 1, 1) := by decide +kernel
theorem dX12_take_11 : decode cX12_take 11 = .ok (.invokevirtual 353, 3) := by decide +kernel
theorem dX12_take_14 : decode cX12_take 14 = .ok (.ifCond .ne 5, 3) := by decide +kernel
theorem dX12_take_17 : decode cX12_take 17 = .ok (.iconst 0, 1) := by decide +kernel
theorem dX12_take_18 : decode cX12_take 18 = .ok (.ireturn, 1) := by decide +kernel
theorem dX12_take_19 : decode cX12_take 19 = .ok (.iconst 0, 1) := by decide +kernel
theorem dX12_take_20 : decode cX12_take 20 = .ok (.istore_n 2, 1) := by decide +kernel
theorem dX12_take_21 : decode cX12_take 21 = .ok (.iload_n 2, 1) := by decide +kernel
theorem dX12_take_22 : decode cX12_take 22 = .ok (.sipush 260, 3) := by decide +kernel
theorem dX12_take_25 : decode cX12_take 25 = .ok (.if_icmp .ge 31, 3) := by decide +kernel
theorem dX12_take_28 : decode cX12_take 28 = .ok (.aload_n 0, 1) := by decide +kernel
theorem dX12_take_29 : decode cX12_take 29 = .ok (.getfield 13, 3) := by decide +kernel
theorem dX12_take_32 : decode cX12_take 32 = .ok (.iload_n 2, 1) := by decide +kernel
theorem dX12_take_33 : decode cX12_take 33 = .ok (.aload_n 0, 1) := by decide +kernel
theorem dX12_take_34 : decode cX12_take 34 = .ok (.getfield 13, 3) := by decide +kernel
theorem dX12_take_37 : decode cX12_take 37 = .ok (.sipush 260, 3) := by decide +kernel
theorem dX12_take_40 : decode cX12_take 40 = .ok (.sipush 260, 3) := by decide +kernel
theorem dX12_take_43 : decode cX12_take 43 = .ok (.iload_n 1, 1) := by decide +kernel
theorem dX12_take_44 : decode cX12_take 44 = .ok (.imul, 1) := by decide +kernel
theorem dX12_take_45 : decode cX12_take 45 = .ok (.iadd, 1) := by decide +kernel
theorem dX12_take_46 : decode cX12_take 46 = .ok (.iload_n 2, 1) := by decide +kernel
theorem dX12_take_47 : decode cX12_take 47 = .ok (.iadd, 1) := by decide +kernel
theorem dX12_take_48 : decode cX12_take 48 = .ok (.iaload, 1) := by decide +kernel
theorem dX12_take_49 : decode cX12_take 49 = .ok (.iastore, 1) := by decide +kernel
theorem dX12_take_50 : decode cX12_take 50 = .ok (.iinc 2 1, 3) := by decide +kernel
theorem dX12_take_53 : decode cX12_take 53 = .ok (.goto (-32), 3) := by decide +kernel
theorem dX12_take_56 : decode cX12_take 56 = .ok (.iconst 1, 1) := by decide +kernel
theorem dX12_take_57 : decode cX12_take 57 = .ok (.ireturn, 1) := by decide +kernel
theorem hcX12_take : yX12_take.cls ≠ "java/lang/invoke/MethodHandle" ∧ yX12_take.cls ≠ "java/lang/invoke/VarHandle" ∧ (parseMethodDescriptor yX12_take.desc).map (fun d => d.parameters.length) = some 1 := ⟨by decide +kernel, by decide +kernel, by decide +kernel⟩
def fX12_take_L21 (x1 : Int) (Q : Int → sg_M → Prop) : Nat → sg_M → Int → Prop
  | 0, _, _ => False
  | n_21 + 1, s_21, x2_21 => ((260 ≤ x2_21 → Q 1 s_21) ∧ (¬ (260 ≤ x2_21) → (0 ≤ ((260 + (260 * x1)) + x2_21) ∧ ((260 + (260 * x1)) + x2_21) < 2040) ∧ (0 ≤ x2_21 ∧ x2_21 < 2040) ∧ ∀ v13 : Int, v13 = (s_21 66 ((260 + (260 * x1)) + x2_21)) → ∀ s15 : sg_M, s15 = sg_up s_21 66 x2_21 v13 → sg_R (x2_21 + 1) ∧ (fX12_take_L21 x1 Q n_21) s15 (x2_21 + 1)))
def fX12_take (s0 : sg_M) (x1 : Int) (Q : Int → sg_M → Prop) : Prop := ∀ s1 : sg_M, s1 = sg_up s0 64 0 0 → fX12_lay s1 (fun s3 => fX12_isThere s3 x1 (fun u4 => ((u4 ≠ 0 → (∃ n18 : Nat, fX12_take_L21 x1 Q n18 s3 0)) ∧ (u4 = 0 → Q 0 s3))))
set_option maxHeartbeats 4000000 in
set_option maxRecDepth 100000 in
theorem CX12_take {l : Launch} {G : sg_G} {La : sg_L} {s0 : sg_M} (hst : sg_St La) {x1 : Int} (r1 : sg_R x1) {Q : Int → sg_M → Prop} (hf : fX12_take s0 x1 Q) : sg_C l G yX12_take cX12_take 3 (some .boolean) 3 0 0 La s0 [sg_r 64, sg_i x1] (sg_HZ La Q) := by
  refine sg_body (by decide +kernel) (Nat.le_of_ble_eq_true rfl) ?_
  intro p e s m args below meth c F hnm
  unfold fX12_take at hf
  show sg_W p l e (sg_rm 3 0 0) s m args below meth c (MQ below (sg_Q (some .boolean) G La s.heap.size (sg_HZ La Q)) args s 0 0 (sg_A La s.heap.size)) 3 G (sg_A La s.heap.size) La s0 0 0 0 [(0, sg_r 64), (1, sg_i x1)] []
  refine gw_aload_n F 0 rfl rfl (by decide) dX12_take_0 ?_
  refine gw_iconst F dX12_take_1 ?_
  obtain ⟨s1, e2⟩ : ∃ z : sg_M, z = sg_up s0 64 0 0 := ⟨_, rfl⟩
  have hf := hf s1 e2
  refine gw_put0 F (so_64 hst) (by decide) rfl sg_lay_RX12 (j := 0) (by decide) (by decide) e2 tyX12_ok nmX12 rfl (tyX12_ok 0 (by decide)) rfl (host := "") (.inl kw_956) dX12_take_2 ?_
  refine gw_aload_n F 0 rfl rfl (by decide) dX12_take_5 ?_
  refine gk_HV F (gc_V F (S := []) (As := []) (T := TX12) (N := 62) (CX12_lay hst hf) (so_64 hst) (by decide) rfl kw_1043 kw_103 kw_1041 kw_1042 kw_41 hcX12_lay ⟨by decide, by decide⟩ rfl rfl (Nat.le_of_ble_eq_true rfl) ⟨by decide, by decide⟩ dX12_take_6) (fun s3 hf => ?_)
  refine gw_aload_n F 0 rfl rfl (by decide) dX12_take_9 ?_
  refine gw_iload_n F 1 rfl rfl dX12_take_10 ?_
  refine gk_PZ F (gc_V F (S := []) (As := [sg_i x1]) (T := TX12) (N := 62) (CX12_isThere hst r1 hf) (so_64 hst) (by decide) rfl kw_1281 kw_103 kw_1279 kw_1280 kw_77 hcX12_isThere ⟨by decide, by decide⟩ rfl rfl (Nat.le_of_ble_eq_true rfl) ⟨by decide, by decide⟩ dX12_take_11) (fun u4 h5 hf => ?_)
  refine gw_if_ne F (tgt := 19) dX12_take_14 (by decide) (sg_B_R h5) (fun c6 => ?_) (fun c6 => ?_)
  · have hf := hf.1 c6
    refine gw_iconst F dX12_take_19 ?_
    refine gw_istore_n F rfl (by decide) rfl dX12_take_20 ?_
    have L21 : ∀ n_21 : Nat, ∀ (s_21 : sg_M) (x2_21 : Int), sg_R x2_21 → fX12_take_L21 x1 Q n_21 s_21 x2_21 → sg_W p l e (sg_rm 3 0 0) s m args below meth c (MQ below (sg_Q (some .boolean) G La s.heap.size (sg_HZ La Q)) args s 0 0 (sg_A La s.heap.size)) 3 G (sg_A La s.heap.size) La s_21 0 0 21 [(0, sg_r 64), (1, sg_i x1), (2, sg_i x2_21)] [] := by
      intro n_21
      induction n_21 with
      | zero => intro s_21 x2_21 r2_21 hf; exact hf.elim
      | succ n_21 ih =>
        intro s_21 x2_21 r2_21 hf
        unfold fX12_take_L21 at hf
        refine gw_iload_n F 2 rfl rfl dX12_take_21 ?_
        refine gw_sipush F rfl dX12_take_22 ?_
        refine gw_icmp_ge F (tgt := 56) dX12_take_25 (by decide) r2_21 (by decide) (fun c7 => ?_) (fun c7 => ?_)
        · have hf := hf.1 c7
          refine gw_iconst F dX12_take_56 ?_
          exact gr_HZ F (by decide) hf (by decide) (by decide) dX12_take_57
        · have hf := hf.2 c7
          refine gw_aload_n F 0 rfl rfl (by decide) dX12_take_28 ?_
          refine gw_get7 F (so_64 hst) (by decide) rfl sg_lay_RX12 (j := 14) (by decide) (o1 := 66) (by first | rfl | omega) rfl (host := "") (.inl kw_970) dX12_take_29 (fun h8 => ?_)
          refine gw_iload_n F 2 rfl rfl dX12_take_32 ?_
          refine gw_aload_n F 0 rfl rfl (by decide) dX12_take_33 ?_
          refine gw_get7 F (so_64 hst) (by decide) rfl sg_lay_RX12 (j := 14) (by decide) (o1 := 66) (by first | rfl | omega) rfl (host := "") (.inl kw_970) dX12_take_34 (fun h9 => ?_)
          refine gw_sipush F rfl dX12_take_37 ?_
          refine gw_sipush F rfl dX12_take_40 ?_
          refine gw_iload_n F 1 rfl rfl dX12_take_43 ?_
          refine gw_imul F rfl dX12_take_44 ?_
          refine gw_iadd F rfl dX12_take_45 ?_
          refine gw_iload_n F 2 rfl rfl dX12_take_46 ?_
          refine gw_iadd F rfl dX12_take_47 ?_
          obtain ⟨⟨b100, b101⟩, hf⟩ := hf
          refine gw_iald F (sa_66 hst) b100 b101 dX12_take_48 (fun h11 => ?_)
          obtain ⟨⟨b120, b121⟩, hf⟩ := hf
          obtain ⟨v13, e14⟩ : ∃ z : Int, z = (s_21 66 ((260 + (260 * x1)) + x2_21)) := ⟨_, rfl⟩
          have hf := hf v13 e14
          refine gw_nmI e14 ?_
          obtain ⟨s15, e16⟩ : ∃ z : sg_M, z = sg_up s_21 66 x2_21 v13 := ⟨_, rfl⟩
          have hf := hf s15 e16
          refine gw_iast F (sa_66 hst) b120 b121 (e14 ▸ h11) e16 dX12_take_49 ?_
          refine gw_iinc F (z := (x2_21 + 1)) 2 rfl (by omega) (by decide) rfl dX12_take_50 ?_
          refine gw_goto F (tgt := 21) dX12_take_53 (by decide) ?_
          obtain ⟨g17, hf⟩ := hf
          refine gw_sub [1, 2, 0] rfl ?_
          exact ih s15 (x2_21 + 1) g17 hf
    obtain ⟨n18, hf⟩ := hf
    refine gw_sub [1, 2, 0] rfl ?_
    refine L21   n18 s3 0 (by decide) hf
  · have hf := hf.2 c6
    refine gw_iconst F dX12_take_17 ?_
    exact gr_HZ F (by decide) hf (by decide) (by decide) dX12_take_18

theorem dX12_readNumber_0 : decode cX12_readNumber 0 = .ok (.aload_n 0, 1) := by decide +kernel
theorem dX12_readNumber_1 : decode cX12_readNumber 1 = .ok (.getfield 106, 3) := by decide +kernel
theorem dX12_readNumber_4 : decode cX12_readNumber 4 = .ok (.iconst 3, 1) := by decide +kernel
theorem dX12_readNumber_5 : decode cX12_readNumber 5 = .ok (.if_icmp .eq 9, 3) := by decide +kernel
theorem dX12_readNumber_8 : decode cX12_readNumber 8 = .ok (.aload_n 0, 1) := by decide +kernel
theorem dX12_readNumber_9 : decode cX12_readNumber 9 = .ok (.iconst 1, 1) := by decide +kernel
theorem dX12_readNumber_10 : decode cX12_readNumber 10 = .ok (.invokevirtual 152, 3) := by decide +kernel
theorem dX12_readNumber_13 : decode cX12_readNumber 13 = .ok (.ireturn, 1) := by decide +kernel
theorem dX12_readNumber_14 : decode cX12_readNumber 14 = .ok (.aload_n 0, 1) := by decide +kernel
theorem dX12_readNumber_15 : decode cX12_readNumber 15 = .ok (.getfield 123, 3) := by decide +kernel
theorem dX12_readNumber_18 : decode cX12_readNumber 18 = .ok (.iload_n 1, 1) := by decide +kernel
theorem dX12_readNumber_19 : decode cX12_readNumber 19 = .ok (.iload_n 2, 1) := by decide +kernel
theorem dX12_readNumber_20 : decode cX12_readNumber 20 = .ok (.invokestatic 155, 3) := by decide +kernel
theorem dX12_readNumber_23 : decode cX12_readNumber 23 = .ok (.ifCond .ne 9, 3) := by decide +kernel
theorem dX12_readNumber_26 : decode cX12_readNumber 26 = .ok (.aload_n 0, 1) := by decide +kernel
theorem dX12_readNumber_27 : decode cX12_readNumber 27 = .ok (.iconst 2, 1) := by decide +kernel
theorem dX12_readNumber_28 : decode cX12_readNumber 28 = .ok (.invokevirtual 152, 3) := by decide +kernel
theorem dX12_readNumber_31 : decode cX12_readNumber 31 = .ok (.ireturn, 1) := by decide +kernel
theorem dX12_readNumber_32 : decode cX12_readNumber 32 = .ok (.aload_n 0, 1) := by decide +kernel
theorem dX12_readNumber_33 : decode cX12_readNumber 33 = .ok (.aload_n 0, 1) := by decide +kernel
theorem dX12_readNumber_34 : decode cX12_readNumber 34 = .ok (.getfield 123, 3) := by decide +kernel
theorem dX12_readNumber_37 : decode cX12_readNumber 37 = .ok (.putfield 159, 3) := by decide +kernel
theorem dX12_readNumber_40 : decode cX12_readNumber 40 = .ok (.aload_n 0, 1) := by decide +kernel
theorem dX12_readNumber_41 : decode cX12_readNumber 41 = .ok (.invokevirtual 162, 3) := by decide +kernel
theorem dX12_readNumber_44 : decode cX12_readNumber 44 = .ok (.iconst 1, 1) := by decide +kernel
theorem dX12_readNumber_45 : decode cX12_readNumber 45 = .ok (.ireturn, 1) := by decide +kernel
theorem hcX12_readNumber : yX12_readNumber.cls ≠ "java/lang/invoke/MethodHandle" ∧ yX12_readNumber.cls ≠ "java/lang/invoke/VarHandle" ∧ (parseMethodDescriptor yX12_readNumber.desc).map (fun d => d.parameters.length) = some 2 := ⟨by decide +kernel, by decide +kernel, by decide +kernel⟩
def fX12_readNumber (s0 : sg_M) (x1 : Int) (x2 : Int) (Q : Int → sg_M → Prop) : Prop := (((s0 64 7) = 3 → fX12_isIn (s0 64 8) x1 x2 (fun u4 => ((u4 ≠ 0 → ∀ s8 : sg_M, s8 = sg_up s0 64 13 (s0 64 8) → fX12_go s8 (fun s10 => Q 1 s10)) ∧ (u4 = 0 → fX12_bad s0 2 (fun u11 s13 => Q u11 s13))))) ∧ (¬ ((s0 64 7) = 3) → fX12_bad s0 1 (fun u14 s16 => Q u14 s16)))
set_option maxHeartbeats 4000000 in
set_option maxRecDepth 100000 in
theorem CX12_readNumber {l : Launch} {G : sg_G} {La : sg_L} {s0 : sg_M} (hst : sg_St La) {x1 : Int} (r1 : sg_R x1) {x2 : Int} (r2 : sg_R x2) {Q : Int → sg_M → Prop} (hf : fX12_readNumber s0 x1 x2 Q) : sg_C l G yX12_readNumber cX12_readNumber 3 (some .boolean) 3 0 0 La s0 [sg_r 64, sg_i x1, sg_i x2] (sg_HZ La Q) := by
  refine sg_body (by decide +kernel) (Nat.le_of_ble_eq_true rfl) ?_
  intro p e s m args below meth c F hnm
  unfold fX12_readNumber at hf
  show sg_W p l e (sg_rm 3 0 0) s m args below meth c (MQ below (sg_Q (some .boolean) G La s.heap.size (sg_HZ La Q)) args s 0 0 (sg_A La s.heap.size)) 3 G (sg_A La s.heap.size) La s0 0 0 0 [(0, sg_r 64), (1, sg_i x1), (2, sg_i x2)] []
  refine gw_aload_n F 0 rfl rfl (by decide) dX12_readNumber_0 ?_
  refine gw_get0 F (so_64 hst) (by decide) rfl sg_lay_RX12 (j := 7) (by decide) rfl (host := "") (.inl kw_963) dX12_readNumber_1 (fun h1 => ?_)
  refine gw_iconst F dX12_readNumber_4 ?_
  refine gw_icmp_eq F (tgt := 14) dX12_readNumber_5 (by decide) h1 (by decide) (fun c2 => ?_) (fun c2 => ?_)
  · have hf := hf.1 c2
    refine gw_aload_n F 0 rfl rfl (by decide) dX12_readNumber_14 ?_
    refine gw_get0 F (so_64 hst) (by decide) rfl sg_lay_RX12 (j := 8) (by decide) rfl (host := "") (.inl kw_964) dX12_readNumber_15 (fun h3 => ?_)
    refine gw_iload_n F 1 rfl rfl dX12_readNumber_18 ?_
    refine gw_iload_n F 2 rfl rfl dX12_readNumber_19 ?_
    refine gk_PZ F (gc_S F (S := []) (As := [sg_i (s0 64 8), sg_i x1, sg_i x2]) (CX12_isIn h3 r1 r2 hf) kw_1084 kw_103 kw_1082 kw_1083 hcX12_isIn ⟨by decide, by decide⟩ rfl rfl (Nat.le_of_ble_eq_true rfl) ⟨by decide, by decide⟩ dX12_readNumber_20) (fun u4 h5 hf => ?_)
    refine gw_if_ne F (tgt := 32) dX12_readNumber_23 (by decide) (sg_B_R h5) (fun c6 => ?_) (fun c6 => ?_)
    · have hf := hf.1 c6
      refine gw_aload_n F 0 rfl rfl (by decide) dX12_readNumber_32 ?_
      refine gw_aload_n F 0 rfl rfl (by decide) dX12_readNumber_33 ?_
      refine gw_get0 F (so_64 hst) (by decide) rfl sg_lay_RX12 (j := 8) (by decide) rfl (host := "") (.inl kw_964) dX12_readNumber_34 (fun h7 => ?_)
      obtain ⟨s8, e9⟩ : ∃ z : sg_M, z = sg_up s0 64 13 (s0 64 8) := ⟨_, rfl⟩
      have hf := hf s8 e9
      refine gw_put0 F (so_64 hst) (by decide) rfl sg_lay_RX12 (j := 13) (by decide) h7 e9 tyX12_ok nmX12 rfl (tyX12_ok 13 (by decide)) rfl (host := "") (.inl kw_969) dX12_readNumber_37 ?_
      refine gw_aload_n F 0 rfl rfl (by decide) dX12_readNumber_40 ?_
      refine gk_HV F (gc_V F (S := []) (As := []) (T := TX12) (N := 62) (CX12_go hst hf) (so_64 hst) (by decide) rfl kw_1049 kw_103 kw_1047 kw_1048 kw_43 hcX12_go ⟨by decide, by decide⟩ rfl rfl (Nat.le_of_ble_eq_true rfl) ⟨by decide, by decide⟩ dX12_readNumber_41) (fun s10 hf => ?_)
      refine gw_iconst F dX12_readNumber_44 ?_
      exact gr_HZ F (by decide) hf (by decide) (by decide) dX12_readNumber_45
    · have hf := hf.2 c6
      refine gw_aload_n F 0 rfl rfl (by decide) dX12_readNumber_26 ?_
      refine gw_iconst F dX12_readNumber_27 ?_
      refine gk_HZ F (gc_V F (S := []) (As := [sg_i 2]) (T := TX12) (N := 62) (CX12_bad hst (by decide) hf) (so_64 hst) (by decide) rfl kw_1078 kw_103 kw_1076 kw_1077 kw_47 hcX12_bad ⟨by decide, by decide⟩ rfl rfl (Nat.le_of_ble_eq_true rfl) ⟨by decide, by decide⟩ dX12_readNumber_28) (fun u11 s13 h12 hf => ?_)
      exact gr_HZ F h12 hf (by decide) (by decide) dX12_readNumber_31
  · have hf := hf.2 c2
    refine gw_aload_n F 0 rfl rfl (by decide) dX12_readNumber_8 ?_
    refine gw_iconst F dX12_readNumber_9 ?_
    refine gk_HZ F (gc_V F (S := []) (As := [sg_i 1]) (T := TX12) (N := 62) (CX12_bad hst (by decide) hf) (so_64 hst) (by decide) rfl kw_1078 kw_103 kw_1076 kw_1077 kw_47 hcX12_bad ⟨by decide, by decide⟩ rfl rfl (Nat.le_of_ble_eq_true rfl) ⟨by decide, by decide⟩ dX12_readNumber_10) (fun u14 s16 h15 hf => ?_)
    exact gr_HZ F h15 hf (by decide) (by decide) dX12_readNumber_13

theorem dX12_readSigned_0 : decode cX12_readSigned 0 = .ok (.aload_n 0, 1) := by decide +kernel
theorem dX12_readSigned_1 : decode cX12_readSigned 1 = .ok (.bipush 45, 2) := by decide +kernel
theorem dX12_readSigned_3 : decode cX12_readSigned 3 = .ok (.invokevirtual 165, 3) := by decide +kernel
theorem dX12_readSigned_6 : decode cX12_readSigned 6 = .ok (.istore_n 2, 1) := by decide +kernel
theorem dX12_readSigned_7 : decode cX12_readSigned 7 = .ok (.iload_n 2, 1) := by decide +kernel
theorem dX12_readSigned_8 : decode cX12_readSigned 8 = .ok (.ifCond .eq 7, 3) := by decide +kernel
theorem dX12_readSigned_11 : decode cX12_readSigned 11 = .ok (.aload_n 0, 1) := by decide +kernel
theorem dX12_readSigned_12 : decode cX12_readSigned 12 = .ok (.invokevirtual 162, 3) := by decide +kernel
theorem dX12_readSigned_15 : decode cX12_readSigned 15 = .ok (.aload_n 0, 1) := by decide +kernel
theorem dX12_readSigned_16 : decode cX12_readSigned 16 = .ok (.iconst 0, 1) := by decide +kernel
theorem dX12_readSigned_17 : decode cX12_readSigned 17 = .ok (.iload_n 1, 1) := by decide +kernel
theorem dX12_readSigned_18 : decode cX12_readSigned 18 = .ok (.invokevirtual 168, 3) := by decide +kernel
theorem dX12_readSigned_21 : decode cX12_readSigned 21 = .ok (.ifCond .ne 5, 3) := by decide +kernel
theorem dX12_readSigned_24 : decode cX12_readSigned 24 = .ok (.iconst 0, 1) := by decide +kernel
theorem dX12_readSigned_25 : decode cX12_readSigned 25 = .ok (.ireturn, 1) := by decide +kernel
theorem dX12_readSigned_26 : decode cX12_readSigned 26 = .ok (.iload_n 2, 1) := by decide +kernel
theorem dX12_readSigned_27 : decode cX12_readSigned 27 = .ok (.ifCond .eq 12, 3) := by decide +kernel
theorem dX12_readSigned_30 : decode cX12_readSigned 30 = .ok (.aload_n 0, 1) := by decide +kernel
theorem dX12_readSigned_31 : decode cX12_readSigned 31 = .ok (.aload_n 0, 1) := by decide +kernel
theorem dX12_readSigned_32 : decode cX12_readSigned 32 = .ok (.getfield 159, 3) := by decide +kernel
theorem dX12_readSigned_35 : decode cX12_readSigned 35 = .ok (.ineg, 1) := by decide +kernel
theorem dX12_readSigned_36 : decode cX12_readSigned 36 = .ok (.putfield 159, 3) := by decide +kernel
theorem dX12_readSigned_39 : decode cX12_readSigned 39 = .ok (.iconst 1, 1) := by decide +kernel
theorem dX12_readSigned_40 : decode cX12_readSigned 40 = .ok (.ireturn, 1) := by decide +kernel
theorem hcX12_readSigned : yX12_readSigned.cls ≠ "java/lang/invoke/MethodHandle" ∧ yX12_readSigned.cls ≠ "java/lang/invoke/VarHandle" ∧ (parseMethodDescriptor yX12_readSigned.desc).map (fun d => d.parameters.length) = some 1 := ⟨by decide +kernel, by decide +kernel, by decide +kernel⟩
def fX12_readSigned_j15 (x1 : Int) (u1 : Int) (Q : Int → sg_M → Prop) (s_15 : sg_M) : Prop := fX12_readNumber s_15 0 x1 (fun u3 s5 => ((u3 ≠ 0 → ((u1 = 0 → Q 1 s5) ∧ (¬ (u1 = 0) → sg_R (-(s5 64 13)) ∧ ∀ s10 : sg_M, s10 = sg_up s5 64 13 (-(s5 64 13)) → Q 1 s10))) ∧ (u3 = 0 → Q 0 s5)))
def fX12_readSigned (s0 : sg_M) (x1 : Int) (Q : Int → sg_M → Prop) : Prop := fX12_isSign s0 45 (fun u1 => ((u1 = 0 → (fX12_readSigned_j15 x1 u1 Q) s0) ∧ (¬ (u1 = 0) → fX12_go s0 (fun s13 => (fX12_readSigned_j15 x1 u1 Q) s13))))
set_option maxHeartbeats 4000000 in
set_option maxRecDepth 100000 in
theorem CX12_readSigned {l : Launch} {G : sg_G} {La : sg_L} {s0 : sg_M} (hst : sg_St La) {x1 : Int} (r1 : sg_R x1) {Q : Int → sg_M → Prop} (hf : fX12_readSigned s0 x1 Q) : sg_C l G yX12_readSigned cX12_readSigned 3 (some .boolean) 4 0 0 La s0 [sg_r 64, sg_i x1] (sg_HZ La Q) := by
  refine sg_body (by decide +kernel) (Nat.le_of_ble_eq_true rfl) ?_
  intro p e s m args below meth c F hnm
  unfold fX12_readSigned at hf
  show sg_W p l e (sg_rm 4 0 0) s m args below meth c (MQ below (sg_Q (some .boolean) G La s.heap.size (sg_HZ La Q)) args s 0 0 (sg_A La s.heap.size)) 3 G (sg_A La s.heap.size) La s0 0 0 0 [(0, sg_r 64), (1, sg_i x1)] []
  refine gw_aload_n F 0 rfl rfl (by decide) dX12_readSigned_0 ?_
  refine gw_bipush F rfl dX12_readSigned_1 ?_
  refine gk_PZ F (gc_V F (S := []) (As := [sg_i 45]) (T := TX12) (N := 62) (CX12_isSign hst (by decide) hf) (so_64 hst) (by decide) rfl kw_1090 kw_103 kw_1088 kw_1089 kw_50 hcX12_isSign ⟨by decide, by decide⟩ rfl rfl (Nat.le_of_ble_eq_true rfl) ⟨by decide, by decide⟩ dX12_readSigned_3) (fun u1 h2 hf => ?_)
  refine gw_istore_n F rfl (by decide) rfl dX12_readSigned_6 ?_
  refine gw_iload_n F 0 rfl rfl dX12_readSigned_7 ?_
  have J15 : ∀ (s_15 : sg_M), (fX12_readSigned_j15 x1 u1 Q) s_15 → sg_W p l e (sg_rm 4 0 0) s m args below meth c (MQ below (sg_Q (some .boolean) G La s.heap.size (sg_HZ La Q)) args s 0 0 (sg_A La s.heap.size)) 3 G (sg_A La s.heap.size) La s_15 0 0 15 [(0, sg_r 64), (1, sg_i x1), (2, sg_i u1)] [] := by
    intro s_15 hf
    unfold fX12_readSigned_j15 at hf
    refine gw_aload_n F 0 rfl rfl (by decide) dX12_readSigned_15 ?_
    refine gw_iconst F dX12_readSigned_16 ?_
    refine gw_iload_n F 1 rfl rfl dX12_readSigned_17 ?_
    refine gk_HZ F (gc_V F (S := []) (As := [sg_i 0, sg_i x1]) (T := TX12) (N := 62) (CX12_readNumber hst (by decide) r1 hf) (so_64 hst) (by decide) rfl kw_1081 kw_103 kw_1079 kw_1080 kw_48 hcX12_readNumber ⟨by decide, by decide⟩ rfl rfl (Nat.le_of_ble_eq_true rfl) ⟨by decide, by decide⟩ dX12_readSigned_18) (fun u3 s5 h4 hf => ?_)
    refine gw_if_ne F (tgt := 26) dX12_readSigned_21 (by decide) (sg_B_R h4) (fun c6 => ?_) (fun c6 => ?_)
    · have hf := hf.1 c6
      refine gw_iload_n F 2 rfl rfl dX12_readSigned_26 ?_
      refine gw_if_eq F (tgt := 39) dX12_readSigned_27 (by decide) (sg_B_R h2) (fun c7 => ?_) (fun c7 => ?_)
      · have hf := hf.1 c7
        refine gw_iconst F dX12_readSigned_39 ?_
        exact gr_HZ F (by decide) hf (by decide) (by decide) dX12_readSigned_40
      · have hf := hf.2 c7
        refine gw_aload_n F 0 rfl rfl (by decide) dX12_readSigned_30 ?_
        refine gw_aload_n F 0 rfl rfl (by decide) dX12_readSigned_31 ?_
        refine gw_get0 F (so_64 hst) (by decide) rfl sg_lay_RX12 (j := 13) (by decide) rfl (host := "") (.inl kw_969) dX12_readSigned_32 (fun h8 => ?_)
        refine gw_ineg F rfl dX12_readSigned_35 ?_
        obtain ⟨g9, hf⟩ := hf
        obtain ⟨s10, e11⟩ : ∃ z : sg_M, z = sg_up s5 64 13 (-(s5 64 13)) := ⟨_, rfl⟩
        have hf := hf s10 e11
        refine gw_put0 F (so_64 hst) (by decide) rfl sg_lay_RX12 (j := 13) (by decide) g9 e11 tyX12_ok nmX12 rfl (tyX12_ok 13 (by decide)) rfl (host := "") (.inl kw_969) dX12_readSigned_36 ?_
        refine gw_iconst F dX12_readSigned_39 ?_
        exact gr_HZ F (by decide) hf (by decide) (by decide) dX12_readSigned_40
    · have hf := hf.2 c6
      refine gw_iconst F dX12_readSigned_24 ?_
      exact gr_HZ F (by decide) hf (by decide) (by decide) dX12_readSigned_25
  refine gw_if_eq F (tgt := 15) dX12_readSigned_8 (by decide) (sg_B_R h2) (fun c12 => ?_) (fun c12 => ?_)
  · have hf := hf.1 c12
    refine gw_sub [1, 2, 0] rfl ?_
    exact J15 s0 hf
  · have hf := hf.2 c12
    refine gw_aload_n F 1 rfl rfl (by decide) dX12_readSigned_11 ?_
    refine gk_HV F (gc_V F (S := []) (As := []) (T := TX12) (N := 62) (CX12_go hst hf) (so_64 hst) (by decide) rfl kw_1049 kw_103 kw_1047 kw_1048 kw_43 hcX12_go ⟨by decide, by decide⟩ rfl rfl (Nat.le_of_ble_eq_true rfl) ⟨by decide, by decide⟩ dX12_readSigned_12) (fun s13 hf => ?_)
    refine gw_sub [1, 2, 0] rfl ?_
    exact J15 s13 hf

theorem dX12_tick_0 : decode cX12_tick 0 = .ok (.aload_n 0, 1) := by decide +kernel
theorem dX12_tick_1 : decode cX12_tick 1 = .ok (.invokevirtual 175, 3) := by decide +kernel
theorem dX12_tick_4 : decode cX12_tick 4 = .ok (.iload_n 1, 1) := by decide +kernel
theorem dX12_tick_5 : decode cX12_tick 5 = .ok (.iconst 1, 1) := by decide +kernel
theorem dX12_tick_6 : decode cX12_tick 6 = .ok (.aload_n 0, 1) := by decide +kernel
theorem dX12_tick_7 : decode cX12_tick 7 = .ok (.getfield 13, 3) := by decide +kernel
theorem dX12_tick_10 : decode cX12_tick 10 = .ok (.sipush 1300, 3) := by decide +kernel
theorem dX12_tick_13 : decode cX12_tick 13 = .ok (.iaload, 1) := by decide +kernel
theorem dX12_tick_14 : decode cX12_tick 14 = .ok (.invokestatic 155, 3) := by decide +kernel
theorem dX12_tick_17 : decode cX12_tick 17 = .ok (.ifCond .eq 12, 3) := by decide +kernel
theorem dX12_tick_20 : decode cX12_tick 20 = .ok (.iload_n 2, 1) := by decide +kernel
theorem dX12_tick_21 : decode cX12_tick 21 = .ok (.iconst 0, 1) := by decide +kernel
theorem dX12_tick_22 : decode cX12_tick 22 = .ok (.iconst 4, 1) := by decide +kernel
theorem dX12_tick_23 : decode cX12_tick 23 = .ok (.invokestatic 155, 3) := by decide +kernel
theorem dX12_tick_26 : decode cX12_tick 26 = .ok (.ifCond .ne 8, 3) := by decide +kernel
theorem dX12_tick_29 : decode cX12_tick 29 = .ok (.aload_n 0, 1) := by decide +kernel
theorem dX12_tick_30 : decode cX12_tick 30 = .ok (.invokevirtual 205, 3) := by decide +kernel
theorem dX12_tick_33 : decode cX12_tick 33 = .ok (.ireturn, 1) := by decide +kernel
theorem dX12_tick_34 : decode cX12_tick 34 = .ok (.aload_n 0, 1) := by decide +kernel
theorem dX12_tick_35 : decode cX12_tick 35 = .ok (.iconst 0, 1) := by decide +kernel
theorem dX12_tick_36 : decode cX12_tick 36 = .ok (.putfield 84, 3) := by decide +kernel
theorem dX12_tick_39 : decode cX12_tick 39 = .ok (.aload_n 0, 1) := by decide +kernel
theorem dX12_tick_40 : decode cX12_tick 40 = .ok (.getfield 13, 3) := by decide +kernel
theorem dX12_tick_43 : decode cX12_tick 43 = .ok (.sipush 1301, 3) := by decide +kernel
theorem dX12_tick_46 : decode cX12_tick 46 = .ok (.iload_n 1, 1) := by decide +kernel
theorem dX12_tick_47 : decode cX12_tick 47 = .ok (.iadd, 1) := by decide +kernel
theorem dX12_tick_48 : decode cX12_tick 48 = .ok (.iconst 1, 1) := by decide +kernel
theorem dX12_tick_49 : decode cX12_tick 49 = .ok (.isub, 1) := by decide +kernel
theorem dX12_tick_50 : decode cX12_tick 50 = .ok (.iaload, 1) := by decide +kernel
theorem dX12_tick_51 : decode cX12_tick 51 = .ok (.istore_n 3, 1) := by decide +kernel
theorem dX12_tick_52 : decode cX12_tick 52 = .ok (.aload_n 0, 1) := by decide +kernel
theorem dX12_tick_53 : decode cX12_tick 53 = .ok (.getfield 13, 3) := by decide +kernel
theorem dX12_tick_56 : decode cX12_tick 56 = .ok (.sipush 1501, 3) := by decide +kernel
theorem dX12_tick_59 : decode cX12_tick 59 = .ok (.iload_n 1, 1) := by decide +kernel
theorem dX12_tick_60 : decode cX12_tick 60 = .ok (.iadd, 1) := by decide +kernel
theorem dX12_tick_61 : decode cX12_tick 61 = .ok (.iconst 1, 1) := by decide +kernel
theorem dX12_tick_62 : decode cX12_tick 62 = .ok (.isub, 1) := by decide +kernel
theorem dX12_tick_63 : decode cX12_tick 63 = .ok (.iaload, 1) := by decide +kernel
theorem dX12_tick_64 : decode cX12_tick 64 = .ok (.istore 4, 2) := by decide +kernel
theorem dX12_tick_66 : decode cX12_tick 66 = .ok (.iload_n 2, 1) := by decide +kernel
theorem dX12_tick_67 : decode cX12_tick 67 = .ok (.iconst 2, 1) := by decide +kernel
theorem dX12_tick_68 : decode cX12_tick 68 = .ok (.if_icmp .ge 14, 3) := by decide +kernel
theorem dX12_tick_71 : decode cX12_tick 71 = .ok (.iload_n 2, 1) := by decide +kernel
theorem dX12_tick_72 : decode cX12_tick 72 = .ok (.ifCond .ne 7, 3) := by decide +kernel
theorem dX12_tick_75 : decode cX12_tick 75 = .ok (.iload_n 3, 1) := by decide +kernel
theorem dX12_tick_76 : decode cX12_tick 76 = .ok (.goto 5, 3) := by decide +kernel
theorem dX12_tick_79 : decode cX12_tick 79 = .ok (.iload 4, 2) := by decide +kernel
theorem dX12_tick_81 : decode cX12_tick 81 = .ok (.ireturn, 1) := by decide +kernel
theorem dX12_tick_82 : decode cX12_tick 82 = .ok (.aload_n 0, 1) := by decide +kernel
theorem dX12_tick_83 : decode cX12_tick 83 = .ok (.iload_n 3, 1) := by decide +kernel
theorem dX12_tick_84 : decode cX12_tick 84 = .ok (.iload 4, 2) := by decide +kernel
theorem dX12_tick_86 : decode cX12_tick 86 = .ok (.invokevirtual 317, 3) := by decide +kernel
theorem dX12_tick_89 : decode cX12_tick 89 = .ok (.pop, 1) := by decide +kernel
theorem dX12_tick_90 : decode cX12_tick 90 = .ok (.iload_n 2, 1) := by decide +kernel
theorem dX12_tick_91 : decode cX12_tick 91 = .ok (.iconst 2, 1) := by decide +kernel
theorem dX12_tick_92 : decode cX12_tick 92 = .ok (.if_icmp .ne 10, 3) := by decide +kernel
theorem dX12_tick_95 : decode cX12_tick 95 = .ok (.aload_n 0, 1) := by decide +kernel
theorem dX12_tick_96 : decode cX12_tick 96 = .ok (.getfield 273, 3) := by decide +kernel
theorem dX12_tick_99 : decode cX12_tick 99 = .ok (.goto 19, 3) := by decide +kernel
theorem dX12_tick_102 : decode cX12_tick 102 = .ok (.iload_n 2, 1) := by decide +kernel
theorem dX12_tick_103 : decode cX12_tick 103 = .ok (.iconst 3, 1) := by decide +kernel
theorem dX12_tick_104 : decode cX12_tick 104 = .ok (.if_icmp .ne 10, 3) := by decide +kernel
theorem dX12_tick_107 : decode cX12_tick 107 = .ok (.aload_n 0, 1) := by decide +kernel
theorem dX12_tick_108 : decode cX12_tick 108 = .ok (.getfield 276, 3) := by decide +kernel
theorem dX12_tick_111 : decode cX12_tick 111 = .ok (.goto 7, 3) := by decide +kernel
theorem dX12_tick_114 : decode cX12_tick 114 = .ok (.aload_n 0, 1) := by decide +kernel
theorem dX12_tick_115 : decode cX12_tick 115 = .ok (.getfield 279, 3) := by decide +kernel
theorem dX12_tick_118 : decode cX12_tick 118 = .ok (.ireturn, 1) := by decide +kernel
theorem hcX12_tick : yX12_tick.cls ≠ "java/lang/invoke/MethodHandle" ∧ yX12_tick.cls ≠ "java/lang/invoke/VarHandle" ∧ (parseMethodDescriptor yX12_tick.desc).map (fun d => d.parameters.length) = some 2 := ⟨by decide +kernel, by decide +kernel, by decide +kernel⟩
def fX12_tick (s0 : sg_M) (x1 : Int) (x2 : Int) (Q : Int → sg_M → Prop) : Prop := fX12_lay s0 (fun s1 => fX12_isIn x1 1 (s1 66 1300) (fun u4 => ((u4 = 0 → fX12_refuse s1 (fun u7 s9 => Q u7 s9)) ∧ (¬ (u4 = 0) → fX12_isIn x2 0 4 (fun u10 => ((u10 ≠ 0 → ∀ s13 : sg_M, s13 = sg_up s1 64 0 0 → (0 ≤ ((1301 + x1) - 1) ∧ ((1301 + x1) - 1) < 2040) ∧ (0 ≤ ((1501 + x1) - 1) ∧ ((1501 + x1) - 1) < 2040) ∧ ((2 ≤ x2 → fX12_voiceOf s13 (s13 66 ((1301 + x1) - 1)) (s13 66 ((1501 + x1) - 1)) (fun u22 s24 => ((x2 ≠ 2 → ((x2 ≠ 3 → Q (s24 64 41) s24) ∧ (x2 = 3 → Q (s24 64 40) s24))) ∧ (x2 = 2 → Q (s24 64 39) s24)))) ∧ (¬ (2 ≤ x2) → ((x2 ≠ 0 → Q (s13 66 ((1501 + x1) - 1)) s13) ∧ (x2 = 0 → Q (s13 66 ((1301 + x1) - 1)) s13))))) ∧ (u10 = 0 → fX12_refuse s1 (fun u31 s33 => Q u31 s33))))))))
set_option maxHeartbeats 4000000 in
set_option maxRecDepth 100000 in
theorem CX12_tick {l : Launch} {G : sg_G} {La : sg_L} {s0 : sg_M} (hst : sg_St La) {x1 : Int} (r1 : sg_R x1) {x2 : Int} (r2 : sg_R x2) {Q : Int → sg_M → Prop} (hf : fX12_tick s0 x1 x2 Q) : sg_C l G yX12_tick cX12_tick 5 (some .int) 6 0 0 La s0 [sg_r 64, sg_i x1, sg_i x2] (sg_HI La Q) := by
  refine sg_body (by decide +kernel) (Nat.le_of_ble_eq_true rfl) ?_
  intro p e s m args below meth c F hnm
  unfold fX12_tick at hf
  show sg_W p l e (sg_rm 6 0 0) s m args below meth c (MQ below (sg_Q (some .int) G La s.heap.size (sg_HI La Q)) args s 0 0 (sg_A La s.heap.size)) 5 G (sg_A La s.heap.size) La s0 0 0 0 [(0, sg_r 64), (1, sg_i x1), (2, sg_i x2)] []
  refine gw_aload_n F 0 rfl rfl (by decide) dX12_tick_0 ?_
  refine gk_HV F (gc_V F (S := []) (As := []) (T := TX12) (N := 62) (CX12_lay hst hf) (so_64 hst) (by decide) rfl kw_1043 kw_103 kw_1041 kw_1042 kw_41 hcX12_lay ⟨by decide, by decide⟩ rfl rfl (Nat.le_of_ble_eq_true rfl) ⟨by decide, by decide⟩ dX12_tick_1) (fun s1 hf => ?_)
  refine gw_iload_n F 1 rfl rfl dX12_tick_4 ?_
  refine gw_iconst F dX12_tick_5 ?_
  refine gw_aload_n F 0 rfl rfl (by decide) dX12_tick_6 ?_
  refine gw_get7 F (so_64 hst) (by decide) rfl sg_lay_RX12 (j := 14) (by decide) (o1 := 66) (by first | rfl | omega) rfl (host := "") (.inl kw_970) dX12_tick_7 (fun h2 => ?_)
  refine gw_sipush F rfl dX12_tick_10 ?_
  refine gw_iald F (sa_66 hst) (by decide) (by decide) dX12_tick_13 (fun h3 => ?_)
  refine gk_PZ F (gc_S F (S := []) (As := [sg_i x1, sg_i 1, sg_i (s1 66 1300)]) (CX12_isIn r1 (by decide) h3 hf) kw_1084 kw_103 kw_1082 kw_1083 hcX12_isIn ⟨by decide, by decide⟩ rfl rfl (Nat.le_of_ble_eq_true rfl) ⟨by decide, by decide⟩ dX12_tick_14) (fun u4 h5 hf => ?_)
  refine gw_if_eq F (tgt := 29) dX12_tick_17 (by decide) (sg_B_R h5) (fun c6 => ?_) (fun c6 => ?_)
  · have hf := hf.1 c6
    refine gw_aload_n F 0 rfl rfl (by decide) dX12_tick_29 ?_
    refine gk_HI F (gc_V F (S := []) (As := []) (T := TX12) (N := 62) (CX12_refuse hst hf) (so_64 hst) (by decide) rfl kw_1107 kw_103 kw_1105 kw_1106 kw_53 hcX12_refuse ⟨by decide, by decide⟩ rfl rfl (Nat.le_of_ble_eq_true rfl) ⟨by decide, by decide⟩ dX12_tick_30) (fun u7 s9 h8 hf => ?_)
    exact gr_HI F h8 hf (by decide) (by decide) dX12_tick_33
  · have hf := hf.2 c6
    refine gw_iload_n F 2 rfl rfl dX12_tick_20 ?_
    refine gw_iconst F dX12_tick_21 ?_
    refine gw_iconst F dX12_tick_22 ?_
    refine gk_PZ F (gc_S F (S := []) (As := [sg_i x2, sg_i 0, sg_i 4]) (CX12_isIn r2 (by decide) (by decide) hf) kw_1084 kw_103 kw_1082 kw_1083 hcX12_isIn ⟨by decide, by decide⟩ rfl rfl (Nat.le_of_ble_eq_true rfl) ⟨by decide, by decide⟩ dX12_tick_23) (fun u10 h11 hf => ?_)
    refine gw_if_ne F (tgt := 34) dX12_tick_26 (by decide) (sg_B_R h11) (fun c12 => ?_) (fun c12 => ?_)
    · have hf := hf.1 c12
      refine gw_aload_n F 0 rfl rfl (by decide) dX12_tick_34 ?_
      refine gw_iconst F dX12_tick_35 ?_
      obtain ⟨s13, e14⟩ : ∃ z : sg_M, z = sg_up s1 64 0 0 := ⟨_, rfl⟩
      have hf := hf s13 e14
      refine gw_put0 F (so_64 hst) (by decide) rfl sg_lay_RX12 (j := 0) (by decide) (by decide) e14 tyX12_ok nmX12 rfl (tyX12_ok 0 (by decide)) rfl (host := "") (.inl kw_956) dX12_tick_36 ?_
      refine gw_aload_n F 0 rfl rfl (by decide) dX12_tick_39 ?_
      refine gw_get7 F (so_64 hst) (by decide) rfl sg_lay_RX12 (j := 14) (by decide) (o1 := 66) (by first | rfl | omega) rfl (host := "") (.inl kw_970) dX12_tick_40 (fun h15 => ?_)
      refine gw_sipush F rfl dX12_tick_43 ?_
      refine gw_iload_n F 1 rfl rfl dX12_tick_46 ?_
      refine gw_iadd F rfl dX12_tick_47 ?_
      refine gw_iconst F dX12_tick_48 ?_
      refine gw_isub F rfl dX12_tick_49 ?_
      obtain ⟨⟨b160, b161⟩, hf⟩ := hf
      refine gw_iald F (sa_66 hst) b160 b161 dX12_tick_50 (fun h17 => ?_)
      refine gw_istore_n F rfl (by decide) rfl dX12_tick_51 ?_
      refine gw_aload_n F 1 rfl rfl (by decide) dX12_tick_52 ?_
      refine gw_get7 F (so_64 hst) (by decide) rfl sg_lay_RX12 (j := 14) (by decide) (o1 := 66) (by first | rfl | omega) rfl (host := "") (.inl kw_970) dX12_tick_53 (fun h18 => ?_)
      refine gw_sipush F rfl dX12_tick_56 ?_
      refine gw_iload_n F 2 rfl rfl dX12_tick_59 ?_
      refine gw_iadd F rfl dX12_tick_60 ?_
      refine gw_iconst F dX12_tick_61 ?_
      refine gw_isub F rfl dX12_tick_62 ?_
      obtain ⟨⟨b190, b191⟩, hf⟩ := hf
      refine gw_iald F (sa_66 hst) b190 b191 dX12_tick_63 (fun h20 => ?_)
      refine gw_istore F (by decide) rfl dX12_tick_64 ?_
      refine gw_iload_n F 4 rfl rfl dX12_tick_66 ?_
      refine gw_iconst F dX12_tick_67 ?_
      refine gw_icmp_ge F (tgt := 82) dX12_tick_68 (by decide) r2 (by decide) (fun c21 => ?_) (fun c21 => ?_)
      · have hf := hf.1 c21
        refine gw_aload_n F 2 rfl rfl (by decide) dX12_tick_82 ?_
        refine gw_iload_n F 1 rfl rfl dX12_tick_83 ?_
        refine gw_iload F 0 rfl dX12_tick_84 ?_
        refine gk_HI F (gc_V F (S := []) (As := [sg_i (s13 66 ((1301 + x1) - 1)), sg_i (s13 66 ((1501 + x1) - 1))]) (T := TX12) (N := 62) (CX12_voiceOf hst h17 h20 hf) (so_64 hst) (by decide) rfl kw_1202 kw_103 kw_1200 kw_1201 kw_68 hcX12_voiceOf ⟨by decide, by decide⟩ rfl rfl (Nat.le_of_ble_eq_true rfl) ⟨by decide, by decide⟩ dX12_tick_86) (fun u22 s24 h23 hf => ?_)
        refine gw_pop F rfl dX12_tick_89 ?_
        refine gw_iload_n F 4 rfl rfl dX12_tick_90 ?_
        refine gw_iconst F dX12_tick_91 ?_
        refine gw_icmp_ne F (tgt := 102) dX12_tick_92 (by decide) r2 (by decide) (fun c25 => ?_) (fun c25 => ?_)
        · have hf := hf.1 c25
          refine gw_iload_n F 4 rfl rfl dX12_tick_102 ?_
          refine gw_iconst F dX12_tick_103 ?_
          refine gw_icmp_ne F (tgt := 114) dX12_tick_104 (by decide) r2 (by decide) (fun c26 => ?_) (fun c26 => ?_)
          · have hf := hf.1 c26
            refine gw_aload_n F 2 rfl rfl (by decide) dX12_tick_114 ?_
            refine gw_get0 F (so_64 hst) (by decide) rfl sg_lay_RX12 (j := 41) (by decide) rfl (host := "") (.inl kw_997) dX12_tick_115 (fun h27 => ?_)
            exact gr_HI F h27 hf (by decide) (by decide) dX12_tick_118
          · have hf := hf.2 c26
            refine gw_aload_n F 2 rfl rfl (by decide) dX12_tick_107 ?_
            refine gw_get0 F (so_64 hst) (by decide) rfl sg_lay_RX12 (j := 40) (by decide) rfl (host := "") (.inl kw_996) dX12_tick_108 (fun h28 => ?_)
            refine gw_goto F (tgt := 118) dX12_tick_111 (by decide) ?_
            exact gr_HI F h28 hf (by decide) (by decide) dX12_tick_118
        · have hf := hf.2 c25
          refine gw_aload_n F 2 rfl rfl (by decide) dX12_tick_95 ?_
          refine gw_get0 F (so_64 hst) (by decide) rfl sg_lay_RX12 (j := 39) (by decide) rfl (host := "") (.inl kw_995) dX12_tick_96 (fun h29 => ?_)
          refine gw_goto F (tgt := 118) dX12_tick_99 (by decide) ?_
          exact gr_HI F h29 hf (by decide) (by decide) dX12_tick_118
      · have hf := hf.2 c21
        refine gw_iload_n F 4 rfl rfl dX12_tick_71 ?_
        refine gw_if_ne F (tgt := 79) dX12_tick_72 (by decide) r2 (fun c30 => ?_) (fun c30 => ?_)
        · have hf := hf.1 c30
          refine gw_iload F 0 rfl dX12_tick_79 ?_
          exact gr_HI F h20 hf (by decide) (by decide) dX12_tick_81
        · have hf := hf.2 c30
          refine gw_iload_n F 1 rfl rfl dX12_tick_75 ?_
          refine gw_goto F (tgt := 81) dX12_tick_76 (by decide) ?_
          exact gr_HI F h17 hf (by decide) (by decide) dX12_tick_81
    · have hf := hf.2 c12
      refine gw_aload_n F 0 rfl rfl (by decide) dX12_tick_29 ?_
      refine gk_HI F (gc_V F (S := []) (As := []) (T := TX12) (N := 62) (CX12_refuse hst hf) (so_64 hst) (by decide) rfl kw_1107 kw_103 kw_1105 kw_1106 kw_53 hcX12_refuse ⟨by decide, by decide⟩ rfl rfl (Nat.le_of_ble_eq_true rfl) ⟨by decide, by decide⟩ dX12_tick_30) (fun u31 s33 h32 hf => ?_)
      exact gr_HI F h32 hf (by decide) (by decide) dX12_tick_33

theorem dX12_end_0 : decode cX12_end 0 = .ok (.aload_n 0, 1) := by decide +kernel
theorem dX12_end_1 : decode cX12_end 1 = .ok (.iconst 0, 1) := by decide +kernel
theorem dX12_end_2 : decode cX12_end 2 = .ok (.putfield 84, 3) := by decide +kernel
theorem dX12_end_5 : decode cX12_end 5 = .ok (.iload_n 1, 1) := by decide +kernel
theorem dX12_end_6 : decode cX12_end 6 = .ok (.ifCond .lt 11, 3) := by decide +kernel
theorem dX12_end_9 : decode cX12_end 9 = .ok (.iload_n 1, 1) := by decide +kernel
theorem dX12_end_10 : decode cX12_end 10 = .ok (.aload_n 0, 1) := by decide +kernel
theorem dX12_end_11 : decode cX12_end 11 = .ok (.getfield 87, 3) := by decide +kernel
theorem dX12_end_14 : decode cX12_end 14 = .ok (.if_icmp .le 5, 3) := by decide +kernel
theorem dX12_end_17 : decode cX12_end 17 = .ok (.iconst 0, 1) := by decide +kernel
theorem dX12_end_18 : decode cX12_end 18 = .ok (.ireturn, 1) := by decide +kernel
theorem dX12_end_19 : decode cX12_end 19 = .ok (.aload_n 0, 1) := by decide +kernel
theorem dX12_end_20 : decode cX12_end 20 = .ok (.iload_n 1, 1) := by decide +kernel
theorem dX12_end_21 : decode cX12_end 21 = .ok (.putfield 87, 3) := by decide +kernel
theorem dX12_end_24 : decode cX12_end 24 = .ok (.iconst 1, 1) := by decide +kernel
theorem dX12_end_25 : decode cX12_end 25 = .ok (.ireturn, 1) := by decide +kernel
theorem hcX12_end : yX12_end.cls ≠ "java/lang/invoke/MethodHandle" ∧ yX12_end.cls ≠ "java/lang/invoke/VarHandle" ∧ (parseMethodDescriptor yX12_end.desc).map (fun d => d.parameters.length) = some 1 := ⟨by decide +kernel, by decide +kernel, by decide +kernel⟩
def fX12_end (s0 : sg_M) (x1 : Int) (Q : Int → sg_M → Prop) : Prop := ∀ s1 : sg_M, s1 = sg_up s0 64 0 0 → ((x1 < 0 → Q 0 s1) ∧ (¬ (x1 < 0) → ((x1 ≤ (s1 64 2) → ∀ s6 : sg_M, s6 = sg_up s1 64 2 x1 → Q 1 s6) ∧ (¬ (x1 ≤ (s1 64 2)) → Q 0 s1))))
set_option maxHeartbeats 4000000 in
set_option maxRecDepth 100000 in
theorem CX12_end {l : Launch} {G : sg_G} {La : sg_L} {s0 : sg_M} (hst : sg_St La) {x1 : Int} (r1 : sg_R x1) {Q : Int → sg_M → Prop} (hf : fX12_end s0 x1 Q) : sg_C l G yX12_end cX12_end 2 (some .boolean) 1 0 0 La s0 [sg_r 64, sg_i x1] (sg_HZ La Q) := by
  refine sg_body (by decide +kernel) (Nat.le_of_ble_eq_true rfl) ?_
  intro p e s m args below meth c F hnm
  unfold fX12_end at hf
  show sg_W p l e (sg_rm 1 0 0) s m args below meth c (MQ below (sg_Q (some .boolean) G La s.heap.size (sg_HZ La Q)) args s 0 0 (sg_A La s.heap.size)) 2 G (sg_A La s.heap.size) La s0 0 0 0 [(0, sg_r 64), (1, sg_i x1)] []
  refine gw_aload_n F 0 rfl rfl (by decide) dX12_end_0 ?_
  refine gw_iconst F dX12_end_1 ?_
  obtain ⟨s1, e2⟩ : ∃ z : sg_M, z = sg_up s0 64 0 0 := ⟨_, rfl⟩
  have hf := hf s1 e2
  refine gw_put0 F (so_64 hst) (by decide) rfl sg_lay_RX12 (j := 0) (by decide) (by decide) e2 tyX12_ok nmX12 rfl (tyX12_ok 0 (by decide)) rfl (host := "") (.inl kw_956) dX12_end_2 ?_
  refine gw_iload_n F 1 rfl rfl dX12_end_5 ?_
  refine gw_if_lt F (tgt := 17) dX12_end_6 (by decide) r1 (fun c3 => ?_) (fun c3 => ?_)
  · have hf := hf.1 c3
    refine gw_iconst F dX12_end_17 ?_
    exact gr_HZ F (by decide) hf (by decide) (by decide) dX12_end_18
  · have hf := hf.2 c3
    refine gw_iload_n F 1 rfl rfl dX12_end_9 ?_
    refine gw_aload_n F 0 rfl rfl (by decide) dX12_end_10 ?_
    refine gw_get0 F (so_64 hst) (by decide) rfl sg_lay_RX12 (j := 2) (by decide) rfl (host := "") (.inl kw_958) dX12_end_11 (fun h4 => ?_)
    refine gw_icmp_le F (tgt := 19) dX12_end_14 (by decide) r1 h4 (fun c5 => ?_) (fun c5 => ?_)
    · have hf := hf.1 c5
      refine gw_aload_n F 0 rfl rfl (by decide) dX12_end_19 ?_
      refine gw_iload_n F 1 rfl rfl dX12_end_20 ?_
      obtain ⟨s6, e7⟩ : ∃ z : sg_M, z = sg_up s1 64 2 x1 := ⟨_, rfl⟩
      have hf := hf s6 e7
      refine gw_put0 F (so_64 hst) (by decide) rfl sg_lay_RX12 (j := 2) (by decide) r1 e7 tyX12_ok nmX12 rfl (tyX12_ok 2 (by decide)) rfl (host := "") (.inl kw_958) dX12_end_21 ?_
      refine gw_iconst F dX12_end_24 ?_
      exact gr_HZ F (by decide) hf (by decide) (by decide) dX12_end_25
    · have hf := hf.2 c5
      refine gw_iconst F dX12_end_17 ?_
      exact gr_HZ F (by decide) hf (by decide) (by decide) dX12_end_18

theorem dX12_keep_0 : decode cX12_keep 0 = .ok (.aload_n 0, 1) := by decide +kernel
theorem dX12_keep_1 : decode cX12_keep 1 = .ok (.iconst 0, 1) := by decide +kernel
theorem dX12_keep_2 : decode cX12_keep 2 = .ok (.putfield 84, 3) := by decide +kernel
theorem dX12_keep_5 : decode cX12_keep 5 = .ok (.aload_n 0, 1) := by decide +kernel
theorem dX12_keep_6 : decode cX12_keep 6 = .ok (.invokevirtual 175, 3) := by decide +kernel
theorem dX12_keep_9 : decode cX12_keep 9 = .ok (.iload_n 1, 1) := by decide +kernel
theorem dX12_keep_10 : decode cX12_keep 10 = .ok (.iconst 0, 1) := by decide +kernel
theorem dX12_keep_11 : decode cX12_keep 11 = .ok (.iconst 3, 1) := by decide +kernel
theorem dX12_keep_12 : decode cX12_keep 12 = .ok (.invokestatic 155, 3) := by decide +kernel
theorem dX12_keep_15 : decode cX12_keep 15 = .ok (.ifCond .ne 5, 3) := by decide +kernel
theorem dX12_keep_18 : decode cX12_keep 18 = .ok (.iconst 0, 1) := by decide +kernel
theorem dX12_keep_19 : decode cX12_keep 19 = .ok (.ireturn, 1) := by decide +kernel
theorem dX12_keep_20 : decode cX12_keep 20 = .ok (.iconst 0, 1) := by decide +kernel
theorem dX12_keep_21 : decode cX12_keep 21 = .ok (.istore_n 2, 1) := by decide +kernel
theorem dX12_keep_22 : decode cX12_keep 22 = .ok (.iload_n 2, 1) := by decide +kernel
theorem dX12_keep_23 : decode cX12_keep 23 = .ok (.sipush 260, 3) := by decide +kernel
theorem dX12_keep_26 : decode cX12_keep 26 = .ok (.if_icmp .ge 31, 3) := by decide +kernel
theorem dX12_keep_29 : decode cX12_keep 29 = .ok (.aload_n 0, 1) := by decide +kernel
theorem dX12_keep_30 : decode cX12_keep 30 = .ok (.getfield 13, 3) := by decide +kernel
theorem dX12_keep_33 : decode cX12_keep 33 = .ok (.sipush 260, 3) := by decide +kernel
theorem dX12_keep_36 : decode cX12_keep 36 = .ok (.sipush 260, 3) := by decide +kernel
theorem dX12_keep_39 : decode cX12_keep 39 = .ok (.iload_n 1, 1) := by decide +kernel
theorem dX12_keep_40 : decode cX12_keep 40 = .ok (.imul, 1) := by decide +kernel
theorem dX12_keep_41 : decode cX12_keep 41 = .ok (.iadd, 1) := by decide +kernel
theorem dX12_keep_42 : decode cX12_keep 42 = .ok (.iload_n 2, 1) := by decide +kernel
theorem dX12_keep_43 : decode cX12_keep 43 = .ok (.iadd, 1) := by decide +kernel
theorem dX12_keep_44 : decode cX12_keep 44 = .ok (.aload_n 0, 1) := by decide +kernel
theorem dX12_keep_45 : decode cX12_keep 45 = .ok (.getfield 13, 3) := by decide +kernel
theorem dX12_keep_48 : decode cX12_keep 48 = .ok (.iload_n 2, 1) := by decide +kernel
theorem dX12_keep_49 : decode cX12_keep 49 = .ok (.iaload, 1) := by decide +kernel
theorem dX12_keep_50 : decode cX12_keep 50 = .ok (.iastore, 1) := by decide +kernel
theorem dX12_keep_51 : decode cX12_keep 51 = .ok (.iinc 2 1, 3) := by decide +kernel
theorem dX12_keep_54 : decode cX12_keep 54 = .ok (.goto (-32), 3) := by decide +kernel
theorem dX12_keep_57 : decode cX12_keep 57 = .ok (.iconst 1, 1) := by decide +kernel
theorem dX12_keep_58 : decode cX12_keep 58 = .ok (.ireturn, 1) := by decide +kernel
theorem hcX12_keep : yX12_keep.cls ≠ "java/lang/invoke/MethodHandle" ∧ yX12_keep.cls ≠ "java/lang/invoke/VarHandle" ∧ (parseMethodDescriptor yX12_keep.desc).map (fun d => d.parameters.length) = some 1 := ⟨by decide +kernel, by decide +kernel, by decide +kernel⟩
def fX12_keep_L22 (x1 : Int) (Q : Int → sg_M → Prop) : Nat → sg_M → Int → Prop
  | 0, _, _ => False
  | n_22 + 1, s_22, x2_22 => ((260 ≤ x2_22 → Q 1 s_22) ∧ (¬ (260 ≤ x2_22) → (0 ≤ x2_22 ∧ x2_22 < 2040) ∧ (0 ≤ ((260 + (260 * x1)) + x2_22) ∧ ((260 + (260 * x1)) + x2_22) < 2040) ∧ ∀ s13 : sg_M, s13 = sg_up s_22 66 ((260 + (260 * x1)) + x2_22) (s_22 66 x2_22) → sg_R (x2_22 + 1) ∧ (fX12_keep_L22 x1 Q n_22) s13 (x2_22 + 1)))
def fX12_keep (s0 : sg_M) (x1 : Int) (Q : Int → sg_M → Prop) : Prop := ∀ s1 : sg_M, s1 = sg_up s0 64 0 0 → fX12_lay s1 (fun s3 => fX12_isIn x1 0 3 (fun u4 => ((u4 ≠ 0 → (∃ n16 : Nat, fX12_keep_L22 x1 Q n16 s3 0)) ∧ (u4 = 0 → Q 0 s3))))
set_option maxHeartbeats 4000000 in
set_option maxRecDepth 100000 in
theorem CX12_keep {l : Launch} {G : sg_G} {La : sg_L} {s0 : sg_M} (hst : sg_St La) {x1 : Int} (r1 : sg_R x1) {Q : Int → sg_M → Prop} (hf : fX12_keep s0 x1 Q) : sg_C l G yX12_keep cX12_keep 3 (some .boolean) 2 0 0 La s0 [sg_r 64, sg_i x1] (sg_HZ La Q) := by
  refine sg_body (by decide +kernel) (Nat.le_of_ble_eq_true rfl) ?_
  intro p e s m args below meth c F hnm
  unfold fX12_keep at hf
  show sg_W p l e (sg_rm 2 0 0) s m args below meth c (MQ below (sg_Q (some .boolean) G La s.heap.size (sg_HZ La Q)) args s 0 0 (sg_A La s.heap.size)) 3 G (sg_A La s.heap.size) La s0 0 0 0 [(0, sg_r 64), (1, sg_i x1)] []
  refine gw_aload_n F 0 rfl rfl (by decide) dX12_keep_0 ?_
  refine gw_iconst F dX12_keep_1 ?_
  obtain ⟨s1, e2⟩ : ∃ z : sg_M, z = sg_up s0 64 0 0 := ⟨_, rfl⟩
  have hf := hf s1 e2
  refine gw_put0 F (so_64 hst) (by decide) rfl sg_lay_RX12 (j := 0) (by decide) (by decide) e2 tyX12_ok nmX12 rfl (tyX12_ok 0 (by decide)) rfl (host := "") (.inl kw_956) dX12_keep_2 ?_
  refine gw_aload_n F 0 rfl rfl (by decide) dX12_keep_5 ?_
  refine gk_HV F (gc_V F (S := []) (As := []) (T := TX12) (N := 62) (CX12_lay hst hf) (so_64 hst) (by decide) rfl kw_1043 kw_103 kw_1041 kw_1042 kw_41 hcX12_lay ⟨by decide, by decide⟩ rfl rfl (Nat.le_of_ble_eq_true rfl) ⟨by decide, by decide⟩ dX12_keep_6) (fun s3 hf => ?_)
  refine gw_iload_n F 1 rfl rfl dX12_keep_9 ?_
  refine gw_iconst F dX12_keep_10 ?_
  refine gw_iconst F dX12_keep_11 ?_
  refine gk_PZ F (gc_S F (S := []) (As := [sg_i x1, sg_i 0, sg_i 3]) (CX12_isIn r1 (by decide) (by decide) hf) kw_1084 kw_103 kw_1082 kw_1083 hcX12_isIn ⟨by decide, by decide⟩ rfl rfl (Nat.le_of_ble_eq_true rfl) ⟨by decide, by decide⟩ dX12_keep_12) (fun u4 h5 hf => ?_)
  refine gw_if_ne F (tgt := 20) dX12_keep_15 (by decide) (sg_B_R h5) (fun c6 => ?_) (fun c6 => ?_)
  · have hf := hf.1 c6
    refine gw_iconst F dX12_keep_20 ?_
    refine gw_istore_n F rfl (by decide) rfl dX12_keep_21 ?_
    have L22 : ∀ n_22 : Nat, ∀ (s_22 : sg_M) (x2_22 : Int), sg_R x2_22 → fX12_keep_L22 x1 Q n_22 s_22 x2_22 → sg_W p l e (sg_rm 2 0 0) s m args below meth c (MQ below (sg_Q (some .boolean) G La s.heap.size (sg_HZ La Q)) args s 0 0 (sg_A La s.heap.size)) 3 G (sg_A La s.heap.size) La s_22 0 0 22 [(0, sg_r 64), (1, sg_i x1), (2, sg_i x2_22)] [] := by
      intro n_22
      induction n_22 with
      | zero => intro s_22 x2_22 r2_22 hf; exact hf.elim
      | succ n_22 ih =>
        intro s_22 x2_22 r2_22 hf
        unfold fX12_keep_L22 at hf
        refine gw_iload_n F 2 rfl rfl dX12_keep_22 ?_
        refine gw_sipush F rfl dX12_keep_23 ?_
        refine gw_icmp_ge F (tgt := 57) dX12_keep_26 (by decide) r2_22 (by decide) (fun c7 => ?_) (fun c7 => ?_)
        · have hf := hf.1 c7
          refine gw_iconst F dX12_keep_57 ?_
          exact gr_HZ F (by decide) hf (by decide) (by decide) dX12_keep_58
        · have hf := hf.2 c7
          refine gw_aload_n F 0 rfl rfl (by decide) dX12_keep_29 ?_
          refine gw_get7 F (so_64 hst) (by decide) rfl sg_lay_RX12 (j := 14) (by decide) (o1 := 66) (by first | rfl | omega) rfl (host := "") (.inl kw_970) dX12_keep_30 (fun h8 => ?_)
          refine gw_sipush F rfl dX12_keep_33 ?_
          refine gw_sipush F rfl dX12_keep_36 ?_
          refine gw_iload_n F 1 rfl rfl dX12_keep_39 ?_
          refine gw_imul F rfl dX12_keep_40 ?_
          refine gw_iadd F rfl dX12_keep_41 ?_
          refine gw_iload_n F 2 rfl rfl dX12_keep_42 ?_
          refine gw_iadd F rfl dX12_keep_43 ?_
          refine gw_aload_n F 0 rfl rfl (by decide) dX12_keep_44 ?_
          refine gw_get7 F (so_64 hst) (by decide) rfl sg_lay_RX12 (j := 14) (by decide) (o1 := 66) (by first | rfl | omega) rfl (host := "") (.inl kw_970) dX12_keep_45 (fun h9 => ?_)
          refine gw_iload_n F 2 rfl rfl dX12_keep_48 ?_
          obtain ⟨⟨b100, b101⟩, hf⟩ := hf
          refine gw_iald F (sa_66 hst) b100 b101 dX12_keep_49 (fun h11 => ?_)
          obtain ⟨⟨b120, b121⟩, hf⟩ := hf
          obtain ⟨s13, e14⟩ : ∃ z : sg_M, z = sg_up s_22 66 ((260 + (260 * x1)) + x2_22) (s_22 66 x2_22) := ⟨_, rfl⟩
          have hf := hf s13 e14
          refine gw_iast F (sa_66 hst) b120 b121 h11 e14 dX12_keep_50 ?_
          refine gw_iinc F (z := (x2_22 + 1)) 2 rfl (by omega) (by decide) rfl dX12_keep_51 ?_
          refine gw_goto F (tgt := 22) dX12_keep_54 (by decide) ?_
          obtain ⟨g15, hf⟩ := hf
          refine gw_sub [1, 2, 0] rfl ?_
          exact ih s13 (x2_22 + 1) g15 hf
    obtain ⟨n16, hf⟩ := hf
    refine gw_sub [1, 2, 0] rfl ?_
    refine L22   n16 s3 0 (by decide) hf
  · have hf := hf.2 c6
    refine gw_iconst F dX12_keep_18 ?_
    exact gr_HZ F (by decide) hf (by decide) (by decide) dX12_keep_19

theorem dX12_worth_0 : decode cX12_worth 0 = .ok (.aload_n 0, 1) := by decide +kernel
theorem dX12_worth_1 : decode cX12_worth 1 = .ok (.iconst 0, 1) := by decide +kernel
theorem dX12_worth_2 : decode cX12_worth 2 = .ok (.putfield 84, 3) := by decide +kernel
theorem dX12_worth_5 : decode cX12_worth 5 = .ok (.aload_n 0, 1) := by decide +kernel
theorem dX12_worth_6 : decode cX12_worth 6 = .ok (.getfield 270, 3) := by decide +kernel
theorem dX12_worth_9 : decode cX12_worth 9 = .ok (.ireturn, 1) := by decide +kernel
theorem hcX12_worth : yX12_worth.cls ≠ "java/lang/invoke/MethodHandle" ∧ yX12_worth.cls ≠ "java/lang/invoke/VarHandle" ∧ (parseMethodDescriptor yX12_worth.desc).map (fun d => d.parameters.length) = some 0 := ⟨by decide +kernel, by decide +kernel, by decide +kernel⟩
def fX12_worth (s0 : sg_M) (Q : Int → sg_M → Prop) : Prop := ∀ s1 : sg_M, s1 = sg_up s0 64 0 0 → Q (s1 64 38) s1
set_option maxHeartbeats 4000000 in
set_option maxRecDepth 100000 in
theorem CX12_worth {l : Launch} {G : sg_G} {La : sg_L} {s0 : sg_M} (hst : sg_St La) {Q : Int → sg_M → Prop} (hf : fX12_worth s0 Q) : sg_C l G yX12_worth cX12_worth 1 (some .int) 1 0 0 La s0 [sg_r 64] (sg_HI La Q) := by
  refine sg_body (by decide +kernel) (Nat.le_of_ble_eq_true rfl) ?_
  intro p e s m args below meth c F hnm
  unfold fX12_worth at hf
  show sg_W p l e (sg_rm 1 0 0) s m args below meth c (MQ below (sg_Q (some .int) G La s.heap.size (sg_HI La Q)) args s 0 0 (sg_A La s.heap.size)) 1 G (sg_A La s.heap.size) La s0 0 0 0 [(0, sg_r 64)] []
  refine gw_aload_n F 0 rfl rfl (by decide) dX12_worth_0 ?_
  refine gw_iconst F dX12_worth_1 ?_
  obtain ⟨s1, e2⟩ : ∃ z : sg_M, z = sg_up s0 64 0 0 := ⟨_, rfl⟩
  have hf := hf s1 e2
  refine gw_put0 F (so_64 hst) (by decide) rfl sg_lay_RX12 (j := 0) (by decide) (by decide) e2 tyX12_ok nmX12 rfl (tyX12_ok 0 (by decide)) rfl (host := "") (.inl kw_956) dX12_worth_2 ?_
  refine gw_aload_n F 0 rfl rfl (by decide) dX12_worth_5 ?_
  refine gw_get0 F (so_64 hst) (by decide) rfl sg_lay_RX12 (j := 38) (by decide) rfl (host := "") (.inl kw_994) dX12_worth_6 (fun h3 => ?_)
  exact gr_HI F h3 hf (by decide) (by decide) dX12_worth_9

theorem dX12_readCompare_0 : decode cX12_readCompare 0 = .ok (.aload_n 0, 1) := by decide +kernel
theorem dX12_readCompare_1 : decode cX12_readCompare 1 = .ok (.bipush 60, 2) := by decide +kernel
theorem dX12_readCompare_3 : decode cX12_readCompare 3 = .ok (.invokevirtual 165, 3) := by decide +kernel
theorem dX12_readCompare_6 : decode cX12_readCompare 6 = .ok (.ifCond .ne 27, 3) := by decide +kernel
theorem dX12_readCompare_9 : decode cX12_readCompare 9 = .ok (.aload_n 0, 1) := by decide +kernel
theorem dX12_readCompare_10 : decode cX12_readCompare 10 = .ok (.bipush 61, 2) := by decide +kernel
theorem dX12_readCompare_12 : decode cX12_readCompare 12 = .ok (.invokevirtual 165, 3) := by decide +kernel
theorem dX12_readCompare_15 : decode cX12_readCompare 15 = .ok (.ifCond .ne 18, 3) := by decide +kernel
theorem dX12_readCompare_18 : decode cX12_readCompare 18 = .ok (.aload_n 0, 1) := by decide +kernel
theorem dX12_readCompare_19 : decode cX12_readCompare 19 = .ok (.bipush 62, 2) := by decide +kernel
theorem dX12_readCompare_21 : decode cX12_readCompare 21 = .ok (.invokevirtual 165, 3) := by decide +kernel
theorem dX12_readCompare_24 : decode cX12_readCompare 24 = .ok (.ifCond .ne 9, 3) := by decide +kernel
theorem dX12_readCompare_27 : decode cX12_readCompare 27 = .ok (.aload_n 0, 1) := by decide +kernel
theorem dX12_readCompare_28 : decode cX12_readCompare 28 = .ok (.iconst 1, 1) := by decide +kernel
theorem dX12_readCompare_29 : decode cX12_readCompare 29 = .ok (.invokevirtual 152, 3) := by decide +kernel
theorem dX12_readCompare_32 : decode cX12_readCompare 32 = .ok (.ireturn, 1) := by decide +kernel
theorem dX12_readCompare_33 : decode cX12_readCompare 33 = .ok (.aload_n 0, 1) := by decide +kernel
theorem dX12_readCompare_34 : decode cX12_readCompare 34 = .ok (.getfield 116, 3) := by decide +kernel
theorem dX12_readCompare_37 : decode cX12_readCompare 37 = .ok (.istore_n 2, 1) := by decide +kernel
theorem dX12_readCompare_38 : decode cX12_readCompare 38 = .ok (.aload_n 0, 1) := by decide +kernel
theorem dX12_readCompare_39 : decode cX12_readCompare 39 = .ok (.invokevirtual 162, 3) := by decide +kernel
theorem dX12_readCompare_42 : decode cX12_readCompare 42 = .ok (.aload_n 0, 1) := by decide +kernel
theorem dX12_readCompare_43 : decode cX12_readCompare 43 = .ok (.iconst 0, 1) := by decide +kernel
theorem dX12_readCompare_44 : decode cX12_readCompare 44 = .ok (.sipush 9999, 3) := by decide +kernel
theorem dX12_readCompare_47 : decode cX12_readCompare 47 = .ok (.invokevirtual 168, 3) := by decide +kernel
theorem dX12_readCompare_50 : decode cX12_readCompare 50 = .ok (.ifCond .ne 5, 3) := by decide +kernel
theorem dX12_readCompare_53 : decode cX12_readCompare 53 = .ok (.iconst 0, 1) := by decide +kernel
theorem dX12_readCompare_54 : decode cX12_readCompare 54 = .ok (.ireturn, 1) := by decide +kernel
theorem dX12_readCompare_55 : decode cX12_readCompare 55 = .ok (.aload_n 0, 1) := by decide +kernel
theorem dX12_readCompare_56 : decode cX12_readCompare 56 = .ok (.aload_n 0, 1) := by decide +kernel
theorem dX12_readCompare_57 : decode cX12_readCompare 57 = .ok (.bipush 7, 2) := by decide +kernel
theorem dX12_readCompare_59 : decode cX12_readCompare 59 = .ok (.iload_n 1, 1) := by decide +kernel
theorem dX12_readCompare_60 : decode cX12_readCompare 60 = .ok (.aload_n 0, 1) := by decide +kernel
theorem dX12_readCompare_61 : decode cX12_readCompare 61 = .ok (.getfield 159, 3) := by decide +kernel
theorem dX12_readCompare_64 : decode cX12_readCompare 64 = .ok (.iload_n 2, 1) := by decide +kernel
theorem dX12_readCompare_65 : decode cX12_readCompare 65 = .ok (.invokevirtual 371, 3) := by decide +kernel
theorem dX12_readCompare_68 : decode cX12_readCompare 68 = .ok (.putfield 368, 3) := by decide +kernel
theorem dX12_readCompare_71 : decode cX12_readCompare 71 = .ok (.iconst 1, 1) := by decide +kernel
theorem dX12_readCompare_72 : decode cX12_readCompare 72 = .ok (.ireturn, 1) := by decide +kernel
theorem hcX12_readCompare : yX12_readCompare.cls ≠ "java/lang/invoke/MethodHandle" ∧ yX12_readCompare.cls ≠ "java/lang/invoke/VarHandle" ∧ (parseMethodDescriptor yX12_readCompare.desc).map (fun d => d.parameters.length) = some 1 := ⟨by decide +kernel, by decide +kernel, by decide +kernel⟩
def fX12_readCompare_j33 (s0 : sg_M) (x1 : Int) (Q : Int → sg_M → Prop)  : Prop := fX12_go s0 (fun s4 => fX12_readNumber s4 0 9999 (fun u5 s7 => ((u5 ≠ 0 → fX12_lays s7 7 x1 (s7 64 13) (s0 64 9) (fun u10 s12 => ∀ s13 : sg_M, s13 = sg_up s12 64 61 u10 → Q 1 s13)) ∧ (u5 = 0 → Q 0 s7))))
def fX12_readCompare (s0 : sg_M) (x1 : Int) (Q : Int → sg_M → Prop) : Prop := fX12_isSign s0 60 (fun u1 => ((u1 ≠ 0 → (fX12_readCompare_j33 s0 x1 Q)) ∧ (u1 = 0 → fX12_isSign s0 61 (fun u16 => ((u16 ≠ 0 → (fX12_readCompare_j33 s0 x1 Q)) ∧ (u16 = 0 → fX12_isSign s0 62 (fun u19 => ((u19 ≠ 0 → (fX12_readCompare_j33 s0 x1 Q)) ∧ (u19 = 0 → fX12_bad s0 1 (fun u22 s24 => Q u22 s24))))))))))
set_option maxHeartbeats 4000000 in
set_option maxRecDepth 100000 in
theorem CX12_readCompare {l : Launch} {G : sg_G} {La : sg_L} {s0 : sg_M} (hst : sg_St La) {x1 : Int} (r1 : sg_R x1) {Q : Int → sg_M → Prop} (hf : fX12_readCompare s0 x1 Q) : sg_C l G yX12_readCompare cX12_readCompare 3 (some .boolean) 4 0 0 La s0 [sg_r 64, sg_i x1] (sg_HZ La Q) := by
  refine sg_body (by decide +kernel) (Nat.le_of_ble_eq_true rfl) ?_
  intro p e s m args below meth c F hnm
  unfold fX12_readCompare at hf
  show sg_W p l e (sg_rm 4 0 0) s m args below meth c (MQ below (sg_Q (some .boolean) G La s.heap.size (sg_HZ La Q)) args s 0 0 (sg_A La s.heap.size)) 3 G (sg_A La s.heap.size) La s0 0 0 0 [(0, sg_r 64), (1, sg_i x1)] []
  refine gw_aload_n F 0 rfl rfl (by decide) dX12_readCompare_0 ?_
  refine gw_bipush F rfl dX12_readCompare_1 ?_
  refine gk_PZ F (gc_V F (S := []) (As := [sg_i 60]) (T := TX12) (N := 62) (CX12_isSign hst (by decide) hf) (so_64 hst) (by decide) rfl kw_1090 kw_103 kw_1088 kw_1089 kw_50 hcX12_isSign ⟨by decide, by decide⟩ rfl rfl (Nat.le_of_ble_eq_true rfl) ⟨by decide, by decide⟩ dX12_readCompare_3) (fun u1 h2 hf => ?_)
  have J33 : (fX12_readCompare_j33 s0 x1 Q) → sg_W p l e (sg_rm 4 0 0) s m args below meth c (MQ below (sg_Q (some .boolean) G La s.heap.size (sg_HZ La Q)) args s 0 0 (sg_A La s.heap.size)) 3 G (sg_A La s.heap.size) La s0 0 0 33 [(0, sg_r 64), (1, sg_i x1)] [] := by
    intro hf
    unfold fX12_readCompare_j33 at hf
    refine gw_aload_n F 0 rfl rfl (by decide) dX12_readCompare_33 ?_
    refine gw_get0 F (so_64 hst) (by decide) rfl sg_lay_RX12 (j := 9) (by decide) rfl (host := "") (.inl kw_965) dX12_readCompare_34 (fun h3 => ?_)
    refine gw_istore_n F rfl (by decide) rfl dX12_readCompare_37 ?_
    refine gw_aload_n F 1 rfl rfl (by decide) dX12_readCompare_38 ?_
    refine gk_HV F (gc_V F (S := []) (As := []) (T := TX12) (N := 62) (CX12_go hst hf) (so_64 hst) (by decide) rfl kw_1049 kw_103 kw_1047 kw_1048 kw_43 hcX12_go ⟨by decide, by decide⟩ rfl rfl (Nat.le_of_ble_eq_true rfl) ⟨by decide, by decide⟩ dX12_readCompare_39) (fun s4 hf => ?_)
    refine gw_aload_n F 1 rfl rfl (by decide) dX12_readCompare_42 ?_
    refine gw_iconst F dX12_readCompare_43 ?_
    refine gw_sipush F rfl dX12_readCompare_44 ?_
    refine gk_HZ F (gc_V F (S := []) (As := [sg_i 0, sg_i 9999]) (T := TX12) (N := 62) (CX12_readNumber hst (by decide) (by decide) hf) (so_64 hst) (by decide) rfl kw_1081 kw_103 kw_1079 kw_1080 kw_48 hcX12_readNumber ⟨by decide, by decide⟩ rfl rfl (Nat.le_of_ble_eq_true rfl) ⟨by decide, by decide⟩ dX12_readCompare_47) (fun u5 s7 h6 hf => ?_)
    refine gw_if_ne F (tgt := 55) dX12_readCompare_50 (by decide) (sg_B_R h6) (fun c8 => ?_) (fun c8 => ?_)
    · have hf := hf.1 c8
      refine gw_aload_n F 1 rfl rfl (by decide) dX12_readCompare_55 ?_
      refine gw_aload_n F 1 rfl rfl (by decide) dX12_readCompare_56 ?_
      refine gw_bipush F rfl dX12_readCompare_57 ?_
      refine gw_iload_n F 2 rfl rfl dX12_readCompare_59 ?_
      refine gw_aload_n F 1 rfl rfl (by decide) dX12_readCompare_60 ?_
      refine gw_get0 F (so_64 hst) (by decide) rfl sg_lay_RX12 (j := 13) (by decide) rfl (host := "") (.inl kw_969) dX12_readCompare_61 (fun h9 => ?_)
      refine gw_iload_n F 0 rfl rfl dX12_readCompare_64 ?_
      refine gk_HI F (gc_V F (S := [sg_r 64]) (As := [sg_i 7, sg_i x1, sg_i (s7 64 13), sg_i (s0 64 9)]) (T := TX12) (N := 62) (CX12_lays hst (by decide) r1 h9 h3 hf) (so_64 hst) (by decide) rfl kw_1325 kw_103 kw_1323 kw_1324 kw_85 hcX12_lays ⟨by decide, by decide⟩ rfl rfl (Nat.le_of_ble_eq_true rfl) ⟨by decide, by decide⟩ dX12_readCompare_65) (fun u10 s12 h11 hf => ?_)
      obtain ⟨s13, e14⟩ : ∃ z : sg_M, z = sg_up s12 64 61 u10 := ⟨_, rfl⟩
      have hf := hf s13 e14
      refine gw_put0 F (so_64 hst) (by decide) rfl sg_lay_RX12 (j := 61) (by decide) h11 e14 tyX12_ok nmX12 rfl (tyX12_ok 61 (by decide)) rfl (host := "") (.inl kw_1017) dX12_readCompare_68 ?_
      refine gw_iconst F dX12_readCompare_71 ?_
      exact gr_HZ F (by decide) hf (by decide) (by decide) dX12_readCompare_72
    · have hf := hf.2 c8
      refine gw_iconst F dX12_readCompare_53 ?_
      exact gr_HZ F (by decide) hf (by decide) (by decide) dX12_readCompare_54
  refine gw_if_ne F (tgt := 33) dX12_readCompare_6 (by decide) (sg_B_R h2) (fun c15 => ?_) (fun c15 => ?_)
  · have hf := hf.1 c15
    refine gw_sub [0, 1] rfl ?_
    exact J33  hf
  · have hf := hf.2 c15
    refine gw_aload_n F 0 rfl rfl (by decide) dX12_readCompare_9 ?_
    refine gw_bipush F rfl dX12_readCompare_10 ?_
    refine gk_PZ F (gc_V F (S := []) (As := [sg_i 61]) (T := TX12) (N := 62) (CX12_isSign hst (by decide) hf) (so_64 hst) (by decide) rfl kw_1090 kw_103 kw_1088 kw_1089 kw_50 hcX12_isSign ⟨by decide, by decide⟩ rfl rfl (Nat.le_of_ble_eq_true rfl) ⟨by decide, by decide⟩ dX12_readCompare_12) (fun u16 h17 hf => ?_)
    refine gw_if_ne F (tgt := 33) dX12_readCompare_15 (by decide) (sg_B_R h17) (fun c18 => ?_) (fun c18 => ?_)
    · have hf := hf.1 c18
      refine gw_sub [0, 1] rfl ?_
      exact J33  hf
    · have hf := hf.2 c18
      refine gw_aload_n F 0 rfl rfl (by decide) dX12_readCompare_18 ?_
      refine gw_bipush F rfl dX12_readCompare_19 ?_
      refine gk_PZ F (gc_V F (S := []) (As := [sg_i 62]) (T := TX12) (N := 62) (CX12_isSign hst (by decide) hf) (so_64 hst) (by decide) rfl kw_1090 kw_103 kw_1088 kw_1089 kw_50 hcX12_isSign ⟨by decide, by decide⟩ rfl rfl (Nat.le_of_ble_eq_true rfl) ⟨by decide, by decide⟩ dX12_readCompare_21) (fun u19 h20 hf => ?_)
      refine gw_if_ne F (tgt := 33) dX12_readCompare_24 (by decide) (sg_B_R h20) (fun c21 => ?_) (fun c21 => ?_)
      · have hf := hf.1 c21
        refine gw_sub [0, 1] rfl ?_
        exact J33  hf
      · have hf := hf.2 c21
        refine gw_aload_n F 0 rfl rfl (by decide) dX12_readCompare_27 ?_
        refine gw_iconst F dX12_readCompare_28 ?_
        refine gk_HZ F (gc_V F (S := []) (As := [sg_i 1]) (T := TX12) (N := 62) (CX12_bad hst (by decide) hf) (so_64 hst) (by decide) rfl kw_1078 kw_103 kw_1076 kw_1077 kw_47 hcX12_bad ⟨by decide, by decide⟩ rfl rfl (Nat.le_of_ble_eq_true rfl) ⟨by decide, by decide⟩ dX12_readCompare_29) (fun u22 s24 h23 hf => ?_)
        exact gr_HZ F h23 hf (by decide) (by decide) dX12_readCompare_32

theorem dX12_breaks_0 : decode cX12_breaks 0 = .ok (.aload_n 0, 1) := by decide +kernel
theorem dX12_breaks_1 : decode cX12_breaks 1 = .ok (.iconst 0, 1) := by decide +kernel
theorem dX12_breaks_2 : decode cX12_breaks 2 = .ok (.putfield 84, 3) := by decide +kernel
theorem dX12_breaks_5 : decode cX12_breaks 5 = .ok (.aload_n 0, 1) := by decide +kernel
theorem dX12_breaks_6 : decode cX12_breaks 6 = .ok (.invokevirtual 175, 3) := by decide +kernel
theorem dX12_breaks_9 : decode cX12_breaks 9 = .ok (.iload_n 1, 1) := by decide +kernel
theorem dX12_breaks_10 : decode cX12_breaks 10 = .ok (.iload_n 2, 1) := by decide +kernel
theorem dX12_breaks_11 : decode cX12_breaks 11 = .ok (.invokestatic 232, 3) := by decide +kernel
theorem dX12_breaks_14 : decode cX12_breaks 14 = .ok (.ifCond .ne 6, 3) := by decide +kernel
theorem dX12_breaks_17 : decode cX12_breaks 17 = .ok (.bipush (-2), 2) := by decide +kernel
theorem dX12_breaks_19 : decode cX12_breaks 19 = .ok (.ireturn, 1) := by decide +kernel
theorem dX12_breaks_20 : decode cX12_breaks 20 = .ok (.aload_n 0, 1) := by decide +kernel
theorem dX12_breaks_21 : decode cX12_breaks 21 = .ok (.iconst 0, 1) := by decide +kernel
theorem dX12_breaks_22 : decode cX12_breaks 22 = .ok (.iload_n 1, 1) := by decide +kernel
theorem dX12_breaks_23 : decode cX12_breaks 23 = .ok (.iload_n 2, 1) := by decide +kernel
theorem dX12_breaks_24 : decode cX12_breaks 24 = .ok (.iconst 0, 1) := by decide +kernel
theorem dX12_breaks_25 : decode cX12_breaks 25 = .ok (.iconst 0, 1) := by decide +kernel
theorem dX12_breaks_26 : decode cX12_breaks 26 = .ok (.invokevirtual 235, 3) := by decide +kernel
theorem dX12_breaks_29 : decode cX12_breaks 29 = .ok (.aload_n 0, 1) := by decide +kernel
theorem dX12_breaks_30 : decode cX12_breaks 30 = .ok (.getfield 218, 3) := by decide +kernel
theorem dX12_breaks_33 : decode cX12_breaks 33 = .ok (.ireturn, 1) := by decide +kernel
theorem hcX12_breaks : yX12_breaks.cls ≠ "java/lang/invoke/MethodHandle" ∧ yX12_breaks.cls ≠ "java/lang/invoke/VarHandle" ∧ (parseMethodDescriptor yX12_breaks.desc).map (fun d => d.parameters.length) = some 2 := ⟨by decide +kernel, by decide +kernel, by decide +kernel⟩
def fX12_breaks (s0 : sg_M) (x1 : Int) (x2 : Int) (Q : Int → sg_M → Prop) : Prop := ∀ s1 : sg_M, s1 = sg_up s0 64 0 0 → fX12_lay s1 (fun s3 => fX12_isBend x1 x2 (fun u4 => ((u4 ≠ 0 → fX12_layBend s3 0 x1 x2 0 0 (fun s7 => Q (s7 64 30) s7)) ∧ (u4 = 0 → Q (-2) s3))))
set_option maxHeartbeats 4000000 in
set_option maxRecDepth 100000 in
theorem CX12_breaks {l : Launch} {G : sg_G} {La : sg_L} {s0 : sg_M} (hst : sg_St La) {x1 : Int} (r1 : sg_R x1) {x2 : Int} (r2 : sg_R x2) {Q : Int → sg_M → Prop} (hf : fX12_breaks s0 x1 x2 Q) : sg_C l G yX12_breaks cX12_breaks 3 (some .int) 3 0 0 La s0 [sg_r 64, sg_i x1, sg_i x2] (sg_HI La Q) := by
  refine sg_body (by decide +kernel) (Nat.le_of_ble_eq_true rfl) ?_
  intro p e s m args below meth c F hnm
  unfold fX12_breaks at hf
  show sg_W p l e (sg_rm 3 0 0) s m args below meth c (MQ below (sg_Q (some .int) G La s.heap.size (sg_HI La Q)) args s 0 0 (sg_A La s.heap.size)) 3 G (sg_A La s.heap.size) La s0 0 0 0 [(0, sg_r 64), (1, sg_i x1), (2, sg_i x2)] []
  refine gw_aload_n F 0 rfl rfl (by decide) dX12_breaks_0 ?_
  refine gw_iconst F dX12_breaks_1 ?_
  obtain ⟨s1, e2⟩ : ∃ z : sg_M, z = sg_up s0 64 0 0 := ⟨_, rfl⟩
  have hf := hf s1 e2
  refine gw_put0 F (so_64 hst) (by decide) rfl sg_lay_RX12 (j := 0) (by decide) (by decide) e2 tyX12_ok nmX12 rfl (tyX12_ok 0 (by decide)) rfl (host := "") (.inl kw_956) dX12_breaks_2 ?_
  refine gw_aload_n F 0 rfl rfl (by decide) dX12_breaks_5 ?_
  refine gk_HV F (gc_V F (S := []) (As := []) (T := TX12) (N := 62) (CX12_lay hst hf) (so_64 hst) (by decide) rfl kw_1043 kw_103 kw_1041 kw_1042 kw_41 hcX12_lay ⟨by decide, by decide⟩ rfl rfl (Nat.le_of_ble_eq_true rfl) ⟨by decide, by decide⟩ dX12_breaks_6) (fun s3 hf => ?_)
  refine gw_iload_n F 1 rfl rfl dX12_breaks_9 ?_
  refine gw_iload_n F 2 rfl rfl dX12_breaks_10 ?_
  refine gk_PZ F (gc_S F (S := []) (As := [sg_i x1, sg_i x2]) (CX12_isBend r1 r2 hf) kw_1117 kw_103 kw_1115 kw_1116 hcX12_isBend ⟨by decide, by decide⟩ rfl rfl (Nat.le_of_ble_eq_true rfl) ⟨by decide, by decide⟩ dX12_breaks_11) (fun u4 h5 hf => ?_)
  refine gw_if_ne F (tgt := 20) dX12_breaks_14 (by decide) (sg_B_R h5) (fun c6 => ?_) (fun c6 => ?_)
  · have hf := hf.1 c6
    refine gw_aload_n F 0 rfl rfl (by decide) dX12_breaks_20 ?_
    refine gw_iconst F dX12_breaks_21 ?_
    refine gw_iload_n F 1 rfl rfl dX12_breaks_22 ?_
    refine gw_iload_n F 2 rfl rfl dX12_breaks_23 ?_
    refine gw_iconst F dX12_breaks_24 ?_
    refine gw_iconst F dX12_breaks_25 ?_
    refine gk_HV F (gc_V F (S := []) (As := [sg_i 0, sg_i x1, sg_i x2, sg_i 0, sg_i 0]) (T := TX12) (N := 62) (CX12_layBend hst (by decide) r1 r2 (by decide) (by decide) hf) (so_64 hst) (by decide) rfl kw_1120 kw_103 kw_1118 kw_1119 kw_55 hcX12_layBend ⟨by decide, by decide⟩ rfl rfl (Nat.le_of_ble_eq_true rfl) ⟨by decide, by decide⟩ dX12_breaks_26) (fun s7 hf => ?_)
    refine gw_aload_n F 0 rfl rfl (by decide) dX12_breaks_29 ?_
    refine gw_get0 F (so_64 hst) (by decide) rfl sg_lay_RX12 (j := 30) (by decide) rfl (host := "") (.inl kw_986) dX12_breaks_30 (fun h8 => ?_)
    exact gr_HI F h8 hf (by decide) (by decide) dX12_breaks_33
  · have hf := hf.2 c6
    refine gw_bipush F rfl dX12_breaks_17 ?_
    exact gr_HI F (by decide) hf (by decide) (by decide) dX12_breaks_19
