theorem dX11_image_0 : decode cX11_image 0 = .ok (.iload_n 1, 1) := by decide +kernel
theorem dX11_image_1 : decode cX11_image 1 = .ok (.ifCond .lt 8, 3) := by decide +kernel
theorem dX11_image_4 : decode cX11_image 4 = .ok (.iload_n 1, 1) := by decide +kernel
theorem dX11_image_5 : decode cX11_image 5 = .ok (.iconst 2, 1) := by decide +kernel
theorem dX11_image_6 : decode cX11_image 6 = .ok (.if_icmp .lt 5, 3) := by decide +kernel
theorem dX11_image_9 : decode cX11_image 9 = .ok (.iconst 0, 1) := by decide +kernel
theorem dX11_image_10 : decode cX11_image 10 = .ok (.ireturn, 1) := by decide +kernel
theorem dX11_image_11 : decode cX11_image 11 = .ok (.aload_n 0, 1) := by decide +kernel
theorem dX11_image_12 : decode cX11_image 12 = .ok (.getfield 43, 3) := by decide +kernel
theorem dX11_image_15 : decode cX11_image 15 = .ok (.iload_n 1, 1) := by decide +kernel
theorem dX11_image_16 : decode cX11_image 16 = .ok (.aaload, 1) := by decide +kernel
theorem dX11_image_17 : decode cX11_image 17 = .ok (.ifnonnull 37, 3) := by decide +kernel
theorem dX11_image_20 : decode cX11_image 20 = .ok (.aload_n 0, 1) := by decide +kernel
theorem dX11_image_21 : decode cX11_image 21 = .ok (.getfield 43, 3) := by decide +kernel
theorem dX11_image_24 : decode cX11_image 24 = .ok (.iload_n 1, 1) := by decide +kernel
theorem dX11_image_25 : decode cX11_image 25 = .ok (.new 25, 3) := by decide +kernel
theorem dX11_image_28 : decode cX11_image 28 = .ok (.dup, 1) := by decide +kernel
theorem dX11_image_29 : decode cX11_image 29 = .ok (.aload_n 0, 1) := by decide +kernel
theorem dX11_image_30 : decode cX11_image 30 = .ok (.getfield 39, 3) := by decide +kernel
theorem dX11_image_33 : decode cX11_image 33 = .ok (.getfield 112, 3) := by decide +kernel
theorem dX11_image_36 : decode cX11_image 36 = .ok (.aload_n 0, 1) := by decide +kernel
theorem dX11_image_37 : decode cX11_image 37 = .ok (.getfield 39, 3) := by decide +kernel
theorem dX11_image_40 : decode cX11_image 40 = .ok (.getfield 212, 3) := by decide +kernel
theorem dX11_image_43 : decode cX11_image 43 = .ok (.aload_n 0, 1) := by decide +kernel
theorem dX11_image_44 : decode cX11_image 44 = .ok (.getfield 39, 3) := by decide +kernel
theorem dX11_image_47 : decode cX11_image 47 = .ok (.getfield 324, 3) := by decide +kernel
theorem dX11_image_50 : decode cX11_image 50 = .ok (.invokespecial 36, 3) := by decide +kernel
theorem dX11_image_53 : decode cX11_image 53 = .ok (.aastore, 1) := by decide +kernel
theorem dX11_image_54 : decode cX11_image 54 = .ok (.aload_n 0, 1) := by decide +kernel
theorem dX11_image_55 : decode cX11_image 55 = .ok (.getfield 43, 3) := by decide +kernel
theorem dX11_image_58 : decode cX11_image 58 = .ok (.iload_n 1, 1) := by decide +kernel
theorem dX11_image_59 : decode cX11_image 59 = .ok (.aaload, 1) := by decide +kernel
theorem dX11_image_60 : decode cX11_image 60 = .ok (.aload_n 0, 1) := by decide +kernel
theorem dX11_image_61 : decode cX11_image 61 = .ok (.getfield 39, 3) := by decide +kernel
theorem dX11_image_64 : decode cX11_image 64 = .ok (.invokevirtual 334, 3) := by decide +kernel
theorem dX11_image_67 : decode cX11_image 67 = .ok (.iconst 1, 1) := by decide +kernel
theorem dX11_image_68 : decode cX11_image 68 = .ok (.ireturn, 1) := by decide +kernel
theorem hcX11_image : yX11_image.cls ≠ "java/lang/invoke/MethodHandle" ∧ yX11_image.cls ≠ "java/lang/invoke/VarHandle" ∧ (parseMethodDescriptor yX11_image.desc).map (fun d => d.parameters.length) = some 1 := ⟨by decide +kernel, by decide +kernel, by decide +kernel⟩
def fX11_image (La : sg_L) (s0 : sg_M) (x1 : Int) (Q : Int → sg_L → sg_M → Prop) : Prop := ((x1 < 0 → Q 0 La s0) ∧ (¬ (x1 < 0) → ((x1 < 2 → (0 ≤ x1 ∧ x1 < 2) ∧ ((0 ≤ (s0 26 x1) → (0 ≤ x1 ∧ x1 < 2) ∧ (0 ≤ (s0 26 x1)) ∧ fX7_copyFrom_B La s0 (s0 26 x1) (fun s14 => Q 1 La s14)) ∧ ((s0 26 x1) < 0 → ∀ (q16 : Nat) (La17 : sg_L), La17 = sg_pu La 47 q16 → ∀ s18 : sg_M, s18 = sg_nw s0 La.1 47 → ∀ o19 : Int, o19 = (La.1 : Int) → (0 ≤ (s18 4 0)) ∧ (0 ≤ (s18 4 1)) ∧ (0 ≤ (s18 4 2)) ∧ fX7_init_B La17 s18 o19 (s18 4 0) (s18 4 1) (s18 4 2) (fun La40 s41 => (0 ≤ x1 ∧ x1 < 2) ∧ ∀ s47 : sg_M, s47 = sg_up s41 26 x1 o19 → (0 ≤ x1 ∧ x1 < 2) ∧ (0 ≤ (s47 26 x1)) ∧ fX7_copyFrom_B La40 s47 (s47 26 x1) (fun s55 => Q 1 La40 s55))))) ∧ (¬ (x1 < 2) → Q 0 La s0))))
set_option maxHeartbeats 4000000 in
set_option maxRecDepth 100000 in
theorem CX11_image {l : Launch} {G : sg_G} {La : sg_L} {s0 : sg_M} (hst : sg_St La) {x1 : Int} (r1 : sg_R x1) {Q : Int → sg_L → sg_M → Prop} (hf : fX11_image La s0 x1 Q) : sg_C l G yX11_image cX11_image 2 (some .boolean) 5 7 418 La s0 [sg_r 0, sg_i x1] (sg_BZ La Q) := by
  refine sg_body (by decide +kernel) (Nat.le_of_ble_eq_true rfl) ?_
  intro p e s m args below meth c F hnm
  unfold fX11_image at hf
  show sg_W p l e (sg_rm 5 7 418) s m args below meth c (MQ below (sg_Q (some .boolean) G La s.heap.size (sg_BZ La Q)) args s 7 418 (sg_A La s.heap.size)) 2 G (sg_A La s.heap.size) La s0 0 0 0 [(0, sg_r 0), (1, sg_i x1)] []
  refine gw_iload_n F 1 rfl rfl dX11_image_0 ?_
  refine gw_if_lt F (tgt := 9) dX11_image_1 (by decide) r1 (fun c1 => ?_) (fun c1 => ?_)
  · have hf := hf.1 c1
    refine gw_iconst F dX11_image_9 ?_
    exact gr_BZ F (by decide) hf (sg_X.rf) (by decide) (by decide) dX11_image_10
  · have hf := hf.2 c1
    refine gw_iload_n F 1 rfl rfl dX11_image_4 ?_
    refine gw_iconst F dX11_image_5 ?_
    refine gw_icmp_lt F (tgt := 11) dX11_image_6 (by decide) r1 (by decide) (fun c2 => ?_) (fun c2 => ?_)
    · have hf := hf.1 c2
      refine gw_aload_n F 0 rfl rfl (by decide) dX11_image_11 ?_
      refine gw_get7 F (so_0 hst) (by decide) rfl sg_lay_RX11 (j := 3) (by decide) (o1 := 26) (by first | rfl | omega) rfl (host := "") (.inl kw_329) dX11_image_12 (fun h3 => ?_)
      refine gw_iload_n F 1 rfl rfl dX11_image_15 ?_
      obtain ⟨⟨b40, b41⟩, hf⟩ := hf
      refine gw_aaldS F (n := 2) (so_26 hst) (by decide) (by decide) (by decide) b40 b41 dX11_image_16 (fun h5 => ?_)
      refine gw_ifnonnull F (tgt := 54) dX11_image_17 (by decide) (fun c6 => ?_) (fun c6 => ?_)
      · have hf := hf.1 c6
        have t7 := sg_nn h5 c6
        refine gw_aload_n F 0 rfl rfl (by decide) dX11_image_54 ?_
        refine gw_get7 F (so_0 hst) (by decide) rfl sg_lay_RX11 (j := 3) (by decide) (o1 := 26) (by first | rfl | omega) rfl (host := "") (.inl kw_329) dX11_image_55 (fun h8 => ?_)
        refine gw_iload_n F 1 rfl rfl dX11_image_58 ?_
        obtain ⟨⟨b90, b91⟩, hf⟩ := hf
        refine gw_aaldS F (n := 2) (so_26 hst) (by decide) (by decide) (by decide) b90 b91 dX11_image_59 (fun h10 => ?_)
        refine gw_aload_n F 0 rfl rfl (by decide) dX11_image_60 ?_
        refine gw_get7 F (so_0 hst) (by decide) rfl sg_lay_RX11 (j := 2) (by decide) (o1 := 4) (by first | rfl | omega) rfl (host := "") (.inl kw_328) dX11_image_61 (fun h11 => ?_)
        obtain ⟨g12, hf⟩ := hf
        have t13 := sg_nn h10 g12
        refine gk_HV F (gc_V F (S := []) (As := [sg_r 4]) (T := TX7) (N := 5) (CX7_copyFrom_B hst t13 hf) t13 (by decide) rfl kw_861 kw_93 kw_858 kw_859 kw_860 hcX7_copyFrom ⟨by decide, by decide⟩ rfl rfl (Nat.le_of_ble_eq_true rfl) ⟨by decide, by decide⟩ dX11_image_64) (fun s14 hf => ?_)
        refine gw_iconst F dX11_image_67 ?_
        exact gr_BZ F (by decide) hf (sg_X.rf) (by decide) (by decide) dX11_image_68
      · have hf := hf.2 c6
        refine gw_aload_n F 0 rfl rfl (by decide) dX11_image_20 ?_
        refine gw_get7 F (so_0 hst) (by decide) rfl sg_lay_RX11 (j := 3) (by decide) (o1 := 26) (by first | rfl | omega) rfl (host := "") (.inl kw_329) dX11_image_21 (fun h15 => ?_)
        refine gw_iload_n F 1 rfl rfl dX11_image_24 ?_
        refine gy_new F (kd := 47) (T := TX7) (by decide) rfl sg_lay_RX7 tyX7_ok kw_150 kw_151 kw_93 ns_X7 nf_X7 nr_X7 (by decide) (by decide) (List.forall_mem_cons.mpr ⟨(Or.inl (so_0 hst).2.1), (List.forall_mem_cons.mpr ⟨True.intro, (fun _ h => absurd h List.not_mem_nil)⟩)⟩) (List.forall_mem_cons.mpr ⟨True.intro, (List.forall_mem_cons.mpr ⟨(Or.inl (so_26 hst).2.1), (fun _ h => absurd h List.not_mem_nil)⟩)⟩) dX11_image_25 (fun q16 La17 s18 o19 e20 e21 e22 t23 hX24 => ?_)
        have hf := hf q16 La17 e20 s18 e21 o19 e22
        have hn25 : La.1 ≤ o19.toNat := by rw [e22, Int.toNat_natCast]; exact (sg_X.rf : sg_X La La).1
        have hst26 := hst.X hX24
        have hX27 := sg_X.tr (sg_X.rf) hX24
        refine gw_dup F rfl dX11_image_28 ?_
        refine gw_aload_n F 0 rfl rfl (by decide) dX11_image_29 ?_
        refine gw_get7 F (so_0 hst26) (by decide) rfl sg_lay_RX11 (j := 2) (by decide) (o1 := 4) (by first | rfl | omega) rfl (host := "") (.inl kw_328) dX11_image_30 (fun h28 => ?_)
        refine gw_get4 F (so_4 hst26) (by decide) rfl sg_lay_RX7 (j := 0) (by decide) rfl (.inr kw_234) dX11_image_33 (fun h29 => ?_)
        refine gw_aload_n F 0 rfl rfl (by decide) dX11_image_36 ?_
        refine gw_get7 F (so_0 hst26) (by decide) rfl sg_lay_RX11 (j := 2) (by decide) (o1 := 4) (by first | rfl | omega) rfl (host := "") (.inl kw_328) dX11_image_37 (fun h30 => ?_)
        refine gw_get4 F (so_4 hst26) (by decide) rfl sg_lay_RX7 (j := 1) (by decide) rfl (.inr kw_236) dX11_image_40 (fun h31 => ?_)
        refine gw_aload_n F 0 rfl rfl (by decide) dX11_image_43 ?_
        refine gw_get7 F (so_0 hst26) (by decide) rfl sg_lay_RX11 (j := 2) (by decide) (o1 := 4) (by first | rfl | omega) rfl (host := "") (.inl kw_328) dX11_image_44 (fun h32 => ?_)
        refine gw_get4 F (so_4 hst26) (by decide) rfl sg_lay_RX7 (j := 2) (by decide) rfl (.inr kw_238) dX11_image_47 (fun h33 => ?_)
        obtain ⟨g34, hf⟩ := hf
        have t35 := sg_nn h29 g34
        obtain ⟨g36, hf⟩ := hf
        have t37 := sg_nn h31 g36
        obtain ⟨g38, hf⟩ := hf
        have t39 := sg_nn h33 g38
        refine gk_BV F (gc_I F (S := [sg_r o19, sg_i x1, sg_r 26]) (As := [sg_r (s18 4 0), sg_r (s18 4 1), sg_r (s18 4 2)]) (CX7_init_B t23 t35 t37 t39 hf) t23.1 kw_214 kw_93 kw_212 kw_213 rfl hcX7_init ⟨by decide, by decide⟩ rfl rfl (Nat.le_of_ble_eq_true rfl) ⟨by decide, by decide⟩ dX11_image_50) (List.forall_mem_cons.mpr ⟨(Or.inl (so_0 hst26).2.1), (List.forall_mem_cons.mpr ⟨True.intro, (fun _ h => absurd h List.not_mem_nil)⟩)⟩) (List.forall_mem_cons.mpr ⟨(Or.inl t23.2.1), (List.forall_mem_cons.mpr ⟨True.intro, (List.forall_mem_cons.mpr ⟨(Or.inl (so_26 hst26).2.1), (fun _ h => absurd h List.not_mem_nil)⟩)⟩)⟩) (fun La40 s41 hX42 hf => ?_)
        have t43 := (sg_O_sealed t23).X hX42
        have hst44 := (sg_St_sx hst26 t23 ⟨by decide, by decide, by decide⟩).X hX42
        have hX45 := (sg_X_sx (hX27) hn25).tr hX42
        obtain ⟨⟨b460, b461⟩, hf⟩ := hf
        obtain ⟨s47, e48⟩ : ∃ z : sg_M, z = sg_up s41 26 x1 o19 := ⟨_, rfl⟩
        have hf := hf s47 e48
        refine gw_aastS F (n := 2) (so_26 hst44) (by decide) (by decide) (by decide) b460 b461 t43 e48 dX11_image_53 ?_
        refine gw_aload_n F 0 rfl rfl (by decide) dX11_image_54 ?_
        refine gw_get7 F (so_0 hst44) (by decide) rfl sg_lay_RX11 (j := 3) (by decide) (o1 := 26) (by first | rfl | omega) rfl (host := "") (.inl kw_329) dX11_image_55 (fun h49 => ?_)
        refine gw_iload_n F 1 rfl rfl dX11_image_58 ?_
        obtain ⟨⟨b500, b501⟩, hf⟩ := hf
        refine gw_aaldS F (n := 2) (so_26 hst44) (by decide) (by decide) (by decide) b500 b501 dX11_image_59 (fun h51 => ?_)
        refine gw_aload_n F 0 rfl rfl (by decide) dX11_image_60 ?_
        refine gw_get7 F (so_0 hst44) (by decide) rfl sg_lay_RX11 (j := 2) (by decide) (o1 := 4) (by first | rfl | omega) rfl (host := "") (.inl kw_328) dX11_image_61 (fun h52 => ?_)
        obtain ⟨g53, hf⟩ := hf
        have t54 := sg_nn h51 g53
        refine gk_HV F (gc_V F (S := []) (As := [sg_r 4]) (T := TX7) (N := 5) (CX7_copyFrom_B hst44 t54 hf) t54 (by decide) rfl kw_861 kw_93 kw_858 kw_859 kw_860 hcX7_copyFrom ⟨by decide, by decide⟩ rfl rfl (Nat.le_of_ble_eq_true rfl) ⟨by decide, by decide⟩ dX11_image_64) (fun s55 hf => ?_)
        refine gw_iconst F dX11_image_67 ?_
        exact gr_BZ F (by decide) hf (hX45) (by decide) (by decide) dX11_image_68
    · have hf := hf.2 c2
      refine gw_iconst F dX11_image_9 ?_
      exact gr_BZ F (by decide) hf (sg_X.rf) (by decide) (by decide) dX11_image_10

theorem dX11_hearBook_0 : decode cX11_hearBook 0 = .ok (.aload_n 0, 1) := by decide +kernel
theorem dX11_hearBook_1 : decode cX11_hearBook 1 = .ok (.getfield 93, 3) := by decide +kernel
theorem dX11_hearBook_4 : decode cX11_hearBook 4 = .ok (.getfield 346, 3) := by decide +kernel
theorem dX11_hearBook_7 : decode cX11_hearBook 7 = .ok (.ifCond .eq 4, 3) := by decide +kernel
theorem dX11_hearBook_10 : decode cX11_hearBook 10 = .ok (.return_, 1) := by decide +kernel
theorem dX11_hearBook_11 : decode cX11_hearBook 11 = .ok (.aload_n 0, 1) := by decide +kernel
theorem dX11_hearBook_12 : decode cX11_hearBook 12 = .ok (.getfield 93, 3) := by decide +kernel
theorem dX11_hearBook_15 : decode cX11_hearBook 15 = .ok (.invokevirtual 271, 3) := by decide +kernel
theorem dX11_hearBook_18 : decode cX11_hearBook 18 = .ok (.aload_n 0, 1) := by decide +kernel
theorem dX11_hearBook_19 : decode cX11_hearBook 19 = .ok (.getfield 96, 3) := by decide +kernel
theorem dX11_hearBook_22 : decode cX11_hearBook 22 = .ok (.invokevirtual 271, 3) := by decide +kernel
theorem dX11_hearBook_25 : decode cX11_hearBook 25 = .ok (.iconst 0, 1) := by decide +kernel
theorem dX11_hearBook_26 : decode cX11_hearBook 26 = .ok (.istore_n 1, 1) := by decide +kernel
theorem dX11_hearBook_27 : decode cX11_hearBook 27 = .ok (.iload_n 1, 1) := by decide +kernel
theorem dX11_hearBook_28 : decode cX11_hearBook 28 = .ok (.aload_n 0, 1) := by decide +kernel
theorem dX11_hearBook_29 : decode cX11_hearBook 29 = .ok (.getfield 39, 3) := by decide +kernel
theorem dX11_hearBook_32 : decode cX11_hearBook 32 = .ok (.getfield 237, 3) := by decide +kernel
theorem dX11_hearBook_35 : decode cX11_hearBook 35 = .ok (.getfield 241, 3) := by decide +kernel
theorem dX11_hearBook_38 : decode cX11_hearBook 38 = .ok (.if_icmp .ge 76, 3) := by decide +kernel
theorem dX11_hearBook_41 : decode cX11_hearBook 41 = .ok (.aload_n 0, 1) := by decide +kernel
theorem dX11_hearBook_42 : decode cX11_hearBook 42 = .ok (.aload_n 0, 1) := by decide +kernel
theorem dX11_hearBook_43 : decode cX11_hearBook 43 = .ok (.getfield 39, 3) := by decide +kernel
theorem dX11_hearBook_46 : decode cX11_hearBook 46 = .ok (.getfield 112, 3) := by decide +kernel
theorem dX11_hearBook_49 : decode cX11_hearBook 49 = .ok (.aload_n 0, 1) := by decide +kernel
theorem dX11_hearBook_50 : decode cX11_hearBook 50 = .ok (.getfield 39, 3) := by decide +kernel
theorem dX11_hearBook_53 : decode cX11_hearBook 53 = .ok (.getfield 237, 3) := by decide +kernel
theorem dX11_hearBook_56 : decode cX11_hearBook 56 = .ok (.getfield 352, 3) := by decide +kernel
theorem dX11_hearBook_59 : decode cX11_hearBook 59 = .ok (.iload_n 1, 1) := by decide +kernel
theorem dX11_hearBook_60 : decode cX11_hearBook 60 = .ok (.invokevirtual 182, 3) := by decide +kernel
theorem dX11_hearBook_63 : decode cX11_hearBook 63 = .ok (.aload_n 0, 1) := by decide +kernel
theorem dX11_hearBook_64 : decode cX11_hearBook 64 = .ok (.getfield 39, 3) := by decide +kernel
theorem dX11_hearBook_67 : decode cX11_hearBook 67 = .ok (.getfield 237, 3) := by decide +kernel
theorem dX11_hearBook_70 : decode cX11_hearBook 70 = .ok (.getfield 355, 3) := by decide +kernel
theorem dX11_hearBook_73 : decode cX11_hearBook 73 = .ok (.iload_n 1, 1) := by decide +kernel
theorem dX11_hearBook_74 : decode cX11_hearBook 74 = .ok (.invokevirtual 182, 3) := by decide +kernel
theorem dX11_hearBook_77 : decode cX11_hearBook 77 = .ok (.invokevirtual 225, 3) := by decide +kernel
theorem dX11_hearBook_80 : decode cX11_hearBook 80 = .ok (.aload_n 0, 1) := by decide +kernel
theorem dX11_hearBook_81 : decode cX11_hearBook 81 = .ok (.getfield 93, 3) := by decide +kernel
theorem dX11_hearBook_84 : decode cX11_hearBook 84 = .ok (.aload_n 0, 1) := by decide +kernel
theorem dX11_hearBook_85 : decode cX11_hearBook 85 = .ok (.getfield 54, 3) := by decide +kernel
theorem dX11_hearBook_88 : decode cX11_hearBook 88 = .ok (.getfield 228, 3) := by decide +kernel
theorem dX11_hearBook_91 : decode cX11_hearBook 91 = .ok (.invokevirtual 278, 3) := by decide +kernel
theorem dX11_hearBook_94 : decode cX11_hearBook 94 = .ok (.aload_n 0, 1) := by decide +kernel
theorem dX11_hearBook_95 : decode cX11_hearBook 95 = .ok (.getfield 96, 3) := by decide +kernel
theorem dX11_hearBook_98 : decode cX11_hearBook 98 = .ok (.aload_n 0, 1) := by decide +kernel
theorem dX11_hearBook_99 : decode cX11_hearBook 99 = .ok (.getfield 54, 3) := by decide +kernel
theorem dX11_hearBook_102 : decode cX11_hearBook 102 = .ok (.getfield 231, 3) := by decide +kernel
theorem dX11_hearBook_105 : decode cX11_hearBook 105 = .ok (.invokevirtual 278, 3) := by decide +kernel
theorem dX11_hearBook_108 : decode cX11_hearBook 108 = .ok (.iinc 1 1, 3) := by decide +kernel
theorem dX11_hearBook_111 : decode cX11_hearBook 111 = .ok (.goto (-84), 3) := by decide +kernel
theorem dX11_hearBook_114 : decode cX11_hearBook 114 = .ok (.aload_n 0, 1) := by decide +kernel
theorem dX11_hearBook_115 : decode cX11_hearBook 115 = .ok (.getfield 93, 3) := by decide +kernel
theorem dX11_hearBook_118 : decode cX11_hearBook 118 = .ok (.iconst 1, 1) := by decide +kernel
theorem dX11_hearBook_119 : decode cX11_hearBook 119 = .ok (.putfield 346, 3) := by decide +kernel
theorem dX11_hearBook_122 : decode cX11_hearBook 122 = .ok (.return_, 1) := by decide +kernel
theorem hcX11_hearBook : yX11_hearBook.cls ≠ "java/lang/invoke/MethodHandle" ∧ yX11_hearBook.cls ≠ "java/lang/invoke/VarHandle" ∧ (parseMethodDescriptor yX11_hearBook.desc).map (fun d => d.parameters.length) = some 0 := ⟨by decide +kernel, by decide +kernel, by decide +kernel⟩
def fX11_hearBook_L27 (La : sg_L) (Q : sg_M → Prop) : Nat → sg_M → Int → Prop
  | 0, _, _ => False
  | n_27 + 1, s_27, x1_27 => (((s_27 20 2) ≤ x1_27 → ∀ s13 : sg_M, s13 = sg_up s_27 58 2 1 → Q s13) ∧ (¬ ((s_27 20 2) ≤ x1_27) → fX4_at La s_27 21 x1_27 (fun u20 => fX4_at La s_27 23 x1_27 (fun u25 => (0 ≤ (s_27 4 0)) ∧ fX11_listenTo La s_27 (s_27 4 0) u20 u25 (fun s29 => fX4_add La s29 58 (s29 32 7) (fun s33 => fX4_add La s33 60 (s33 32 8) (fun s37 => sg_R (x1_27 + 1) ∧ (fX11_hearBook_L27 La Q n_27) s37 (x1_27 + 1))))))))
def fX11_hearBook (La : sg_L) (s0 : sg_M) (Q : sg_M → Prop) : Prop := (((s0 58 2) = 0 → fX4_clear s0 58 (fun s5 => fX4_clear s5 60 (fun s7 => (∃ n39 : Nat, fX11_hearBook_L27 La Q n39 s7 0)))) ∧ (¬ ((s0 58 2) = 0) → Q s0))
set_option maxHeartbeats 4000000 in
set_option maxRecDepth 100000 in
theorem CX11_hearBook {l : Launch} {G : sg_G} {La : sg_L} {s0 : sg_M} (hst : sg_St La) {Q : sg_M → Prop} (hf : fX11_hearBook La s0 Q) : sg_C l G yX11_hearBook cX11_hearBook 2 (none) 6 0 0 La s0 [sg_r 0] (sg_HV La Q) := by
  refine sg_body (by decide +kernel) (Nat.le_of_ble_eq_true rfl) ?_
  intro p e s m args below meth c F hnm
  unfold fX11_hearBook at hf
  show sg_W p l e (sg_rm 6 0 0) s m args below meth c (MQ below (sg_Q (none) G La s.heap.size (sg_HV La Q)) args s 0 0 (sg_A La s.heap.size)) 2 G (sg_A La s.heap.size) La s0 0 0 0 [(0, sg_r 0)] []
  refine gw_aload_n F 0 rfl rfl (by decide) dX11_hearBook_0 ?_
  refine gw_get7 F (so_0 hst) (by decide) rfl sg_lay_RX11 (j := 13) (by decide) (o1 := 58) (by first | rfl | omega) rfl (host := "") (.inl kw_339) dX11_hearBook_1 (fun h1 => ?_)
  refine gw_get1 F (so_58 hst) (by decide) rfl sg_lay_RX4 (j := 2) (by decide) rfl (.inr kw_206) dX11_hearBook_4 (fun h2 => ?_)
  refine gw_if_eq F (tgt := 11) dX11_hearBook_7 (by decide) (sg_B_R h2) (fun c3 => ?_) (fun c3 => ?_)
  · have hf := hf.1 c3
    refine gw_aload_n F 0 rfl rfl (by decide) dX11_hearBook_11 ?_
    refine gw_get7 F (so_0 hst) (by decide) rfl sg_lay_RX11 (j := 13) (by decide) (o1 := 58) (by first | rfl | omega) rfl (host := "") (.inl kw_339) dX11_hearBook_12 (fun h4 => ?_)
    refine gk_HV F (gc_V F (S := []) (As := []) (T := TX4) (N := 3) (CX4_clear (so_58 hst) hf) (so_58 hst) (by decide) rfl kw_531 kw_97 kw_652 kw_529 kw_530 hcX4_clear ⟨by decide, by decide⟩ rfl rfl (Nat.le_of_ble_eq_true rfl) ⟨by decide, by decide⟩ dX11_hearBook_15) (fun s5 hf => ?_)
    refine gw_aload_n F 0 rfl rfl (by decide) dX11_hearBook_18 ?_
    refine gw_get7 F (so_0 hst) (by decide) rfl sg_lay_RX11 (j := 14) (by decide) (o1 := 60) (by first | rfl | omega) rfl (host := "") (.inl kw_340) dX11_hearBook_19 (fun h6 => ?_)
    refine gk_HV F (gc_V F (S := []) (As := []) (T := TX4) (N := 3) (CX4_clear (so_60 hst) hf) (so_60 hst) (by decide) rfl kw_531 kw_97 kw_652 kw_529 kw_530 hcX4_clear ⟨by decide, by decide⟩ rfl rfl (Nat.le_of_ble_eq_true rfl) ⟨by decide, by decide⟩ dX11_hearBook_22) (fun s7 hf => ?_)
    refine gw_iconst F dX11_hearBook_25 ?_
    refine gw_istore_n F rfl (by decide) rfl dX11_hearBook_26 ?_
    have L27 : ∀ n_27 : Nat, ∀ (s_27 : sg_M) (x1_27 : Int), sg_R x1_27 → fX11_hearBook_L27 La Q n_27 s_27 x1_27 → sg_W p l e (sg_rm 6 0 0) s m args below meth c (MQ below (sg_Q (none) G La s.heap.size (sg_HV La Q)) args s 0 0 (sg_A La s.heap.size)) 2 G (sg_A La s.heap.size) La s_27 0 0 27 [(0, sg_r 0), (1, sg_i x1_27)] [] := by
      intro n_27
      induction n_27 with
      | zero => intro s_27 x1_27 r1_27 hf; exact hf.elim
      | succ n_27 ih =>
        intro s_27 x1_27 r1_27 hf
        unfold fX11_hearBook_L27 at hf
        refine gw_iload_n F 1 rfl rfl dX11_hearBook_27 ?_
        refine gw_aload_n F 0 rfl rfl (by decide) dX11_hearBook_28 ?_
        refine gw_get7 F (so_0 hst) (by decide) rfl sg_lay_RX11 (j := 2) (by decide) (o1 := 4) (by first | rfl | omega) rfl (host := "") (.inl kw_328) dX11_hearBook_29 (fun h8 => ?_)
        refine gw_get7 F (so_4 hst) (by decide) rfl sg_lay_RX7 (j := 3) (by decide) (o1 := 20) (by first | rfl | omega) rfl (.inr kw_240) dX11_hearBook_32 (fun h9 => ?_)
        refine gw_get0 F (so_20 hst) (by decide) rfl sg_lay_RX2 (j := 2) (by decide) rfl (.inr kw_230) dX11_hearBook_35 (fun h10 => ?_)
        refine gw_icmp_ge F (tgt := 114) dX11_hearBook_38 (by decide) r1_27 h10 (fun c11 => ?_) (fun c11 => ?_)
        · have hf := hf.1 c11
          refine gw_aload_n F 0 rfl rfl (by decide) dX11_hearBook_114 ?_
          refine gw_get7 F (so_0 hst) (by decide) rfl sg_lay_RX11 (j := 13) (by decide) (o1 := 58) (by first | rfl | omega) rfl (host := "") (.inl kw_339) dX11_hearBook_115 (fun h12 => ?_)
          refine gw_iconst F dX11_hearBook_118 ?_
          obtain ⟨s13, e14⟩ : ∃ z : sg_M, z = sg_up s_27 58 2 1 := ⟨_, rfl⟩
          have hf := hf s13 e14
          refine gw_put1 F (so_58 hst) (by decide) rfl sg_lay_RX4 (j := 2) (by decide) (by decide) e14 tyX4_ok nmX4 rfl (tyX4_ok 2 (by decide)) rfl (.inr kw_206) dX11_hearBook_119 ?_
          exact gr_HV F hf (by decide) (by decide) dX11_hearBook_122
        · have hf := hf.2 c11
          refine gw_aload_n F 0 rfl rfl (by decide) dX11_hearBook_41 ?_
          refine gw_aload_n F 0 rfl rfl (by decide) dX11_hearBook_42 ?_
          refine gw_get7 F (so_0 hst) (by decide) rfl sg_lay_RX11 (j := 2) (by decide) (o1 := 4) (by first | rfl | omega) rfl (host := "") (.inl kw_328) dX11_hearBook_43 (fun h15 => ?_)
          refine gw_get4 F (so_4 hst) (by decide) rfl sg_lay_RX7 (j := 0) (by decide) rfl (.inr kw_234) dX11_hearBook_46 (fun h16 => ?_)
          refine gw_aload_n F 0 rfl rfl (by decide) dX11_hearBook_49 ?_
          refine gw_get7 F (so_0 hst) (by decide) rfl sg_lay_RX11 (j := 2) (by decide) (o1 := 4) (by first | rfl | omega) rfl (host := "") (.inl kw_328) dX11_hearBook_50 (fun h17 => ?_)
          refine gw_get7 F (so_4 hst) (by decide) rfl sg_lay_RX7 (j := 3) (by decide) (o1 := 20) (by first | rfl | omega) rfl (.inr kw_240) dX11_hearBook_53 (fun h18 => ?_)
          refine gw_get3 F (so_20 hst) (by decide) rfl sg_lay_RX2 (j := 0) (by decide) (o1 := 21) (by first | rfl | omega) rfl (.inr kw_225) dX11_hearBook_56 (fun h19 => ?_)
          refine gw_iload_n F 1 rfl rfl dX11_hearBook_59 ?_
          refine gk_PI F (gc_V F (S := [sg_r (s_27 4 0), sg_r 0]) (As := [sg_i x1_27]) (T := TX4) (N := 3) (CX4_at (so_21 hst) r1_27 hf) (so_21 hst) (by decide) rfl kw_546 kw_97 kw_543 kw_544 kw_545 hcX4_at ⟨by decide, by decide⟩ rfl rfl (Nat.le_of_ble_eq_true rfl) ⟨by decide, by decide⟩ dX11_hearBook_60) (fun u20 h21 hf => ?_)
          refine gw_aload_n F 0 rfl rfl (by decide) dX11_hearBook_63 ?_
          refine gw_get7 F (so_0 hst) (by decide) rfl sg_lay_RX11 (j := 2) (by decide) (o1 := 4) (by first | rfl | omega) rfl (host := "") (.inl kw_328) dX11_hearBook_64 (fun h22 => ?_)
          refine gw_get7 F (so_4 hst) (by decide) rfl sg_lay_RX7 (j := 3) (by decide) (o1 := 20) (by first | rfl | omega) rfl (.inr kw_240) dX11_hearBook_67 (fun h23 => ?_)
          refine gw_get3 F (so_20 hst) (by decide) rfl sg_lay_RX2 (j := 1) (by decide) (o1 := 23) (by first | rfl | omega) rfl (.inr kw_227) dX11_hearBook_70 (fun h24 => ?_)
          refine gw_iload_n F 1 rfl rfl dX11_hearBook_73 ?_
          refine gk_PI F (gc_V F (S := [sg_i u20, sg_r (s_27 4 0), sg_r 0]) (As := [sg_i x1_27]) (T := TX4) (N := 3) (CX4_at (so_23 hst) r1_27 hf) (so_23 hst) (by decide) rfl kw_546 kw_97 kw_543 kw_544 kw_545 hcX4_at ⟨by decide, by decide⟩ rfl rfl (Nat.le_of_ble_eq_true rfl) ⟨by decide, by decide⟩ dX11_hearBook_74) (fun u25 h26 hf => ?_)
          obtain ⟨g27, hf⟩ := hf
          have t28 := sg_nn h16 g27
          refine gk_HV F (gc_V F (S := []) (As := [sg_r (s_27 4 0), sg_i u20, sg_i u25]) (T := TX11) (N := 19) (CX11_listenTo hst t28 h21 h26 hf) (so_0 hst) (by decide) rfl kw_655 kw_90 kw_653 kw_654 kw_20 hcX11_listenTo ⟨by decide, by decide⟩ rfl rfl (Nat.le_of_ble_eq_true rfl) ⟨by decide, by decide⟩ dX11_hearBook_77) (fun s29 hf => ?_)
          refine gw_aload_n F 0 rfl rfl (by decide) dX11_hearBook_80 ?_
          refine gw_get7 F (so_0 hst) (by decide) rfl sg_lay_RX11 (j := 13) (by decide) (o1 := 58) (by first | rfl | omega) rfl (host := "") (.inl kw_339) dX11_hearBook_81 (fun h30 => ?_)
          refine gw_aload_n F 0 rfl rfl (by decide) dX11_hearBook_84 ?_
          refine gw_get7 F (so_0 hst) (by decide) rfl sg_lay_RX11 (j := 5) (by decide) (o1 := 32) (by first | rfl | omega) rfl (host := "") (.inl kw_331) dX11_hearBook_85 (fun h31 => ?_)
          refine gw_get0 F (so_32 hst) (by decide) rfl sg_lay_RX0 (j := 7) (by decide) rfl (.inr kw_266) dX11_hearBook_88 (fun h32 => ?_)
          refine gk_HV F (gc_V F (S := []) (As := [sg_i (s29 32 7)]) (T := TX4) (N := 3) (CX4_add (so_58 hst) h32 hf) (so_58 hst) (by decide) rfl kw_538 kw_97 kw_663 kw_536 kw_537 hcX4_add ⟨by decide, by decide⟩ rfl rfl (Nat.le_of_ble_eq_true rfl) ⟨by decide, by decide⟩ dX11_hearBook_91) (fun s33 hf => ?_)
          refine gw_aload_n F 0 rfl rfl (by decide) dX11_hearBook_94 ?_
          refine gw_get7 F (so_0 hst) (by decide) rfl sg_lay_RX11 (j := 14) (by decide) (o1 := 60) (by first | rfl | omega) rfl (host := "") (.inl kw_340) dX11_hearBook_95 (fun h34 => ?_)
          refine gw_aload_n F 0 rfl rfl (by decide) dX11_hearBook_98 ?_
          refine gw_get7 F (so_0 hst) (by decide) rfl sg_lay_RX11 (j := 5) (by decide) (o1 := 32) (by first | rfl | omega) rfl (host := "") (.inl kw_331) dX11_hearBook_99 (fun h35 => ?_)
          refine gw_get0 F (so_32 hst) (by decide) rfl sg_lay_RX0 (j := 8) (by decide) rfl (.inr kw_269) dX11_hearBook_102 (fun h36 => ?_)
          refine gk_HV F (gc_V F (S := []) (As := [sg_i (s33 32 8)]) (T := TX4) (N := 3) (CX4_add (so_60 hst) h36 hf) (so_60 hst) (by decide) rfl kw_538 kw_97 kw_663 kw_536 kw_537 hcX4_add ⟨by decide, by decide⟩ rfl rfl (Nat.le_of_ble_eq_true rfl) ⟨by decide, by decide⟩ dX11_hearBook_105) (fun s37 hf => ?_)
          refine gw_iinc F (z := (x1_27 + 1)) 1 rfl (by omega) (by decide) rfl dX11_hearBook_108 ?_
          refine gw_goto F (tgt := 27) dX11_hearBook_111 (by decide) ?_
          obtain ⟨g38, hf⟩ := hf
          refine gw_sub [1, 0] rfl ?_
          exact ih s37 (x1_27 + 1) g38 hf
    obtain ⟨n39, hf⟩ := hf
    refine gw_sub [1, 0] rfl ?_
    refine L27   n39 s7 0 (by decide) hf
  · have hf := hf.2 c3
    exact gr_HV F hf (by decide) (by decide) dX11_hearBook_10

theorem dX6_setCost_0 : decode cX6_setCost 0 = .ok (.iload_n 1, 1) := by decide +kernel
theorem dX6_setCost_1 : decode cX6_setCost 1 = .ok (.bipush 40, 2) := by decide +kernel
theorem dX6_setCost_3 : decode cX6_setCost 3 = .ok (.imul, 1) := by decide +kernel
theorem dX6_setCost_4 : decode cX6_setCost 4 = .ok (.iload_n 2, 1) := by decide +kernel
theorem dX6_setCost_5 : decode cX6_setCost 5 = .ok (.iadd, 1) := by decide +kernel
theorem dX6_setCost_6 : decode cX6_setCost 6 = .ok (.istore 4, 2) := by decide +kernel
theorem dX6_setCost_8 : decode cX6_setCost 8 = .ok (.iload 4, 2) := by decide +kernel
theorem dX6_setCost_10 : decode cX6_setCost 10 = .ok (.ifCond .lt 21, 3) := by decide +kernel
theorem dX6_setCost_13 : decode cX6_setCost 13 = .ok (.iload 4, 2) := by decide +kernel
theorem dX6_setCost_15 : decode cX6_setCost 15 = .ok (.aload_n 0, 1) := by decide +kernel
theorem dX6_setCost_16 : decode cX6_setCost 16 = .ok (.getfield 9, 3) := by decide +kernel
theorem dX6_setCost_19 : decode cX6_setCost 19 = .ok (.arraylength, 1) := by decide +kernel
theorem dX6_setCost_20 : decode cX6_setCost 20 = .ok (.if_icmp .ge 11, 3) := by decide +kernel
theorem dX6_setCost_23 : decode cX6_setCost 23 = .ok (.aload_n 0, 1) := by decide +kernel
theorem dX6_setCost_24 : decode cX6_setCost 24 = .ok (.getfield 9, 3) := by decide +kernel
theorem dX6_setCost_27 : decode cX6_setCost 27 = .ok (.iload 4, 2) := by decide +kernel
theorem dX6_setCost_29 : decode cX6_setCost 29 = .ok (.iload_n 3, 1) := by decide +kernel
theorem dX6_setCost_30 : decode cX6_setCost 30 = .ok (.iastore, 1) := by decide +kernel
theorem dX6_setCost_31 : decode cX6_setCost 31 = .ok (.return_, 1) := by decide +kernel
theorem hcX6_setCost : yX6_setCost.cls ≠ "java/lang/invoke/MethodHandle" ∧ yX6_setCost.cls ≠ "java/lang/invoke/VarHandle" ∧ (parseMethodDescriptor yX6_setCost.desc).map (fun d => d.parameters.length) = some 3 := ⟨by decide +kernel, by decide +kernel, by decide +kernel⟩
def fX6_setCost (s0 : sg_M) (x1 : Int) (x2 : Int) (x3 : Int) (Q : sg_M → Prop) : Prop := sg_R ((x1 * 40) + x2) ∧ ((((x1 * 40) + x2) < 0 → Q s0) ∧ (¬ (((x1 * 40) + x2) < 0) → sg_R 2400 ∧ ((2400 ≤ ((x1 * 40) + x2) → Q s0) ∧ (¬ (2400 ≤ ((x1 * 40) + x2)) → (0 ≤ ((x1 * 40) + x2) ∧ ((x1 * 40) + x2) < 2400) ∧ ∀ s8 : sg_M, s8 = sg_up s0 47 ((x1 * 40) + x2) x3 → Q s8))))
set_option maxHeartbeats 4000000 in
set_option maxRecDepth 100000 in
theorem CX6_setCost {l : Launch} {G : sg_G} {La : sg_L} {s0 : sg_M} (hst : sg_St La) {x1 : Int} (r1 : sg_R x1) {x2 : Int} (r2 : sg_R x2) {x3 : Int} (r3 : sg_R x3) {Q : sg_M → Prop} (hf : fX6_setCost s0 x1 x2 x3 Q) : sg_C l G yX6_setCost cX6_setCost 5 (none) 1 0 0 La s0 [sg_r 46, sg_i x1, sg_i x2, sg_i x3] (sg_HV La Q) := by
  refine sg_body (by decide +kernel) (Nat.le_of_ble_eq_true rfl) ?_
  intro p e s m args below meth c F hnm
  unfold fX6_setCost at hf
  show sg_W p l e (sg_rm 1 0 0) s m args below meth c (MQ below (sg_Q (none) G La s.heap.size (sg_HV La Q)) args s 0 0 (sg_A La s.heap.size)) 5 G (sg_A La s.heap.size) La s0 0 0 0 [(0, sg_r 46), (1, sg_i x1), (2, sg_i x2), (3, sg_i x3)] []
  refine gw_iload_n F 1 rfl rfl dX6_setCost_0 ?_
  refine gw_bipush F rfl dX6_setCost_1 ?_
  refine gw_imul F rfl dX6_setCost_3 ?_
  refine gw_iload_n F 2 rfl rfl dX6_setCost_4 ?_
  refine gw_iadd F rfl dX6_setCost_5 ?_
  refine gw_istore F (by decide) rfl dX6_setCost_6 ?_
  refine gw_iload F 0 rfl dX6_setCost_8 ?_
  obtain ⟨g1, hf⟩ := hf
  refine gw_if_lt F (tgt := 31) dX6_setCost_10 (by decide) g1 (fun c2 => ?_) (fun c2 => ?_)
  · have hf := hf.1 c2
    exact gr_HV F hf (by decide) (by decide) dX6_setCost_31
  · have hf := hf.2 c2
    refine gw_iload F 0 rfl dX6_setCost_13 ?_
    refine gw_aload_n F 1 rfl rfl (by decide) dX6_setCost_15 ?_
    refine gw_get3 F (so_46 hst) (by decide) rfl sg_lay_RX6 (j := 0) (by decide) (o1 := 47) (by first | rfl | omega) rfl (host := "") (.inl kw_312) dX6_setCost_16 (fun h3 => ?_)
    refine gw_alen F (sa_47 hst) dX6_setCost_19 ?_
    obtain ⟨g4, hf⟩ := hf
    refine gw_icmp_ge F (tgt := 31) dX6_setCost_20 (by decide) g1 g4 (fun c5 => ?_) (fun c5 => ?_)
    · have hf := hf.1 c5
      exact gr_HV F hf (by decide) (by decide) dX6_setCost_31
    · have hf := hf.2 c5
      refine gw_aload_n F 1 rfl rfl (by decide) dX6_setCost_23 ?_
      refine gw_get3 F (so_46 hst) (by decide) rfl sg_lay_RX6 (j := 0) (by decide) (o1 := 47) (by first | rfl | omega) rfl (host := "") (.inl kw_312) dX6_setCost_24 (fun h6 => ?_)
      refine gw_iload F 0 rfl dX6_setCost_27 ?_
      refine gw_iload_n F 4 rfl rfl dX6_setCost_29 ?_
      obtain ⟨⟨b70, b71⟩, hf⟩ := hf
      obtain ⟨s8, e9⟩ : ∃ z : sg_M, z = sg_up s0 47 ((x1 * 40) + x2) x3 := ⟨_, rfl⟩
      have hf := hf s8 e9
      refine gw_iast F (sa_47 hst) b70 b71 r3 e9 dX6_setCost_30 ?_
      exact gr_HV F hf (by decide) (by decide) dX6_setCost_31

theorem dX6_play_0 : decode cX6_play 0 = .ok (.aload_n 0, 1) := by decide +kernel
theorem dX6_play_1 : decode cX6_play 1 = .ok (.getfield 20, 3) := by decide +kernel
theorem dX6_play_4 : decode cX6_play 4 = .ok (.getfield 47, 3) := by decide +kernel
theorem dX6_play_7 : decode cX6_play 7 = .ok (.iconst 1, 1) := by decide +kernel
theorem dX6_play_8 : decode cX6_play 8 = .ok (.isub, 1) := by decide +kernel
theorem dX6_play_9 : decode cX6_play 9 = .ok (.istore 4, 2) := by decide +kernel
theorem dX6_play_11 : decode cX6_play 11 = .ok (.iload 4, 2) := by decide +kernel
theorem dX6_play_13 : decode cX6_play 13 = .ok (.ifCond .lt 74, 3) := by decide +kernel
theorem dX6_play_16 : decode cX6_play 16 = .ok (.iconst 0, 1) := by decide +kernel
theorem dX6_play_17 : decode cX6_play 17 = .ok (.istore 5, 2) := by decide +kernel
theorem dX6_play_19 : decode cX6_play 19 = .ok (.iload 5, 2) := by decide +kernel
theorem dX6_play_21 : decode cX6_play 21 = .ok (.aload_n 1, 1) := by decide +kernel
theorem dX6_play_22 : decode cX6_play 22 = .ok (.getfield 48, 3) := by decide +kernel
theorem dX6_play_25 : decode cX6_play 25 = .ok (.if_icmp .ge 56, 3) := by decide +kernel
theorem dX6_play_28 : decode cX6_play 28 = .ok (.aload_n 2, 1) := by decide +kernel
theorem dX6_play_29 : decode cX6_play 29 = .ok (.iload 5, 2) := by decide +kernel
theorem dX6_play_31 : decode cX6_play 31 = .ok (.invokevirtual 51, 3) := by decide +kernel
theorem dX6_play_34 : decode cX6_play 34 = .ok (.aload_n 0, 1) := by decide +kernel
theorem dX6_play_35 : decode cX6_play 35 = .ok (.getfield 20, 3) := by decide +kernel
theorem dX6_play_38 : decode cX6_play 38 = .ok (.iload 4, 2) := by decide +kernel
theorem dX6_play_40 : decode cX6_play 40 = .ok (.invokevirtual 51, 3) := by decide +kernel
theorem dX6_play_43 : decode cX6_play 43 = .ok (.iload_n 3, 1) := by decide +kernel
theorem dX6_play_44 : decode cX6_play 44 = .ok (.invokestatic 54, 3) := by decide +kernel
theorem dX6_play_47 : decode cX6_play 47 = .ok (.istore 6, 2) := by decide +kernel
theorem dX6_play_49 : decode cX6_play 49 = .ok (.aload_n 0, 1) := by decide +kernel
theorem dX6_play_50 : decode cX6_play 50 = .ok (.iload 4, 2) := by decide +kernel
theorem dX6_play_52 : decode cX6_play 52 = .ok (.iload 5, 2) := by decide +kernel
theorem dX6_play_54 : decode cX6_play 54 = .ok (.iload 6, 2) := by decide +kernel
theorem dX6_play_56 : decode cX6_play 56 = .ok (.ifCond .eq 15, 3) := by decide +kernel
theorem dX6_play_59 : decode cX6_play 59 = .ok (.aload_n 0, 1) := by decide +kernel
theorem dX6_play_60 : decode cX6_play 60 = .ok (.aload_n 1, 1) := by decide +kernel
theorem dX6_play_61 : decode cX6_play 61 = .ok (.iload 4, 2) := by decide +kernel
theorem dX6_play_63 : decode cX6_play 63 = .ok (.iload 5, 2) := by decide +kernel
theorem dX6_play_65 : decode cX6_play 65 = .ok (.invokevirtual 58, 3) := by decide +kernel
theorem dX6_play_68 : decode cX6_play 68 = .ok (.goto 4, 3) := by decide +kernel
theorem dX6_play_71 : decode cX6_play 71 = .ok (.iconst (-1), 1) := by decide +kernel
theorem dX6_play_72 : decode cX6_play 72 = .ok (.invokevirtual 62, 3) := by decide +kernel
theorem dX6_play_75 : decode cX6_play 75 = .ok (.iinc 5 1, 3) := by decide +kernel
theorem dX6_play_78 : decode cX6_play 78 = .ok (.goto (-59), 3) := by decide +kernel
theorem dX6_play_81 : decode cX6_play 81 = .ok (.iinc 4 (-1), 3) := by decide +kernel
theorem dX6_play_84 : decode cX6_play 84 = .ok (.goto (-73), 3) := by decide +kernel
theorem dX6_play_87 : decode cX6_play 87 = .ok (.aload_n 0, 1) := by decide +kernel
theorem dX6_play_88 : decode cX6_play 88 = .ok (.aload_n 1, 1) := by decide +kernel
theorem dX6_play_89 : decode cX6_play 89 = .ok (.iconst (-1), 1) := by decide +kernel
theorem dX6_play_90 : decode cX6_play 90 = .ok (.iconst (-1), 1) := by decide +kernel
theorem dX6_play_91 : decode cX6_play 91 = .ok (.invokevirtual 66, 3) := by decide +kernel
theorem dX6_play_94 : decode cX6_play 94 = .ok (.istore 4, 2) := by decide +kernel
theorem dX6_play_96 : decode cX6_play 96 = .ok (.iload 4, 2) := by decide +kernel
theorem dX6_play_98 : decode cX6_play 98 = .ok (.iconst (-1), 1) := by decide +kernel
theorem dX6_play_99 : decode cX6_play 99 = .ok (.if_icmp .ne 5, 3) := by decide +kernel
theorem dX6_play_102 : decode cX6_play 102 = .ok (.iconst (-1), 1) := by decide +kernel
theorem dX6_play_103 : decode cX6_play 103 = .ok (.ireturn, 1) := by decide +kernel
theorem dX6_play_104 : decode cX6_play 104 = .ok (.aload_n 0, 1) := by decide +kernel
theorem dX6_play_105 : decode cX6_play 105 = .ok (.getfield 24, 3) := by decide +kernel
theorem dX6_play_108 : decode cX6_play 108 = .ok (.invokevirtual 27, 3) := by decide +kernel
theorem dX6_play_111 : decode cX6_play 111 = .ok (.aload_n 0, 1) := by decide +kernel
theorem dX6_play_112 : decode cX6_play 112 = .ok (.getfield 24, 3) := by decide +kernel
theorem dX6_play_115 : decode cX6_play 115 = .ok (.iload 4, 2) := by decide +kernel
theorem dX6_play_117 : decode cX6_play 117 = .ok (.invokevirtual 44, 3) := by decide +kernel
theorem dX6_play_120 : decode cX6_play 120 = .ok (.iconst 0, 1) := by decide +kernel
theorem dX6_play_121 : decode cX6_play 121 = .ok (.istore 5, 2) := by decide +kernel
theorem dX6_play_123 : decode cX6_play 123 = .ok (.iload 5, 2) := by decide +kernel
theorem dX6_play_125 : decode cX6_play 125 = .ok (.aload_n 0, 1) := by decide +kernel
theorem dX6_play_126 : decode cX6_play 126 = .ok (.getfield 20, 3) := by decide +kernel
theorem dX6_play_129 : decode cX6_play 129 = .ok (.getfield 47, 3) := by decide +kernel
theorem dX6_play_132 : decode cX6_play 132 = .ok (.iconst 1, 1) := by decide +kernel
theorem dX6_play_133 : decode cX6_play 133 = .ok (.isub, 1) := by decide +kernel
theorem dX6_play_134 : decode cX6_play 134 = .ok (.if_icmp .ge 32, 3) := by decide +kernel
theorem dX6_play_137 : decode cX6_play 137 = .ok (.aload_n 0, 1) := by decide +kernel
theorem dX6_play_138 : decode cX6_play 138 = .ok (.getfield 24, 3) := by decide +kernel
theorem dX6_play_141 : decode cX6_play 141 = .ok (.aload_n 0, 1) := by decide +kernel
theorem dX6_play_142 : decode cX6_play 142 = .ok (.aload_n 1, 1) := by decide +kernel
theorem dX6_play_143 : decode cX6_play 143 = .ok (.iload 5, 2) := by decide +kernel
theorem dX6_play_145 : decode cX6_play 145 = .ok (.aload_n 0, 1) := by decide +kernel
theorem dX6_play_146 : decode cX6_play 146 = .ok (.getfield 24, 3) := by decide +kernel
theorem dX6_play_149 : decode cX6_play 149 = .ok (.iload 5, 2) := by decide +kernel
theorem dX6_play_151 : decode cX6_play 151 = .ok (.invokevirtual 51, 3) := by decide +kernel
theorem dX6_play_154 : decode cX6_play 154 = .ok (.invokevirtual 66, 3) := by decide +kernel
theorem dX6_play_157 : decode cX6_play 157 = .ok (.invokevirtual 44, 3) := by decide +kernel
theorem dX6_play_160 : decode cX6_play 160 = .ok (.iinc 5 1, 3) := by decide +kernel
theorem dX6_play_163 : decode cX6_play 163 = .ok (.goto (-40), 3) := by decide +kernel
theorem dX6_play_166 : decode cX6_play 166 = .ok (.aload_n 0, 1) := by decide +kernel
theorem dX6_play_167 : decode cX6_play 167 = .ok (.iconst 0, 1) := by decide +kernel
theorem dX6_play_168 : decode cX6_play 168 = .ok (.iload 4, 2) := by decide +kernel
theorem dX6_play_170 : decode cX6_play 170 = .ok (.invokevirtual 69, 3) := by decide +kernel
theorem dX6_play_173 : decode cX6_play 173 = .ok (.ireturn, 1) := by decide +kernel
theorem hcX6_play : yX6_play.cls ≠ "java/lang/invoke/MethodHandle" ∧ yX6_play.cls ≠ "java/lang/invoke/VarHandle" ∧ (parseMethodDescriptor yX6_play.desc).map (fun d => d.parameters.length) = some 3 := ⟨by decide +kernel, by decide +kernel, by decide +kernel⟩
def fX6_play_j72 (x4_11 : Int) (s_19 : sg_M) (x5_19 : Int) (k19 : sg_M → Int → Prop) (y0_72 : Int) : Prop := fX6_setCost s_19 x4_11 x5_19 y0_72 (fun s13 => sg_R (x5_19 + 1) ∧ k19 s13 (x5_19 + 1))
def fX6_play_L19 (La : sg_L) (o1 : Int) (o2 : Int) (x3 : Int) (x4_11 : Int) (k81 : sg_M → Prop) : Nat → sg_M → Int → Prop
  | 0, _, _ => False
  | n_19 + 1, s_19, x5_19 => (((s_19 o1 2) ≤ x5_19 → k81 s_19) ∧ (¬ ((s_19 o1 2) ≤ x5_19) → fX4_at La s_19 o2 x5_19 (fun u6 => fX4_at La s_19 48 x4_11 (fun u9 => fX11_isNear u6 u9 x3 (fun u11 => ((u11 = 0 → (fX6_play_j72 x4_11 s_19 x5_19 (fX6_play_L19 La o1 o2 x3 x4_11 k81 n_19)) (-1)) ∧ (¬ (u11 = 0) → fX6_costFrom La s_19 o1 x4_11 x5_19 (fun u16 => (fX6_play_j72 x4_11 s_19 x5_19 (fX6_play_L19 La o1 o2 x3 x4_11 k81 n_19)) u16))))))))
def fX6_play_L11 (La : sg_L) (o1 : Int) (o2 : Int) (x3 : Int) (k87 : sg_M → Prop) : Nat → sg_M → Int → Prop
  | 0, _, _ => False
  | n_11 + 1, s_11, x4_11 => ((x4_11 < 0 → k87 s_11) ∧ (¬ (x4_11 < 0) → (∃ n18 : Nat, fX6_play_L19 La o1 o2 x3 x4_11 (fun s_81e19 => sg_R (x4_11 - 1) ∧ (fX6_play_L11 La o1 o2 x3 k87 n_11) s_81e19 (x4_11 - 1)) n18 s_11 0)))
def fX6_play_L123 (La : sg_L) (o1 : Int) (u22 : Int) (Q : Int → sg_M → Prop) : Nat → sg_M → Int → Prop
  | 0, _, _ => False
  | n_123 + 1, s_123, x5_123 => sg_R ((s_123 48 1) - 1) ∧ ((((s_123 48 1) - 1) ≤ x5_123 → fX6_costAt s_123 0 u22 (fun u33 => Q u33 s_123)) ∧ (¬ (((s_123 48 1) - 1) ≤ x5_123) → fX4_at La s_123 50 x5_123 (fun u37 => fX6_cheapestNext La s_123 o1 x5_123 u37 (fun u39 => fX4_add La s_123 50 u39 (fun s41 => sg_R (x5_123 + 1) ∧ (fX6_play_L123 La o1 u22 Q n_123) s41 (x5_123 + 1))))))
def fX6_play (La : sg_L) (s0 : sg_M) (o1 : Int) (o2 : Int) (x3 : Int) (Q : Int → sg_M → Prop) : Prop := sg_R ((s0 48 1) - 1) ∧ (∃ n21 : Nat, fX6_play_L11 La o1 o2 x3 (fun s_87e11 => fX6_cheapestNext La s_87e11 o1 (-1) (-1) (fun u22 => ((u22 ≠ (-1) → fX4_clear s_87e11 50 (fun s26 => fX4_add La s26 50 u22 (fun s28 => (∃ n43 : Nat, fX6_play_L123 La o1 u22 Q n43 s28 0)))) ∧ (u22 = (-1) → Q (-1) s_87e11)))) n21 s0 ((s0 48 1) - 1))
set_option maxHeartbeats 4000000 in
set_option maxRecDepth 100000 in
theorem CX6_play {l : Launch} {G : sg_G} {La : sg_L} {s0 : sg_M} (hst : sg_St La) {o1 : Int} (t1 : sg_O La o1 2) {o2 : Int} (t2 : sg_O La o2 4) {x3 : Int} (r3 : sg_R x3) {Q : Int → sg_M → Prop} (hf : fX6_play La s0 o1 o2 x3 Q) : sg_C l G yX6_play cX6_play 7 (some .int) 5 0 0 La s0 [sg_r 46, sg_r o1, sg_r o2, sg_i x3] (sg_HI La Q) := by
  refine sg_body (by decide +kernel) (Nat.le_of_ble_eq_true rfl) ?_
  intro p e s m args below meth c F hnm
  unfold fX6_play at hf
  show sg_W p l e (sg_rm 5 0 0) s m args below meth c (MQ below (sg_Q (some .int) G La s.heap.size (sg_HI La Q)) args s 0 0 (sg_A La s.heap.size)) 7 G (sg_A La s.heap.size) La s0 0 0 0 [(0, sg_r 46), (1, sg_r o1), (2, sg_r o2), (3, sg_i x3)] []
  refine gw_aload_n F 0 rfl rfl (by decide) dX6_play_0 ?_
  refine gw_get3 F (so_46 hst) (by decide) rfl sg_lay_RX6 (j := 1) (by decide) (o1 := 48) (by first | rfl | omega) rfl (host := "") (.inl kw_313) dX6_play_1 (fun h1 => ?_)
  refine gw_get0 F (so_48 hst) (by decide) rfl sg_lay_RX4 (j := 1) (by decide) rfl (.inr kw_201) dX6_play_4 (fun h2 => ?_)
  refine gw_iconst F dX6_play_7 ?_
  refine gw_isub F rfl dX6_play_8 ?_
  refine gw_istore F (by decide) rfl dX6_play_9 ?_
  have L11 : ∀ (k87 : sg_M → Prop) (hk87 : ∀ (s_87e11 : sg_M), k87 s_87e11 → sg_W p l e (sg_rm 5 0 0) s m args below meth c (MQ below (sg_Q (some .int) G La s.heap.size (sg_HI La Q)) args s 0 0 (sg_A La s.heap.size)) 7 G (sg_A La s.heap.size) La s_87e11 0 0 87 [(0, sg_r 46), (1, sg_r o1)] []), ∀ n_11 : Nat, ∀ (s_11 : sg_M) (x4_11 : Int), sg_R x4_11 → fX6_play_L11 La o1 o2 x3 k87 n_11 s_11 x4_11 → sg_W p l e (sg_rm 5 0 0) s m args below meth c (MQ below (sg_Q (some .int) G La s.heap.size (sg_HI La Q)) args s 0 0 (sg_A La s.heap.size)) 7 G (sg_A La s.heap.size) La s_11 0 0 11 [(0, sg_r 46), (1, sg_r o1), (2, sg_r o2), (3, sg_i x3), (4, sg_i x4_11)] [] := by
    intro k87 hk87 n_11
    induction n_11 with
    | zero => intro s_11 x4_11 r4_11 hf; exact hf.elim
    | succ n_11 ih =>
      intro s_11 x4_11 r4_11 hf
      unfold fX6_play_L11 at hf
      refine gw_iload F 4 rfl dX6_play_11 ?_
      refine gw_if_lt F (tgt := 87) dX6_play_13 (by decide) r4_11 (fun c3 => ?_) (fun c3 => ?_)
      · have hf := hf.1 c3
        refine gw_sub [0, 1] rfl ?_
        exact hk87 s_11 hf
      · have hf := hf.2 c3
        refine gw_iconst F dX6_play_16 ?_
        refine gw_istore F (by decide) rfl dX6_play_17 ?_
        have L19 : ∀ (k81 : sg_M → Prop) (hk81 : ∀ (s_81e19 : sg_M), k81 s_81e19 → sg_W p l e (sg_rm 5 0 0) s m args below meth c (MQ below (sg_Q (some .int) G La s.heap.size (sg_HI La Q)) args s 0 0 (sg_A La s.heap.size)) 7 G (sg_A La s.heap.size) La s_81e19 0 0 81 [(0, sg_r 46), (1, sg_r o1), (2, sg_r o2), (3, sg_i x3), (4, sg_i x4_11)] []), ∀ n_19 : Nat, ∀ (s_19 : sg_M) (x5_19 : Int), sg_R x5_19 → fX6_play_L19 La o1 o2 x3 x4_11 k81 n_19 s_19 x5_19 → sg_W p l e (sg_rm 5 0 0) s m args below meth c (MQ below (sg_Q (some .int) G La s.heap.size (sg_HI La Q)) args s 0 0 (sg_A La s.heap.size)) 7 G (sg_A La s.heap.size) La s_19 0 0 19 [(0, sg_r 46), (1, sg_r o1), (2, sg_r o2), (3, sg_i x3), (4, sg_i x4_11), (5, sg_i x5_19)] [] := by
          intro k81 hk81 n_19
          induction n_19 with
          | zero => intro s_19 x5_19 r5_19 hf; exact hf.elim
          | succ n_19 ih =>
            intro s_19 x5_19 r5_19 hf
            unfold fX6_play_L19 at hf
            refine gw_iload F 5 rfl dX6_play_19 ?_
            refine gw_aload_n F 1 rfl rfl t1.1 dX6_play_21 ?_
            refine gw_get0 F t1 (by decide) rfl sg_lay_RX2 (j := 2) (by decide) rfl (.inr kw_229) dX6_play_22 (fun h4 => ?_)
            refine gw_icmp_ge F (tgt := 81) dX6_play_25 (by decide) r5_19 h4 (fun c5 => ?_) (fun c5 => ?_)
            · have hf := hf.1 c5
              refine gw_sub [0, 1, 2, 3, 4] rfl ?_
              exact hk81 s_19 hf
            · have hf := hf.2 c5
              refine gw_aload_n F 2 rfl rfl t2.1 dX6_play_28 ?_
              refine gw_iload F 5 rfl dX6_play_29 ?_
              refine gk_PI F (gc_V F (S := []) (As := [sg_i x5_19]) (T := TX4) (N := 3) (CX4_at t2 r5_19 hf) t2 (by decide) rfl kw_546 kw_97 kw_693 kw_544 kw_545 hcX4_at ⟨by decide, by decide⟩ rfl rfl (Nat.le_of_ble_eq_true rfl) ⟨by decide, by decide⟩ dX6_play_31) (fun u6 h7 hf => ?_)
              refine gw_aload_n F 0 rfl rfl (by decide) dX6_play_34 ?_
              refine gw_get3 F (so_46 hst) (by decide) rfl sg_lay_RX6 (j := 1) (by decide) (o1 := 48) (by first | rfl | omega) rfl (host := "") (.inl kw_313) dX6_play_35 (fun h8 => ?_)
              refine gw_iload F 4 rfl dX6_play_38 ?_
              refine gk_PI F (gc_V F (S := [sg_i u6]) (As := [sg_i x4_11]) (T := TX4) (N := 3) (CX4_at (so_48 hst) r4_11 hf) (so_48 hst) (by decide) rfl kw_546 kw_97 kw_693 kw_544 kw_545 hcX4_at ⟨by decide, by decide⟩ rfl rfl (Nat.le_of_ble_eq_true rfl) ⟨by decide, by decide⟩ dX6_play_40) (fun u9 h10 hf => ?_)
              refine gw_iload_n F 3 rfl rfl dX6_play_43 ?_
              refine gk_PZ F (gc_SN F (S := []) (As := [sg_i u6, sg_i u9, sg_i x3]) (CX11_isNear h7 h10 r3 hf) kw_696 kw_90 kw_694 kw_695 hcX11_isNear ⟨by decide, by decide⟩ rfl rfl (Nat.le_of_ble_eq_true rfl) ⟨by decide, by decide⟩ dX6_play_44) (fun u11 h12 hf => ?_)
              refine gw_istore F (by decide) rfl dX6_play_47 ?_
              refine gw_aload_n F 1 rfl rfl (by decide) dX6_play_49 ?_
              refine gw_iload F 5 rfl dX6_play_50 ?_
              refine gw_iload F 6 rfl dX6_play_52 ?_
              refine gw_iload F 0 rfl dX6_play_54 ?_
              have J72 : ∀ (y0_72 : Int), sg_R y0_72 → (fX6_play_j72 x4_11 s_19 x5_19 (fX6_play_L19 La o1 o2 x3 x4_11 k81 n_19)) y0_72 → sg_W p l e (sg_rm 5 0 0) s m args below meth c (MQ below (sg_Q (some .int) G La s.heap.size (sg_HI La Q)) args s 0 0 (sg_A La s.heap.size)) 7 G (sg_A La s.heap.size) La s_19 0 0 72 [(0, sg_r 46), (1, sg_r o1), (2, sg_r o2), (3, sg_i x3), (4, sg_i x4_11), (5, sg_i x5_19)] [sg_i y0_72, sg_i x5_19, sg_i x4_11, sg_r 46] := by
                intro y0_72 ry0_72 hf
                unfold fX6_play_j72 at hf
                refine gk_HV F (gc_V F (S := []) (As := [sg_i x4_11, sg_i x5_19, sg_i y0_72]) (T := TX6) (N := 3) (CX6_setCost hst r4_11 r5_19 ry0_72 hf) (so_46 hst) (by decide) rfl kw_715 kw_102 kw_713 kw_714 kw_25 hcX6_setCost ⟨by decide, by decide⟩ rfl rfl (Nat.le_of_ble_eq_true rfl) ⟨by decide, by decide⟩ dX6_play_72) (fun s13 hf => ?_)
                refine gw_iinc F (z := (x5_19 + 1)) 5 rfl (by omega) (by decide) rfl dX6_play_75 ?_
                refine gw_goto F (tgt := 19) dX6_play_78 (by decide) ?_
                obtain ⟨g14, hf⟩ := hf
                refine gw_sub [1, 2, 3, 4, 5, 0] rfl ?_
                exact ih s13 (x5_19 + 1) g14 hf
              refine gw_if_eq F (tgt := 71) dX6_play_56 (by decide) (sg_B_R h12) (fun c15 => ?_) (fun c15 => ?_)
              · have hf := hf.1 c15
                refine gw_iconst F dX6_play_71 ?_
                refine gw_sub [1, 2, 3, 4, 5, 6] rfl ?_
                exact J72 (-1) (by decide) hf
              · have hf := hf.2 c15
                refine gw_aload_n F 1 rfl rfl (by decide) dX6_play_59 ?_
                refine gw_aload_n F 2 rfl rfl t1.1 dX6_play_60 ?_
                refine gw_iload F 5 rfl dX6_play_61 ?_
                refine gw_iload F 6 rfl dX6_play_63 ?_
                refine gk_PI F (gc_V F (S := [sg_i x5_19, sg_i x4_11, sg_r 46]) (As := [sg_r o1, sg_i x4_11, sg_i x5_19]) (T := TX6) (N := 3) (CX6_costFrom hst t1 r4_11 r5_19 hf) (so_46 hst) (by decide) rfl kw_700 kw_102 kw_698 kw_699 kw_22 hcX6_costFrom ⟨by decide, by decide⟩ rfl rfl (Nat.le_of_ble_eq_true rfl) ⟨by decide, by decide⟩ dX6_play_65) (fun u16 h17 hf => ?_)
                refine gw_goto F (tgt := 72) dX6_play_68 (by decide) ?_
                refine gw_sub [1, 2, 3, 4, 5, 6] rfl ?_
                exact J72 u16 h17 hf
        obtain ⟨n18, hf⟩ := hf
        refine gw_sub [1, 2, 3, 4, 5, 0] rfl ?_
        refine L19 _ (fun s_81e19 hf => ?_) n18 s_11 0 (by decide) hf
        refine gw_iinc F (z := (x4_11 - 1)) 4 rfl (by omega) (by decide) rfl dX6_play_81 ?_
        refine gw_goto F (tgt := 11) dX6_play_84 (by decide) ?_
        obtain ⟨g19, hf⟩ := hf
        refine gw_sub [1, 2, 3, 4, 0] rfl ?_
        exact ih s_81e19 (x4_11 - 1) g19 hf
  obtain ⟨g20, hf⟩ := hf
  obtain ⟨n21, hf⟩ := hf
  refine gw_sub [1, 2, 3, 4, 0] rfl ?_
  refine L11 _ (fun s_87e11 hf => ?_) n21 s0 ((s0 48 1) - 1) g20 hf
  refine gw_aload_n F 0 rfl rfl (by decide) dX6_play_87 ?_
  refine gw_aload_n F 1 rfl rfl t1.1 dX6_play_88 ?_
  refine gw_iconst F dX6_play_89 ?_
  refine gw_iconst F dX6_play_90 ?_
  refine gk_PI F (gc_V F (S := []) (As := [sg_r o1, sg_i (-1), sg_i (-1)]) (T := TX6) (N := 3) (CX6_cheapestNext hst t1 (by decide) (by decide) hf) (so_46 hst) (by decide) rfl kw_703 kw_102 kw_701 kw_702 kw_23 hcX6_cheapestNext ⟨by decide, by decide⟩ rfl rfl (Nat.le_of_ble_eq_true rfl) ⟨by decide, by decide⟩ dX6_play_91) (fun u22 h23 hf => ?_)
  refine gw_istore F (by decide) rfl dX6_play_94 ?_
  refine gw_iload F 0 rfl dX6_play_96 ?_
  refine gw_iconst F dX6_play_98 ?_
  refine gw_icmp_ne F (tgt := 104) dX6_play_99 (by decide) h23 (by decide) (fun c24 => ?_) (fun c24 => ?_)
  · have hf := hf.1 c24
    refine gw_aload_n F 1 rfl rfl (by decide) dX6_play_104 ?_
    refine gw_get3 F (so_46 hst) (by decide) rfl sg_lay_RX6 (j := 2) (by decide) (o1 := 50) (by first | rfl | omega) rfl (host := "") (.inl kw_314) dX6_play_105 (fun h25 => ?_)
    refine gk_HV F (gc_V F (S := []) (As := []) (T := TX4) (N := 3) (CX4_clear (so_50 hst) hf) (so_50 hst) (by decide) rfl kw_531 kw_97 kw_676 kw_529 kw_530 hcX4_clear ⟨by decide, by decide⟩ rfl rfl (Nat.le_of_ble_eq_true rfl) ⟨by decide, by decide⟩ dX6_play_108) (fun s26 hf => ?_)
    refine gw_aload_n F 1 rfl rfl (by decide) dX6_play_111 ?_
    refine gw_get3 F (so_46 hst) (by decide) rfl sg_lay_RX6 (j := 2) (by decide) (o1 := 50) (by first | rfl | omega) rfl (host := "") (.inl kw_314) dX6_play_112 (fun h27 => ?_)
    refine gw_iload F 0 rfl dX6_play_115 ?_
    refine gk_HV F (gc_V F (S := []) (As := [sg_i u22]) (T := TX4) (N := 3) (CX4_add (so_50 hst) h23 hf) (so_50 hst) (by decide) rfl kw_538 kw_97 kw_685 kw_536 kw_537 hcX4_add ⟨by decide, by decide⟩ rfl rfl (Nat.le_of_ble_eq_true rfl) ⟨by decide, by decide⟩ dX6_play_117) (fun s28 hf => ?_)
    refine gw_iconst F dX6_play_120 ?_
    refine gw_istore F (by decide) rfl dX6_play_121 ?_
    have L123 : ∀ n_123 : Nat, ∀ (s_123 : sg_M) (x5_123 : Int), sg_R x5_123 → fX6_play_L123 La o1 u22 Q n_123 s_123 x5_123 → sg_W p l e (sg_rm 5 0 0) s m args below meth c (MQ below (sg_Q (some .int) G La s.heap.size (sg_HI La Q)) args s 0 0 (sg_A La s.heap.size)) 7 G (sg_A La s.heap.size) La s_123 0 0 123 [(0, sg_r 46), (1, sg_r o1), (4, sg_i u22), (5, sg_i x5_123)] [] := by
      intro n_123
      induction n_123 with
      | zero => intro s_123 x5_123 r5_123 hf; exact hf.elim
      | succ n_123 ih =>
        intro s_123 x5_123 r5_123 hf
        unfold fX6_play_L123 at hf
        refine gw_iload F 3 rfl dX6_play_123 ?_
        refine gw_aload_n F 0 rfl rfl (by decide) dX6_play_125 ?_
        refine gw_get3 F (so_46 hst) (by decide) rfl sg_lay_RX6 (j := 1) (by decide) (o1 := 48) (by first | rfl | omega) rfl (host := "") (.inl kw_313) dX6_play_126 (fun h29 => ?_)
        refine gw_get0 F (so_48 hst) (by decide) rfl sg_lay_RX4 (j := 1) (by decide) rfl (.inr kw_201) dX6_play_129 (fun h30 => ?_)
        refine gw_iconst F dX6_play_132 ?_
        refine gw_isub F rfl dX6_play_133 ?_
        obtain ⟨g31, hf⟩ := hf
        refine gw_icmp_ge F (tgt := 166) dX6_play_134 (by decide) r5_123 g31 (fun c32 => ?_) (fun c32 => ?_)
        · have hf := hf.1 c32
          refine gw_aload_n F 0 rfl rfl (by decide) dX6_play_166 ?_
          refine gw_iconst F dX6_play_167 ?_
          refine gw_iload F 2 rfl dX6_play_168 ?_
          refine gk_PI F (gc_V F (S := []) (As := [sg_i 0, sg_i u22]) (T := TX6) (N := 3) (CX6_costAt hst (by decide) h23 hf) (so_46 hst) (by decide) rfl kw_706 kw_102 kw_704 kw_705 kw_24 hcX6_costAt ⟨by decide, by decide⟩ rfl rfl (Nat.le_of_ble_eq_true rfl) ⟨by decide, by decide⟩ dX6_play_170) (fun u33 h34 hf => ?_)
          exact gr_HI F h34 hf (by decide) (by decide) dX6_play_173
        · have hf := hf.2 c32
          refine gw_aload_n F 0 rfl rfl (by decide) dX6_play_137 ?_
          refine gw_get3 F (so_46 hst) (by decide) rfl sg_lay_RX6 (j := 2) (by decide) (o1 := 50) (by first | rfl | omega) rfl (host := "") (.inl kw_314) dX6_play_138 (fun h35 => ?_)
          refine gw_aload_n F 0 rfl rfl (by decide) dX6_play_141 ?_
          refine gw_aload_n F 1 rfl rfl t1.1 dX6_play_142 ?_
          refine gw_iload F 3 rfl dX6_play_143 ?_
          refine gw_aload_n F 0 rfl rfl (by decide) dX6_play_145 ?_
          refine gw_get3 F (so_46 hst) (by decide) rfl sg_lay_RX6 (j := 2) (by decide) (o1 := 50) (by first | rfl | omega) rfl (host := "") (.inl kw_314) dX6_play_146 (fun h36 => ?_)
          refine gw_iload F 3 rfl dX6_play_149 ?_
          refine gk_PI F (gc_V F (S := [sg_i x5_123, sg_r o1, sg_r 46, sg_r 50]) (As := [sg_i x5_123]) (T := TX4) (N := 3) (CX4_at (so_50 hst) r5_123 hf) (so_50 hst) (by decide) rfl kw_546 kw_97 kw_693 kw_544 kw_545 hcX4_at ⟨by decide, by decide⟩ rfl rfl (Nat.le_of_ble_eq_true rfl) ⟨by decide, by decide⟩ dX6_play_151) (fun u37 h38 hf => ?_)
          refine gk_PI F (gc_V F (S := [sg_r 50]) (As := [sg_r o1, sg_i x5_123, sg_i u37]) (T := TX6) (N := 3) (CX6_cheapestNext hst t1 r5_123 h38 hf) (so_46 hst) (by decide) rfl kw_703 kw_102 kw_701 kw_702 kw_23 hcX6_cheapestNext ⟨by decide, by decide⟩ rfl rfl (Nat.le_of_ble_eq_true rfl) ⟨by decide, by decide⟩ dX6_play_154) (fun u39 h40 hf => ?_)
          refine gk_HV F (gc_V F (S := []) (As := [sg_i u39]) (T := TX4) (N := 3) (CX4_add (so_50 hst) h40 hf) (so_50 hst) (by decide) rfl kw_538 kw_97 kw_685 kw_536 kw_537 hcX4_add ⟨by decide, by decide⟩ rfl rfl (Nat.le_of_ble_eq_true rfl) ⟨by decide, by decide⟩ dX6_play_157) (fun s41 hf => ?_)
          refine gw_iinc F (z := (x5_123 + 1)) 3 rfl (by omega) (by decide) rfl dX6_play_160 ?_
          refine gw_goto F (tgt := 123) dX6_play_163 (by decide) ?_
          obtain ⟨g42, hf⟩ := hf
          refine gw_sub [1, 2, 3, 0] rfl ?_
          exact ih s41 (x5_123 + 1) g42 hf
    obtain ⟨n43, hf⟩ := hf
    refine gw_sub [2, 3, 1, 0] rfl ?_
    refine L123   n43 s28 0 (by decide) hf
  · have hf := hf.2 c24
    refine gw_iconst F dX6_play_102 ?_
    exact gr_HI F (by decide) hf (by decide) (by decide) dX6_play_103

theorem dX11_song_0 : decode cX11_song 0 = .ok (.aload_n 0, 1) := by decide +kernel
theorem dX11_song_1 : decode cX11_song 1 = .ok (.getfield 74, 3) := by decide +kernel
theorem dX11_song_4 : decode cX11_song 4 = .ok (.aload_n 0, 1) := by decide +kernel
theorem dX11_song_5 : decode cX11_song 5 = .ok (.getfield 10, 3) := by decide +kernel
theorem dX11_song_8 : decode cX11_song 8 = .ok (.invokevirtual 254, 3) := by decide +kernel
theorem dX11_song_11 : decode cX11_song 11 = .ok (.ifCond .eq 14, 3) := by decide +kernel
theorem dX11_song_14 : decode cX11_song 14 = .ok (.iload_n 1, 1) := by decide +kernel
theorem dX11_song_15 : decode cX11_song 15 = .ok (.invokestatic 258, 3) := by decide +kernel
theorem dX11_song_18 : decode cX11_song 18 = .ok (.ifCond .eq 7, 3) := by decide +kernel
theorem dX11_song_21 : decode cX11_song 21 = .ok (.iconst 1, 1) := by decide +kernel
theorem dX11_song_22 : decode cX11_song 22 = .ok (.goto 4, 3) := by decide +kernel
theorem dX11_song_25 : decode cX11_song 25 = .ok (.iconst 0, 1) := by decide +kernel
theorem dX11_song_26 : decode cX11_song 26 = .ok (.istore_n 2, 1) := by decide +kernel
theorem dX11_song_27 : decode cX11_song 27 = .ok (.aload_n 0, 1) := by decide +kernel
theorem dX11_song_28 : decode cX11_song 28 = .ok (.getfield 10, 3) := by decide +kernel
theorem dX11_song_31 : decode cX11_song 31 = .ok (.iconst 0, 1) := by decide +kernel
theorem dX11_song_32 : decode cX11_song 32 = .ok (.putfield 122, 3) := by decide +kernel
theorem dX11_song_35 : decode cX11_song 35 = .ok (.iload_n 2, 1) := by decide +kernel
theorem dX11_song_36 : decode cX11_song 36 = .ok (.ifCond .ne 6, 3) := by decide +kernel
theorem dX11_song_39 : decode cX11_song 39 = .ok (.bipush (-2), 2) := by decide +kernel
theorem dX11_song_41 : decode cX11_song 41 = .ok (.ireturn, 1) := by decide +kernel
theorem dX11_song_42 : decode cX11_song 42 = .ok (.aload_n 0, 1) := by decide +kernel
theorem dX11_song_43 : decode cX11_song 43 = .ok (.invokevirtual 251, 3) := by decide +kernel
theorem dX11_song_46 : decode cX11_song 46 = .ok (.aload_n 0, 1) := by decide +kernel
theorem dX11_song_47 : decode cX11_song 47 = .ok (.getfield 74, 3) := by decide +kernel
theorem dX11_song_50 : decode cX11_song 50 = .ok (.aload_n 0, 1) := by decide +kernel
theorem dX11_song_51 : decode cX11_song 51 = .ok (.getfield 39, 3) := by decide +kernel
theorem dX11_song_54 : decode cX11_song 54 = .ok (.getfield 237, 3) := by decide +kernel
theorem dX11_song_57 : decode cX11_song 57 = .ok (.aload_n 0, 1) := by decide +kernel
theorem dX11_song_58 : decode cX11_song 58 = .ok (.getfield 93, 3) := by decide +kernel
theorem dX11_song_61 : decode cX11_song 61 = .ok (.iload_n 1, 1) := by decide +kernel
theorem dX11_song_62 : decode cX11_song 62 = .ok (.invokevirtual 261, 3) := by decide +kernel
theorem dX11_song_65 : decode cX11_song 65 = .ok (.ireturn, 1) := by decide +kernel
theorem hcX11_song : yX11_song.cls ≠ "java/lang/invoke/MethodHandle" ∧ yX11_song.cls ≠ "java/lang/invoke/VarHandle" ∧ (parseMethodDescriptor yX11_song.desc).map (fun d => d.parameters.length) = some 1 := ⟨by decide +kernel, by decide +kernel, by decide +kernel⟩
def fX11_song_j26 (La : sg_L) (x1 : Int) (s5 : sg_M) (Q : Int → sg_M → Prop) (y0_26 : Int) : Prop := ∀ s7 : sg_M, s7 = sg_up s5 1 1 0 → ((y0_26 ≠ 0 → fX11_hearBook La s7 (fun s10 => fX6_play La s10 20 58 x1 (fun u15 s17 => Q u15 s17))) ∧ (y0_26 = 0 → Q (-2) s7))
def fX11_song_j25  (k26 : Int → Prop)  : Prop := k26 0
def fX11_song (La : sg_L) (s0 : sg_M) (x1 : Int) (Q : Int → sg_M → Prop) : Prop := fX6_readNotes La s0 (fun u3 s5 => ((u3 = 0 → (fX11_song_j25  (fX11_song_j26 La x1 s5 Q))) ∧ (¬ (u3 = 0) → fX11_isSlip x1 (fun u19 => ((u19 = 0 → (fX11_song_j25  (fX11_song_j26 La x1 s5 Q))) ∧ (¬ (u19 = 0) → (fX11_song_j26 La x1 s5 Q) 1))))))
set_option maxHeartbeats 4000000 in
set_option maxRecDepth 100000 in
theorem CX11_song {l : Launch} {G : sg_G} {La : sg_L} {s0 : sg_M} (hst : sg_St La) {x1 : Int} (r1 : sg_R x1) {Q : Int → sg_M → Prop} (hf : fX11_song La s0 x1 Q) : sg_C l G yX11_song cX11_song 3 (some .int) 7 0 0 La s0 [sg_r 0, sg_i x1] (sg_HI La Q) := by
  refine sg_body (by decide +kernel) (Nat.le_of_ble_eq_true rfl) ?_
  intro p e s m args below meth c F hnm
  unfold fX11_song at hf
  show sg_W p l e (sg_rm 7 0 0) s m args below meth c (MQ below (sg_Q (some .int) G La s.heap.size (sg_HI La Q)) args s 0 0 (sg_A La s.heap.size)) 3 G (sg_A La s.heap.size) La s0 0 0 0 [(0, sg_r 0), (1, sg_i x1)] []
  refine gw_aload_n F 0 rfl rfl (by decide) dX11_song_0 ?_
  refine gw_get7 F (so_0 hst) (by decide) rfl sg_lay_RX11 (j := 9) (by decide) (o1 := 46) (by first | rfl | omega) rfl (host := "") (.inl kw_335) dX11_song_1 (fun h1 => ?_)
  refine gw_aload_n F 0 rfl rfl (by decide) dX11_song_4 ?_
  refine gw_get7 F (so_0 hst) (by decide) rfl sg_lay_RX11 (j := 0) (by decide) (o1 := 1) (by first | rfl | omega) rfl (host := "") (.inl kw_326) dX11_song_5 (fun h2 => ?_)
  refine gk_HZ F (gc_V F (S := []) (As := [sg_r 1]) (T := TX6) (N := 3) (CX6_readNotes hst hf) (so_46 hst) (by decide) rfl kw_675 kw_102 kw_672 kw_673 kw_674 hcX6_readNotes ⟨by decide, by decide⟩ rfl rfl (Nat.le_of_ble_eq_true rfl) ⟨by decide, by decide⟩ dX11_song_8) (fun u3 s5 h4 hf => ?_)
  have J26 : ∀ (y0_26 : Int), sg_R y0_26 → (fX11_song_j26 La x1 s5 Q) y0_26 → sg_W p l e (sg_rm 7 0 0) s m args below meth c (MQ below (sg_Q (some .int) G La s.heap.size (sg_HI La Q)) args s 0 0 (sg_A La s.heap.size)) 3 G (sg_A La s.heap.size) La s5 0 0 26 [(0, sg_r 0), (1, sg_i x1)] [sg_i y0_26] := by
    intro y0_26 ry0_26 hf
    unfold fX11_song_j26 at hf
    refine gw_istore_n F rfl (by decide) rfl dX11_song_26 ?_
    refine gw_aload_n F 1 rfl rfl (by decide) dX11_song_27 ?_
    refine gw_get7 F (so_0 hst) (by decide) rfl sg_lay_RX11 (j := 0) (by decide) (o1 := 1) (by first | rfl | omega) rfl (host := "") (.inl kw_326) dX11_song_28 (fun h6 => ?_)
    refine gw_iconst F dX11_song_31 ?_
    obtain ⟨s7, e8⟩ : ∃ z : sg_M, z = sg_up s5 1 1 0 := ⟨_, rfl⟩
    have hf := hf s7 e8
    refine gw_put0 F (so_1 hst) (by decide) rfl sg_lay_RX8 (j := 1) (by decide) (by decide) e8 tyX8_ok nmX8 rfl (tyX8_ok 1 (by decide)) rfl (.inr kw_128) dX11_song_32 ?_
    refine gw_iload_n F 0 rfl rfl dX11_song_35 ?_
    refine gw_if_ne F (tgt := 42) dX11_song_36 (by decide) ry0_26 (fun c9 => ?_) (fun c9 => ?_)
    · have hf := hf.1 c9
      refine gw_aload_n F 1 rfl rfl (by decide) dX11_song_42 ?_
      refine gk_HV F (gc_V F (S := []) (As := []) (T := TX11) (N := 19) (CX11_hearBook hst hf) (so_0 hst) (by decide) rfl kw_651 kw_90 kw_649 kw_650 kw_19 hcX11_hearBook ⟨by decide, by decide⟩ rfl rfl (Nat.le_of_ble_eq_true rfl) ⟨by decide, by decide⟩ dX11_song_43) (fun s10 hf => ?_)
      refine gw_aload_n F 1 rfl rfl (by decide) dX11_song_46 ?_
      refine gw_get7 F (so_0 hst) (by decide) rfl sg_lay_RX11 (j := 9) (by decide) (o1 := 46) (by first | rfl | omega) rfl (host := "") (.inl kw_335) dX11_song_47 (fun h11 => ?_)
      refine gw_aload_n F 1 rfl rfl (by decide) dX11_song_50 ?_
      refine gw_get7 F (so_0 hst) (by decide) rfl sg_lay_RX11 (j := 2) (by decide) (o1 := 4) (by first | rfl | omega) rfl (host := "") (.inl kw_328) dX11_song_51 (fun h12 => ?_)
      refine gw_get7 F (so_4 hst) (by decide) rfl sg_lay_RX7 (j := 3) (by decide) (o1 := 20) (by first | rfl | omega) rfl (.inr kw_240) dX11_song_54 (fun h13 => ?_)
      refine gw_aload_n F 1 rfl rfl (by decide) dX11_song_57 ?_
      refine gw_get7 F (so_0 hst) (by decide) rfl sg_lay_RX11 (j := 13) (by decide) (o1 := 58) (by first | rfl | omega) rfl (host := "") (.inl kw_339) dX11_song_58 (fun h14 => ?_)
      refine gw_iload_n F 2 rfl rfl dX11_song_61 ?_
      refine gk_HI F (gc_V F (S := []) (As := [sg_r 20, sg_r 58, sg_i x1]) (T := TX6) (N := 3) (CX6_play hst (so_20 hst) (so_58 hst) r1 hf) (so_46 hst) (by decide) rfl kw_692 kw_102 kw_689 kw_690 kw_691 hcX6_play ⟨by decide, by decide⟩ rfl rfl (Nat.le_of_ble_eq_true rfl) ⟨by decide, by decide⟩ dX11_song_62) (fun u15 s17 h16 hf => ?_)
      exact gr_HI F h16 hf (by decide) (by decide) dX11_song_65
    · have hf := hf.2 c9
      refine gw_bipush F rfl dX11_song_39 ?_
      exact gr_HI F (by decide) hf (by decide) (by decide) dX11_song_41
  have J25 : (fX11_song_j25  (fX11_song_j26 La x1 s5 Q)) → sg_W p l e (sg_rm 7 0 0) s m args below meth c (MQ below (sg_Q (some .int) G La s.heap.size (sg_HI La Q)) args s 0 0 (sg_A La s.heap.size)) 3 G (sg_A La s.heap.size) La s5 0 0 25 [(0, sg_r 0), (1, sg_i x1)] [] := by
    intro hf
    unfold fX11_song_j25 at hf
    refine gw_iconst F dX11_song_25 ?_
    refine gw_sub [0, 1] rfl ?_
    exact J26 0 (by decide) hf
  refine gw_if_eq F (tgt := 25) dX11_song_11 (by decide) (sg_B_R h4) (fun c18 => ?_) (fun c18 => ?_)
  · have hf := hf.1 c18
    refine gw_sub [0, 1] rfl ?_
    exact J25  hf
  · have hf := hf.2 c18
    refine gw_iload_n F 1 rfl rfl dX11_song_14 ?_
    refine gk_PZ F (gc_S F (S := []) (As := [sg_i x1]) (CX11_isSlip r1 hf) kw_688 kw_90 kw_686 kw_687 hcX11_isSlip ⟨by decide, by decide⟩ rfl rfl (Nat.le_of_ble_eq_true rfl) ⟨by decide, by decide⟩ dX11_song_15) (fun u19 h20 hf => ?_)
    refine gw_if_eq F (tgt := 25) dX11_song_18 (by decide) (sg_B_R h20) (fun c21 => ?_) (fun c21 => ?_)
    · have hf := hf.1 c21
      refine gw_sub [0, 1] rfl ?_
      exact J25  hf
    · have hf := hf.2 c21
      refine gw_iconst F dX11_song_21 ?_
      refine gw_goto F (tgt := 26) dX11_song_22 (by decide) ?_
      refine gw_sub [0, 1] rfl ?_
      exact J26 1 (by decide) hf

theorem dX3_tip_0 : decode cX3_tip 0 = .ok (.iload_n 1, 1) := by decide +kernel
theorem dX3_tip_1 : decode cX3_tip 1 = .ok (.iconst 1, 1) := by decide +kernel
theorem dX3_tip_2 : decode cX3_tip 2 = .ok (.if_icmp .lt 18, 3) := by decide +kernel
theorem dX3_tip_5 : decode cX3_tip 5 = .ok (.iload_n 1, 1) := by decide +kernel
theorem dX3_tip_6 : decode cX3_tip 6 = .ok (.aload_n 0, 1) := by decide +kernel
theorem dX3_tip_7 : decode cX3_tip 7 = .ok (.getfield 18, 3) := by decide +kernel
theorem dX3_tip_10 : decode cX3_tip 10 = .ok (.if_icmp .gt 10, 3) := by decide +kernel
theorem dX3_tip_13 : decode cX3_tip 13 = .ok (.iload_n 1, 1) := by decide +kernel
theorem dX3_tip_14 : decode cX3_tip 14 = .ok (.sipush 200, 3) := by decide +kernel
theorem dX3_tip_17 : decode cX3_tip 17 = .ok (.if_icmp .le 7, 3) := by decide +kernel
theorem dX3_tip_20 : decode cX3_tip 20 = .ok (.iconst 0, 1) := by decide +kernel
theorem dX3_tip_21 : decode cX3_tip 21 = .ok (.goto 11, 3) := by decide +kernel
theorem dX3_tip_24 : decode cX3_tip 24 = .ok (.aload_n 0, 1) := by decide +kernel
theorem dX3_tip_25 : decode cX3_tip 25 = .ok (.getfield 15, 3) := by decide +kernel
theorem dX3_tip_28 : decode cX3_tip 28 = .ok (.iload_n 1, 1) := by decide +kernel
theorem dX3_tip_29 : decode cX3_tip 29 = .ok (.iconst 1, 1) := by decide +kernel
theorem dX3_tip_30 : decode cX3_tip 30 = .ok (.isub, 1) := by decide +kernel
theorem dX3_tip_31 : decode cX3_tip 31 = .ok (.iaload, 1) := by decide +kernel
theorem dX3_tip_32 : decode cX3_tip 32 = .ok (.ireturn, 1) := by decide +kernel
theorem hcX3_tip : yX3_tip.cls ≠ "java/lang/invoke/MethodHandle" ∧ yX3_tip.cls ≠ "java/lang/invoke/VarHandle" ∧ (parseMethodDescriptor yX3_tip.desc).map (fun d => d.parameters.length) = some 1 := ⟨by decide +kernel, by decide +kernel, by decide +kernel⟩
def fX3_tip (s0 : sg_M) (o : Int) (x1 : Int) (Q : Int → Prop) : Prop := ((x1 < 1 → Q 0) ∧ (¬ (x1 < 1) → (((s0 o 2) < x1 → Q 0) ∧ (¬ ((s0 o 2) < x1) → ((x1 ≤ 200 → (0 ≤ (x1 - 1) ∧ (x1 - 1) < 200) ∧ Q (s0 (o + 2) (x1 - 1))) ∧ (¬ (x1 ≤ 200) → Q 0))))))
set_option maxHeartbeats 4000000 in
set_option maxRecDepth 100000 in
theorem CX3_tip {l : Launch} {G : sg_G} {La : sg_L} {s0 : sg_M} {o : Int} (to : sg_O La o 3) {x1 : Int} (r1 : sg_R x1) {Q : Int → Prop} (hf : fX3_tip s0 o x1 Q) : sg_C l G yX3_tip cX3_tip 2 (some .int) 1 0 0 La s0 [sg_r o, sg_i x1] (sg_PI La s0 Q) := by
  refine sg_body (by decide +kernel) (Nat.le_of_ble_eq_true rfl) ?_
  intro p e s m args below meth c F hnm
  unfold fX3_tip at hf
  show sg_W p l e (sg_rm 1 0 0) s m args below meth c (MQ below (sg_Q (some .int) G La s.heap.size (sg_PI La s0 Q)) args s 0 0 (sg_A La s.heap.size)) 2 G (sg_A La s.heap.size) La s0 0 0 0 [(0, sg_r o), (1, sg_i x1)] []
  refine gw_iload_n F 1 rfl rfl dX3_tip_0 ?_
  refine gw_iconst F dX3_tip_1 ?_
  refine gw_icmp_lt F (tgt := 20) dX3_tip_2 (by decide) r1 (by decide) (fun c1 => ?_) (fun c1 => ?_)
  · have hf := hf.1 c1
    refine gw_iconst F dX3_tip_20 ?_
    refine gw_goto F (tgt := 32) dX3_tip_21 (by decide) ?_
    exact gr_PI F (by decide) hf (by decide) (by decide) dX3_tip_32
  · have hf := hf.2 c1
    refine gw_iload_n F 1 rfl rfl dX3_tip_5 ?_
    refine gw_aload_n F 0 rfl rfl to.1 dX3_tip_6 ?_
    refine gw_get0 F to (by decide) rfl sg_lay_RX3 (j := 2) (by decide) rfl (host := "") (.inl kw_180) dX3_tip_7 (fun h2 => ?_)
    refine gw_icmp_gt F (tgt := 20) dX3_tip_10 (by decide) r1 h2 (fun c3 => ?_) (fun c3 => ?_)
    · have hf := hf.1 c3
      refine gw_iconst F dX3_tip_20 ?_
      refine gw_goto F (tgt := 32) dX3_tip_21 (by decide) ?_
      exact gr_PI F (by decide) hf (by decide) (by decide) dX3_tip_32
    · have hf := hf.2 c3
      refine gw_iload_n F 1 rfl rfl dX3_tip_13 ?_
      refine gw_sipush F rfl dX3_tip_14 ?_
      refine gw_icmp_le F (tgt := 24) dX3_tip_17 (by decide) r1 (by decide) (fun c4 => ?_) (fun c4 => ?_)
      · have hf := hf.1 c4
        refine gw_aload_n F 0 rfl rfl to.1 dX3_tip_24 ?_
        refine gw_get3 F to (by decide) rfl sg_lay_RX3 (j := 1) (by decide) (o1 := (o + 2)) (by first | rfl | omega) rfl (host := "") (.inl kw_179) dX3_tip_25 (fun h5 => ?_)
        refine gw_iload_n F 1 rfl rfl dX3_tip_28 ?_
        refine gw_iconst F dX3_tip_29 ?_
        refine gw_isub F rfl dX3_tip_30 ?_
        obtain ⟨⟨b60, b61⟩, hf⟩ := hf
        refine gw_iald F (sg_AN_of (sg_O_of h5 (by decide)) (by decide) (by decide) (by decide)) b60 b61 dX3_tip_31 (fun h7 => ?_)
        exact gr_PI F h7 hf (by decide) (by decide) dX3_tip_32
      · have hf := hf.2 c4
        refine gw_iconst F dX3_tip_20 ?_
        refine gw_goto F (tgt := 32) dX3_tip_21 (by decide) ?_
        exact gr_PI F (by decide) hf (by decide) (by decide) dX3_tip_32

theorem dX5_holds_0 : decode cX5_holds 0 = .ok (.iconst 0, 1) := by decide +kernel
theorem dX5_holds_1 : decode cX5_holds 1 = .ok (.istore_n 3, 1) := by decide +kernel
theorem dX5_holds_2 : decode cX5_holds 2 = .ok (.iconst 0, 1) := by decide +kernel
theorem dX5_holds_3 : decode cX5_holds 3 = .ok (.istore 4, 2) := by decide +kernel
theorem dX5_holds_5 : decode cX5_holds 5 = .ok (.iload 4, 2) := by decide +kernel
theorem dX5_holds_7 : decode cX5_holds 7 = .ok (.aload_n 0, 1) := by decide +kernel
theorem dX5_holds_8 : decode cX5_holds 8 = .ok (.getfield 16, 3) := by decide +kernel
theorem dX5_holds_11 : decode cX5_holds 11 = .ok (.getfield 112, 3) := by decide +kernel
theorem dX5_holds_14 : decode cX5_holds 14 = .ok (.if_icmp .ge 99, 3) := by decide +kernel
theorem dX5_holds_17 : decode cX5_holds 17 = .ok (.iload_n 3, 1) := by decide +kernel
theorem dX5_holds_18 : decode cX5_holds 18 = .ok (.iconst 1, 1) := by decide +kernel
theorem dX5_holds_19 : decode cX5_holds 19 = .ok (.iand, 1) := by decide +kernel
theorem dX5_holds_20 : decode cX5_holds 20 = .ok (.istore 5, 2) := by decide +kernel
theorem dX5_holds_22 : decode cX5_holds 22 = .ok (.aload_n 0, 1) := by decide +kernel
theorem dX5_holds_23 : decode cX5_holds 23 = .ok (.getfield 16, 3) := by decide +kernel
theorem dX5_holds_26 : decode cX5_holds 26 = .ok (.iload 4, 2) := by decide +kernel
theorem dX5_holds_28 : decode cX5_holds 28 = .ok (.invokevirtual 115, 3) := by decide +kernel
theorem dX5_holds_31 : decode cX5_holds 31 = .ok (.tableswitch 55 9 11 #[25, 32, 45], 25) := by decide +kernel
theorem dX5_holds_56 : decode cX5_holds 56 = .ok (.iload_n 3, 1) := by decide +kernel
theorem dX5_holds_57 : decode cX5_holds 57 = .ok (.iconst 1, 1) := by decide +kernel
theorem dX5_holds_58 : decode cX5_holds 58 = .ok (.ixor, 1) := by decide +kernel
theorem dX5_holds_59 : decode cX5_holds 59 = .ok (.istore_n 3, 1) := by decide +kernel
theorem dX5_holds_60 : decode cX5_holds 60 = .ok (.goto 47, 3) := by decide +kernel
theorem dX5_holds_63 : decode cX5_holds 63 = .ok (.iload_n 3, 1) := by decide +kernel
theorem dX5_holds_64 : decode cX5_holds 64 = .ok (.iconst 1, 1) := by decide +kernel
theorem dX5_holds_65 : decode cX5_holds 65 = .ok (.iushr, 1) := by decide +kernel
theorem dX5_holds_66 : decode cX5_holds 66 = .ok (.iload 5, 2) := by decide +kernel
theorem dX5_holds_68 : decode cX5_holds 68 = .ok (.bipush (-2), 2) := by decide +kernel
theorem dX5_holds_70 : decode cX5_holds 70 = .ok (.ior, 1) := by decide +kernel
theorem dX5_holds_71 : decode cX5_holds 71 = .ok (.iand, 1) := by decide +kernel
theorem dX5_holds_72 : decode cX5_holds 72 = .ok (.istore_n 3, 1) := by decide +kernel
theorem dX5_holds_73 : decode cX5_holds 73 = .ok (.goto 34, 3) := by decide +kernel
theorem dX5_holds_76 : decode cX5_holds 76 = .ok (.iload_n 3, 1) := by decide +kernel
theorem dX5_holds_77 : decode cX5_holds 77 = .ok (.iconst 1, 1) := by decide +kernel
theorem dX5_holds_78 : decode cX5_holds 78 = .ok (.iushr, 1) := by decide +kernel
theorem dX5_holds_79 : decode cX5_holds 79 = .ok (.iload 5, 2) := by decide +kernel
theorem dX5_holds_81 : decode cX5_holds 81 = .ok (.ior, 1) := by decide +kernel
theorem dX5_holds_82 : decode cX5_holds 82 = .ok (.istore_n 3, 1) := by decide +kernel
theorem dX5_holds_83 : decode cX5_holds 83 = .ok (.goto 24, 3) := by decide +kernel
theorem dX5_holds_86 : decode cX5_holds 86 = .ok (.iload_n 3, 1) := by decide +kernel
theorem dX5_holds_87 : decode cX5_holds 87 = .ok (.iconst 1, 1) := by decide +kernel
theorem dX5_holds_88 : decode cX5_holds 88 = .ok (.ishl, 1) := by decide +kernel
theorem dX5_holds_89 : decode cX5_holds 89 = .ok (.aload_n 0, 1) := by decide +kernel
theorem dX5_holds_90 : decode cX5_holds 90 = .ok (.iload 4, 2) := by decide +kernel
theorem dX5_holds_92 : decode cX5_holds 92 = .ok (.aload_n 1, 1) := by decide +kernel
theorem dX5_holds_93 : decode cX5_holds 93 = .ok (.iload_n 2, 1) := by decide +kernel
theorem dX5_holds_94 : decode cX5_holds 94 = .ok (.invokevirtual 119, 3) := by decide +kernel
theorem dX5_holds_97 : decode cX5_holds 97 = .ok (.ifCond .eq 7, 3) := by decide +kernel
theorem dX5_holds_100 : decode cX5_holds 100 = .ok (.iconst 1, 1) := by decide +kernel
theorem dX5_holds_101 : decode cX5_holds 101 = .ok (.goto 4, 3) := by decide +kernel
theorem dX5_holds_104 : decode cX5_holds 104 = .ok (.iconst 0, 1) := by decide +kernel
theorem dX5_holds_105 : decode cX5_holds 105 = .ok (.ior, 1) := by decide +kernel
theorem dX5_holds_106 : decode cX5_holds 106 = .ok (.istore_n 3, 1) := by decide +kernel
theorem dX5_holds_107 : decode cX5_holds 107 = .ok (.iinc 4 1, 3) := by decide +kernel
theorem dX5_holds_110 : decode cX5_holds 110 = .ok (.goto (-105), 3) := by decide +kernel
theorem dX5_holds_113 : decode cX5_holds 113 = .ok (.iload_n 3, 1) := by decide +kernel
theorem dX5_holds_114 : decode cX5_holds 114 = .ok (.iconst 1, 1) := by decide +kernel
theorem dX5_holds_115 : decode cX5_holds 115 = .ok (.iand, 1) := by decide +kernel
theorem dX5_holds_116 : decode cX5_holds 116 = .ok (.iconst 1, 1) := by decide +kernel
theorem dX5_holds_117 : decode cX5_holds 117 = .ok (.if_icmp .ne 7, 3) := by decide +kernel
theorem dX5_holds_120 : decode cX5_holds 120 = .ok (.iconst 1, 1) := by decide +kernel
theorem dX5_holds_121 : decode cX5_holds 121 = .ok (.goto 4, 3) := by decide +kernel
theorem dX5_holds_124 : decode cX5_holds 124 = .ok (.iconst 0, 1) := by decide +kernel
theorem dX5_holds_125 : decode cX5_holds 125 = .ok (.ireturn, 1) := by decide +kernel
theorem hcX5_holds : yX5_holds.cls ≠ "java/lang/invoke/MethodHandle" ∧ yX5_holds.cls ≠ "java/lang/invoke/VarHandle" ∧ (parseMethodDescriptor yX5_holds.desc).map (fun d => d.parameters.length) = some 2 := ⟨by decide +kernel, by decide +kernel, by decide +kernel⟩
def fX5_holds_j107 (x4_5 : Int) (k5 : Int → Int → Prop) (x3_107 : Int) : Prop := sg_R (x4_5 + 1) ∧ k5 x3_107 (x4_5 + 1)
def fX5_holds_j105 (x3_5 : Int) (k107 : Int → Prop) (y0_105 : Int) : Prop := k107 (sg_or (sg_shl x3_5 1) y0_105)
def fX5_holds_L5 (La : sg_L) (s0 : sg_M) (o : Int) (x2 : Int) (k113 : Int → Prop) : Nat → Int → Int → Prop
  | 0, _, _ => False
  | n_5 + 1, x3_5, x4_5 => (((s0 (o + 1) 1) ≤ x4_5 → k113 x3_5) ∧ (¬ ((s0 (o + 1) 1) ≤ x4_5) → fX4_at La s0 (o + 1) x4_5 (fun u5 => ((u5 < 9 ∨ 11 < u5 → fX5_isSo La s0 o x4_5 x2 (fun u9 => ((u9 = 0 → (fX5_holds_j105 x3_5 (fX5_holds_j107 x4_5 (fX5_holds_L5 La s0 o x2 k113 n_5))) 0) ∧ (¬ (u9 = 0) → (fX5_holds_j105 x3_5 (fX5_holds_j107 x4_5 (fX5_holds_L5 La s0 o x2 k113 n_5))) 1)))) ∧ (u5 = 9 → (fX5_holds_j107 x4_5 (fX5_holds_L5 La s0 o x2 k113 n_5)) (sg_xor x3_5 1)) ∧ (u5 = 10 → ∀ v12 : Int, v12 = (sg_and (sg_ushr x3_5 1) (sg_or (sg_and x3_5 1) (-2))) → sg_R v12 ∧ (fX5_holds_j107 x4_5 (fX5_holds_L5 La s0 o x2 k113 n_5)) v12) ∧ (u5 = 11 → ∀ v15 : Int, v15 = (sg_or (sg_ushr x3_5 1) (sg_and x3_5 1)) → sg_R v15 ∧ (fX5_holds_j107 x4_5 (fX5_holds_L5 La s0 o x2 k113 n_5)) v15)))))
def fX5_holds (La : sg_L) (s0 : sg_M) (o : Int) (x2 : Int) (Q : Int → Prop) : Prop := (∃ n18 : Nat, fX5_holds_L5 La s0 o x2 (fun x3_113e5 => (((sg_and x3_113e5 1) ≠ 1 → Q 0) ∧ ((sg_and x3_113e5 1) = 1 → Q 1))) n18 0 0)
set_option maxHeartbeats 4000000 in
set_option maxRecDepth 100000 in
theorem CX5_holds {l : Launch} {G : sg_G} {La : sg_L} {s0 : sg_M} (hst : sg_St La) {o : Int} (to : sg_O La o 5) {x2 : Int} (r2 : sg_R x2) {Q : Int → Prop} (hf : fX5_holds La s0 o x2 Q) : sg_C l G yX5_holds cX5_holds 6 (some .boolean) 4 0 0 La s0 [sg_r o, sg_r 32, sg_i x2] (sg_PZ La s0 Q) := by
  refine sg_body (by decide +kernel) (Nat.le_of_ble_eq_true rfl) ?_
  intro p e s m args below meth c F hnm
  unfold fX5_holds at hf
  show sg_W p l e (sg_rm 4 0 0) s m args below meth c (MQ below (sg_Q (some .boolean) G La s.heap.size (sg_PZ La s0 Q)) args s 0 0 (sg_A La s.heap.size)) 6 G (sg_A La s.heap.size) La s0 0 0 0 [(0, sg_r o), (1, sg_r 32), (2, sg_i x2)] []
  refine gw_iconst F dX5_holds_0 ?_
  refine gw_istore_n F rfl (by decide) rfl dX5_holds_1 ?_
  refine gw_iconst F dX5_holds_2 ?_
  refine gw_istore F (by decide) rfl dX5_holds_3 ?_
  have L5 : ∀ (k113 : Int → Prop) (hk113 : ∀ (x3_113e5 : Int), sg_R x3_113e5 → k113 x3_113e5 → sg_W p l e (sg_rm 4 0 0) s m args below meth c (MQ below (sg_Q (some .boolean) G La s.heap.size (sg_PZ La s0 Q)) args s 0 0 (sg_A La s.heap.size)) 6 G (sg_A La s.heap.size) La s0 0 0 113 [(3, sg_i x3_113e5)] []), ∀ n_5 : Nat, ∀ (x3_5 : Int) (x4_5 : Int), sg_R x3_5 → sg_R x4_5 → fX5_holds_L5 La s0 o x2 k113 n_5 x3_5 x4_5 → sg_W p l e (sg_rm 4 0 0) s m args below meth c (MQ below (sg_Q (some .boolean) G La s.heap.size (sg_PZ La s0 Q)) args s 0 0 (sg_A La s.heap.size)) 6 G (sg_A La s.heap.size) La s0 0 0 5 [(0, sg_r o), (1, sg_r 32), (2, sg_i x2), (3, sg_i x3_5), (4, sg_i x4_5)] [] := by
    intro k113 hk113 n_5
    induction n_5 with
    | zero => intro x3_5 x4_5 r3_5 r4_5 hf; exact hf.elim
    | succ n_5 ih =>
      intro x3_5 x4_5 r3_5 r4_5 hf
      unfold fX5_holds_L5 at hf
      refine gw_iload F 4 rfl dX5_holds_5 ?_
      refine gw_aload_n F 0 rfl rfl to.1 dX5_holds_7 ?_
      refine gw_get3 F to (by decide) rfl sg_lay_RX5 (j := 0) (by decide) (o1 := (o + 1)) (by first | rfl | omega) rfl (host := "") (.inl kw_207) dX5_holds_8 (fun h1 => ?_)
      refine gw_get0 F (sg_O_of h1 (by decide)) (by decide) rfl sg_lay_RX4 (j := 1) (by decide) rfl (.inr kw_203) dX5_holds_11 (fun h2 => ?_)
      refine gw_icmp_ge F (tgt := 113) dX5_holds_14 (by decide) r4_5 h2 (fun c3 => ?_) (fun c3 => ?_)
      · have hf := hf.1 c3
        refine gw_sub [3] rfl ?_
        exact hk113 x3_5 r3_5 hf
      · have hf := hf.2 c3
        refine gw_iload_n F 3 rfl rfl dX5_holds_17 ?_
        refine gw_iconst F dX5_holds_18 ?_
        refine gw_iand F rfl dX5_holds_19 ?_
        refine gw_istore F (by decide) rfl dX5_holds_20 ?_
        refine gw_aload_n F 1 rfl rfl to.1 dX5_holds_22 ?_
        refine gw_get3 F to (by decide) rfl sg_lay_RX5 (j := 0) (by decide) (o1 := (o + 1)) (by first | rfl | omega) rfl (host := "") (.inl kw_207) dX5_holds_23 (fun h4 => ?_)
        refine gw_iload F 5 rfl dX5_holds_26 ?_
        refine gk_PI F (gc_V F (S := []) (As := [sg_i x4_5]) (T := TX4) (N := 3) (CX4_at (sg_O_of h4 (by decide)) r4_5 hf) (sg_O_of h4 (by decide)) (by decide) rfl kw_546 kw_97 kw_847 kw_544 kw_545 hcX4_at ⟨by decide, by decide⟩ rfl rfl (Nat.le_of_ble_eq_true rfl) ⟨by decide, by decide⟩ dX5_holds_28) (fun u5 h6 hf => ?_)
        have J107 : ∀ (x3_107 : Int), sg_R x3_107 → (fX5_holds_j107 x4_5 (fX5_holds_L5 La s0 o x2 k113 n_5)) x3_107 → sg_W p l e (sg_rm 4 0 0) s m args below meth c (MQ below (sg_Q (some .boolean) G La s.heap.size (sg_PZ La s0 Q)) args s 0 0 (sg_A La s.heap.size)) 6 G (sg_A La s.heap.size) La s0 0 0 107 [(0, sg_r o), (1, sg_r 32), (2, sg_i x2), (3, sg_i x3_107), (4, sg_i x4_5)] [] := by
          intro x3_107 r3_107 hf
          unfold fX5_holds_j107 at hf
          refine gw_iinc F (z := (x4_5 + 1)) 4 rfl (by omega) (by decide) rfl dX5_holds_107 ?_
          refine gw_goto F (tgt := 5) dX5_holds_110 (by decide) ?_
          obtain ⟨g7, hf⟩ := hf
          refine gw_sub [1, 2, 3, 4, 0] rfl ?_
          exact ih x3_107 (x4_5 + 1) r3_107 g7 hf
        refine gw_switch F dX5_holds_31 h6 (td := 86) (by decide) (fun c8 => ?_) (fun i hi1 hi2 => ?_)
        · have hf := hf.1 c8
          refine gw_iload_n F 4 rfl rfl dX5_holds_86 ?_
          refine gw_iconst F dX5_holds_87 ?_
          refine gw_ishl F rfl dX5_holds_88 ?_
          refine gw_aload_n F 1 rfl rfl to.1 dX5_holds_89 ?_
          refine gw_iload F 5 rfl dX5_holds_90 ?_
          refine gw_aload_n F 2 rfl rfl (by decide) dX5_holds_92 ?_
          refine gw_iload_n F 3 rfl rfl dX5_holds_93 ?_
          refine gk_PZ F (gc_V F (S := [sg_i (sg_shl x3_5 1)]) (As := [sg_i x4_5, sg_r 32, sg_i x2]) (T := TX5) (N := 4) (CX5_isSo hst to r4_5 r2 hf) to (by decide) rfl kw_850 kw_96 kw_848 kw_849 kw_36 hcX5_isSo ⟨by decide, by decide⟩ rfl rfl (Nat.le_of_ble_eq_true rfl) ⟨by decide, by decide⟩ dX5_holds_94) (fun u9 h10 hf => ?_)
          have J105 : ∀ (y0_105 : Int), sg_R y0_105 → (fX5_holds_j105 x3_5 (fX5_holds_j107 x4_5 (fX5_holds_L5 La s0 o x2 k113 n_5))) y0_105 → sg_W p l e (sg_rm 4 0 0) s m args below meth c (MQ below (sg_Q (some .boolean) G La s.heap.size (sg_PZ La s0 Q)) args s 0 0 (sg_A La s.heap.size)) 6 G (sg_A La s.heap.size) La s0 0 0 105 [(0, sg_r o), (1, sg_r 32), (2, sg_i x2), (4, sg_i x4_5)] [sg_i y0_105, sg_i (sg_shl x3_5 1)] := by
            intro y0_105 ry0_105 hf
            unfold fX5_holds_j105 at hf
            refine gw_ior F rfl dX5_holds_105 ?_
            refine gw_istore_n F rfl (by decide) rfl dX5_holds_106 ?_
            refine gw_sub [1, 2, 3, 0, 4] rfl ?_
            exact J107 (sg_or (sg_shl x3_5 1) y0_105) (sg_or_R _ _) hf
          refine gw_if_eq F (tgt := 104) dX5_holds_97 (by decide) (sg_B_R h10) (fun c11 => ?_) (fun c11 => ?_)
          · have hf := hf.1 c11
            refine gw_iconst F dX5_holds_104 ?_
            refine gw_sub [1, 2, 3, 5] rfl ?_
            exact J105 0 (by decide) hf
          · have hf := hf.2 c11
            refine gw_iconst F dX5_holds_100 ?_
            refine gw_goto F (tgt := 105) dX5_holds_101 (by decide) ?_
            refine gw_sub [1, 2, 3, 5] rfl ?_
            exact J105 1 (by decide) hf
        · rcases (show i = 0 ∨ i = 1 ∨ i = 2 by omega) with rfl | rfl | rfl
          · have hf := hf.2.1 (by omega)
            refine ⟨25, 56, rfl, by decide, ?_⟩
            refine gw_iload_n F 4 rfl rfl dX5_holds_56 ?_
            refine gw_iconst F dX5_holds_57 ?_
            refine gw_ixor F rfl dX5_holds_58 ?_
            refine gw_istore_n F rfl (by decide) rfl dX5_holds_59 ?_
            refine gw_goto F (tgt := 107) dX5_holds_60 (by decide) ?_
            refine gw_sub [2, 3, 4, 0, 5] rfl ?_
            exact J107 (sg_xor x3_5 1) (sg_xor_R _ _) hf
          · have hf := hf.2.2.1 (by omega)
            refine ⟨32, 63, rfl, by decide, ?_⟩
            refine gw_iload_n F 4 rfl rfl dX5_holds_63 ?_
            refine gw_iconst F dX5_holds_64 ?_
            refine gw_iushr F rfl dX5_holds_65 ?_
            refine gw_iload F 0 rfl dX5_holds_66 ?_
            refine gw_bipush F rfl dX5_holds_68 ?_
            refine gw_ior F rfl dX5_holds_70 ?_
            refine gw_iand F rfl dX5_holds_71 ?_
            obtain ⟨v12, e13⟩ : ∃ z : Int, z = (sg_and (sg_ushr x3_5 1) (sg_or (sg_and x3_5 1) (-2))) := ⟨_, rfl⟩
            obtain ⟨g14, hf⟩ := hf v12 e13
            refine gw_nmI e13 ?_
            refine gw_istore_n F rfl (by decide) rfl dX5_holds_72 ?_
            refine gw_goto F (tgt := 107) dX5_holds_73 (by decide) ?_
            refine gw_sub [2, 3, 4, 0, 5] rfl ?_
            exact J107 v12 g14 hf
          · have hf := hf.2.2.2 (by omega)
            refine ⟨45, 76, rfl, by decide, ?_⟩
            refine gw_iload_n F 4 rfl rfl dX5_holds_76 ?_
            refine gw_iconst F dX5_holds_77 ?_
            refine gw_iushr F rfl dX5_holds_78 ?_
            refine gw_iload F 0 rfl dX5_holds_79 ?_
            refine gw_ior F rfl dX5_holds_81 ?_
            obtain ⟨v15, e16⟩ : ∃ z : Int, z = (sg_or (sg_ushr x3_5 1) (sg_and x3_5 1)) := ⟨_, rfl⟩
            obtain ⟨g17, hf⟩ := hf v15 e16
            refine gw_nmI e16 ?_
            refine gw_istore_n F rfl (by decide) rfl dX5_holds_82 ?_
            refine gw_goto F (tgt := 107) dX5_holds_83 (by decide) ?_
            refine gw_sub [2, 3, 4, 0, 5] rfl ?_
            exact J107 v15 g17 hf
  obtain ⟨n18, hf⟩ := hf
  refine gw_sub [2, 3, 4, 1, 0] rfl ?_
  refine L5 _ (fun x3_113e5 r3_113e5 hf => ?_) n18 0 0 (by decide) (by decide) hf
  refine gw_iload_n F 0 rfl rfl dX5_holds_113 ?_
  refine gw_iconst F dX5_holds_114 ?_
  refine gw_iand F rfl dX5_holds_115 ?_
  refine gw_iconst F dX5_holds_116 ?_
  refine gw_icmp_ne F (tgt := 124) dX5_holds_117 (by decide) (sg_and_R _ _) (by decide) (fun c19 => ?_) (fun c19 => ?_)
  · have hf := hf.1 c19
    refine gw_iconst F dX5_holds_124 ?_
    exact gr_PZ F (by decide) hf (by decide) (by decide) dX5_holds_125
  · have hf := hf.2 c19
    refine gw_iconst F dX5_holds_120 ?_
    refine gw_goto F (tgt := 125) dX5_holds_121 (by decide) ?_
    exact gr_PZ F (by decide) hf (by decide) (by decide) dX5_holds_125

theorem dX11_askTicks_0 : decode cX11_askTicks 0 = .ok (.aload_n 0, 1) := by decide +kernel
theorem dX11_askTicks_1 : decode cX11_askTicks 1 = .ok (.getfield 99, 3) := by decide +kernel
theorem dX11_askTicks_4 : decode cX11_askTicks 4 = .ok (.getfield 346, 3) := by decide +kernel
theorem dX11_askTicks_7 : decode cX11_askTicks 7 = .ok (.ifCond .eq 4, 3) := by decide +kernel
theorem dX11_askTicks_10 : decode cX11_askTicks 10 = .ok (.return_, 1) := by decide +kernel
theorem dX11_askTicks_11 : decode cX11_askTicks 11 = .ok (.aload_n 0, 1) := by decide +kernel
theorem dX11_askTicks_12 : decode cX11_askTicks 12 = .ok (.getfield 99, 3) := by decide +kernel
theorem dX11_askTicks_15 : decode cX11_askTicks 15 = .ok (.invokevirtual 271, 3) := by decide +kernel
theorem dX11_askTicks_18 : decode cX11_askTicks 18 = .ok (.iconst 1, 1) := by decide +kernel
theorem dX11_askTicks_19 : decode cX11_askTicks 19 = .ok (.istore_n 1, 1) := by decide +kernel
theorem dX11_askTicks_20 : decode cX11_askTicks 20 = .ok (.iload_n 1, 1) := by decide +kernel
theorem dX11_askTicks_21 : decode cX11_askTicks 21 = .ok (.aload_n 0, 1) := by decide +kernel
theorem dX11_askTicks_22 : decode cX11_askTicks 22 = .ok (.getfield 39, 3) := by decide +kernel
theorem dX11_askTicks_25 : decode cX11_askTicks 25 = .ok (.getfield 212, 3) := by decide +kernel
theorem dX11_askTicks_28 : decode cX11_askTicks 28 = .ok (.getfield 216, 3) := by decide +kernel
theorem dX11_askTicks_31 : decode cX11_askTicks 31 = .ok (.if_icmp .gt 68, 3) := by decide +kernel
theorem dX11_askTicks_34 : decode cX11_askTicks 34 = .ok (.aload_n 0, 1) := by decide +kernel
theorem dX11_askTicks_35 : decode cX11_askTicks 35 = .ok (.aload_n 0, 1) := by decide +kernel
theorem dX11_askTicks_36 : decode cX11_askTicks 36 = .ok (.getfield 39, 3) := by decide +kernel
theorem dX11_askTicks_39 : decode cX11_askTicks 39 = .ok (.getfield 112, 3) := by decide +kernel
theorem dX11_askTicks_42 : decode cX11_askTicks 42 = .ok (.aload_n 0, 1) := by decide +kernel
theorem dX11_askTicks_43 : decode cX11_askTicks 43 = .ok (.getfield 39, 3) := by decide +kernel
theorem dX11_askTicks_46 : decode cX11_askTicks 46 = .ok (.getfield 212, 3) := by decide +kernel
theorem dX11_askTicks_49 : decode cX11_askTicks 49 = .ok (.iload_n 1, 1) := by decide +kernel
theorem dX11_askTicks_50 : decode cX11_askTicks 50 = .ok (.invokevirtual 219, 3) := by decide +kernel
theorem dX11_askTicks_53 : decode cX11_askTicks 53 = .ok (.aload_n 0, 1) := by decide +kernel
theorem dX11_askTicks_54 : decode cX11_askTicks 54 = .ok (.getfield 39, 3) := by decide +kernel
theorem dX11_askTicks_57 : decode cX11_askTicks 57 = .ok (.getfield 212, 3) := by decide +kernel
theorem dX11_askTicks_60 : decode cX11_askTicks 60 = .ok (.iload_n 1, 1) := by decide +kernel
theorem dX11_askTicks_61 : decode cX11_askTicks 61 = .ok (.invokevirtual 222, 3) := by decide +kernel
theorem dX11_askTicks_64 : decode cX11_askTicks 64 = .ok (.invokevirtual 225, 3) := by decide +kernel
theorem dX11_askTicks_67 : decode cX11_askTicks 67 = .ok (.aload_n 0, 1) := by decide +kernel
theorem dX11_askTicks_68 : decode cX11_askTicks 68 = .ok (.getfield 39, 3) := by decide +kernel
theorem dX11_askTicks_71 : decode cX11_askTicks 71 = .ok (.getfield 324, 3) := by decide +kernel
theorem dX11_askTicks_74 : decode cX11_askTicks 74 = .ok (.aload_n 0, 1) := by decide +kernel
theorem dX11_askTicks_75 : decode cX11_askTicks 75 = .ok (.getfield 54, 3) := by decide +kernel
theorem dX11_askTicks_78 : decode cX11_askTicks 78 = .ok (.iload_n 1, 1) := by decide +kernel
theorem dX11_askTicks_79 : decode cX11_askTicks 79 = .ok (.invokevirtual 358, 3) := by decide +kernel
theorem dX11_askTicks_82 : decode cX11_askTicks 82 = .ok (.ifCond .eq 11, 3) := by decide +kernel
theorem dX11_askTicks_85 : decode cX11_askTicks 85 = .ok (.aload_n 0, 1) := by decide +kernel
theorem dX11_askTicks_86 : decode cX11_askTicks 86 = .ok (.getfield 99, 3) := by decide +kernel
theorem dX11_askTicks_89 : decode cX11_askTicks 89 = .ok (.iload_n 1, 1) := by decide +kernel
theorem dX11_askTicks_90 : decode cX11_askTicks 90 = .ok (.invokevirtual 278, 3) := by decide +kernel
theorem dX11_askTicks_93 : decode cX11_askTicks 93 = .ok (.iinc 1 1, 3) := by decide +kernel
theorem dX11_askTicks_96 : decode cX11_askTicks 96 = .ok (.goto (-76), 3) := by decide +kernel
theorem dX11_askTicks_99 : decode cX11_askTicks 99 = .ok (.aload_n 0, 1) := by decide +kernel
theorem dX11_askTicks_100 : decode cX11_askTicks 100 = .ok (.getfield 99, 3) := by decide +kernel
theorem dX11_askTicks_103 : decode cX11_askTicks 103 = .ok (.iconst 1, 1) := by decide +kernel
theorem dX11_askTicks_104 : decode cX11_askTicks 104 = .ok (.putfield 346, 3) := by decide +kernel
theorem dX11_askTicks_107 : decode cX11_askTicks 107 = .ok (.return_, 1) := by decide +kernel
theorem hcX11_askTicks : yX11_askTicks.cls ≠ "java/lang/invoke/MethodHandle" ∧ yX11_askTicks.cls ≠ "java/lang/invoke/VarHandle" ∧ (parseMethodDescriptor yX11_askTicks.desc).map (fun d => d.parameters.length) = some 0 := ⟨by decide +kernel, by decide +kernel, by decide +kernel⟩
def fX11_askTicks_j93 (x1_20 : Int) (k20 : sg_M → Int → Prop) (s_93 : sg_M) : Prop := sg_R (x1_20 + 1) ∧ k20 s_93 (x1_20 + 1)
def fX11_askTicks_L20 (La : sg_L) (Q : sg_M → Prop) : Nat → sg_M → Int → Prop
  | 0, _, _ => False
  | n_20 + 1, s_20, x1_20 => (0 ≤ (s_20 4 1)) ∧ (((s_20 (s_20 4 1) 2) < x1_20 → ∀ s13 : sg_M, s13 = sg_up s_20 62 2 1 → Q s13) ∧ (¬ ((s_20 (s_20 4 1) 2) < x1_20) → (0 ≤ (s_20 4 1)) ∧ fX3_knee s_20 (s_20 4 1) x1_20 (fun u21 => (0 ≤ (s_20 4 1)) ∧ fX3_tip s_20 (s_20 4 1) x1_20 (fun u27 => (0 ≤ (s_20 4 0)) ∧ fX11_listenTo La s_20 (s_20 4 0) u21 u27 (fun s31 => (0 ≤ (s31 4 2)) ∧ fX5_holds La s31 (s31 4 2) x1_20 (fun u37 => ((u37 = 0 → (fX11_askTicks_j93 x1_20 (fX11_askTicks_L20 La Q n_20)) s31) ∧ (¬ (u37 = 0) → fX4_add La s31 62 x1_20 (fun s42 => (fX11_askTicks_j93 x1_20 (fX11_askTicks_L20 La Q n_20)) s42)))))))))
def fX11_askTicks (La : sg_L) (s0 : sg_M) (Q : sg_M → Prop) : Prop := (((s0 62 2) = 0 → fX4_clear s0 62 (fun s5 => (∃ n43 : Nat, fX11_askTicks_L20 La Q n43 s5 1))) ∧ (¬ ((s0 62 2) = 0) → Q s0))
set_option maxHeartbeats 4000000 in
set_option maxRecDepth 100000 in
theorem CX11_askTicks {l : Launch} {G : sg_G} {La : sg_L} {s0 : sg_M} (hst : sg_St La) {Q : sg_M → Prop} (hf : fX11_askTicks La s0 Q) : sg_C l G yX11_askTicks cX11_askTicks 2 (none) 6 0 0 La s0 [sg_r 0] (sg_HV La Q) := by
  refine sg_body (by decide +kernel) (Nat.le_of_ble_eq_true rfl) ?_
  intro p e s m args below meth c F hnm
  unfold fX11_askTicks at hf
  show sg_W p l e (sg_rm 6 0 0) s m args below meth c (MQ below (sg_Q (none) G La s.heap.size (sg_HV La Q)) args s 0 0 (sg_A La s.heap.size)) 2 G (sg_A La s.heap.size) La s0 0 0 0 [(0, sg_r 0)] []
  refine gw_aload_n F 0 rfl rfl (by decide) dX11_askTicks_0 ?_
  refine gw_get7 F (so_0 hst) (by decide) rfl sg_lay_RX11 (j := 15) (by decide) (o1 := 62) (by first | rfl | omega) rfl (host := "") (.inl kw_341) dX11_askTicks_1 (fun h1 => ?_)
  refine gw_get1 F (so_62 hst) (by decide) rfl sg_lay_RX4 (j := 2) (by decide) rfl (.inr kw_206) dX11_askTicks_4 (fun h2 => ?_)
  refine gw_if_eq F (tgt := 11) dX11_askTicks_7 (by decide) (sg_B_R h2) (fun c3 => ?_) (fun c3 => ?_)
  · have hf := hf.1 c3
    refine gw_aload_n F 0 rfl rfl (by decide) dX11_askTicks_11 ?_
    refine gw_get7 F (so_0 hst) (by decide) rfl sg_lay_RX11 (j := 15) (by decide) (o1 := 62) (by first | rfl | omega) rfl (host := "") (.inl kw_341) dX11_askTicks_12 (fun h4 => ?_)
    refine gk_HV F (gc_V F (S := []) (As := []) (T := TX4) (N := 3) (CX4_clear (so_62 hst) hf) (so_62 hst) (by decide) rfl kw_531 kw_97 kw_652 kw_529 kw_530 hcX4_clear ⟨by decide, by decide⟩ rfl rfl (Nat.le_of_ble_eq_true rfl) ⟨by decide, by decide⟩ dX11_askTicks_15) (fun s5 hf => ?_)
    refine gw_iconst F dX11_askTicks_18 ?_
    refine gw_istore_n F rfl (by decide) rfl dX11_askTicks_19 ?_
    have L20 : ∀ n_20 : Nat, ∀ (s_20 : sg_M) (x1_20 : Int), sg_R x1_20 → fX11_askTicks_L20 La Q n_20 s_20 x1_20 → sg_W p l e (sg_rm 6 0 0) s m args below meth c (MQ below (sg_Q (none) G La s.heap.size (sg_HV La Q)) args s 0 0 (sg_A La s.heap.size)) 2 G (sg_A La s.heap.size) La s_20 0 0 20 [(0, sg_r 0), (1, sg_i x1_20)] [] := by
      intro n_20
      induction n_20 with
      | zero => intro s_20 x1_20 r1_20 hf; exact hf.elim
      | succ n_20 ih =>
        intro s_20 x1_20 r1_20 hf
        unfold fX11_askTicks_L20 at hf
        refine gw_iload_n F 1 rfl rfl dX11_askTicks_20 ?_
        refine gw_aload_n F 0 rfl rfl (by decide) dX11_askTicks_21 ?_
        refine gw_get7 F (so_0 hst) (by decide) rfl sg_lay_RX11 (j := 2) (by decide) (o1 := 4) (by first | rfl | omega) rfl (host := "") (.inl kw_328) dX11_askTicks_22 (fun h6 => ?_)
        refine gw_get4 F (so_4 hst) (by decide) rfl sg_lay_RX7 (j := 1) (by decide) rfl (.inr kw_236) dX11_askTicks_25 (fun h7 => ?_)
        obtain ⟨g8, hf⟩ := hf
        have t9 := sg_nn h7 g8
        refine gw_get0 F t9 (by decide) rfl sg_lay_RX3 (j := 2) (by decide) rfl (.inr kw_181) dX11_askTicks_28 (fun h10 => ?_)
        refine gw_icmp_gt F (tgt := 99) dX11_askTicks_31 (by decide) r1_20 h10 (fun c11 => ?_) (fun c11 => ?_)
        · have hf := hf.1 c11
          refine gw_aload_n F 0 rfl rfl (by decide) dX11_askTicks_99 ?_
          refine gw_get7 F (so_0 hst) (by decide) rfl sg_lay_RX11 (j := 15) (by decide) (o1 := 62) (by first | rfl | omega) rfl (host := "") (.inl kw_341) dX11_askTicks_100 (fun h12 => ?_)
          refine gw_iconst F dX11_askTicks_103 ?_
          obtain ⟨s13, e14⟩ : ∃ z : sg_M, z = sg_up s_20 62 2 1 := ⟨_, rfl⟩
          have hf := hf s13 e14
          refine gw_put1 F (so_62 hst) (by decide) rfl sg_lay_RX4 (j := 2) (by decide) (by decide) e14 tyX4_ok nmX4 rfl (tyX4_ok 2 (by decide)) rfl (.inr kw_206) dX11_askTicks_104 ?_
          exact gr_HV F hf (by decide) (by decide) dX11_askTicks_107
        · have hf := hf.2 c11
          refine gw_aload_n F 0 rfl rfl (by decide) dX11_askTicks_34 ?_
          refine gw_aload_n F 0 rfl rfl (by decide) dX11_askTicks_35 ?_
          refine gw_get7 F (so_0 hst) (by decide) rfl sg_lay_RX11 (j := 2) (by decide) (o1 := 4) (by first | rfl | omega) rfl (host := "") (.inl kw_328) dX11_askTicks_36 (fun h15 => ?_)
          refine gw_get4 F (so_4 hst) (by decide) rfl sg_lay_RX7 (j := 0) (by decide) rfl (.inr kw_234) dX11_askTicks_39 (fun h16 => ?_)
          refine gw_aload_n F 0 rfl rfl (by decide) dX11_askTicks_42 ?_
          refine gw_get7 F (so_0 hst) (by decide) rfl sg_lay_RX11 (j := 2) (by decide) (o1 := 4) (by first | rfl | omega) rfl (host := "") (.inl kw_328) dX11_askTicks_43 (fun h17 => ?_)
          refine gw_get4 F (so_4 hst) (by decide) rfl sg_lay_RX7 (j := 1) (by decide) rfl (.inr kw_236) dX11_askTicks_46 (fun h18 => ?_)
          refine gw_iload_n F 1 rfl rfl dX11_askTicks_49 ?_
          obtain ⟨g19, hf⟩ := hf
          have t20 := sg_nn h18 g19
          refine gk_PI F (gc_V F (S := [sg_r (s_20 4 0), sg_r 0]) (As := [sg_i x1_20]) (T := TX3) (N := 5) (CX3_knee t20 r1_20 hf) t20 (by decide) rfl kw_838 kw_95 kw_835 kw_836 kw_837 hcX3_knee ⟨by decide, by decide⟩ rfl rfl (Nat.le_of_ble_eq_true rfl) ⟨by decide, by decide⟩ dX11_askTicks_50) (fun u21 h22 hf => ?_)
          refine gw_aload_n F 0 rfl rfl (by decide) dX11_askTicks_53 ?_
          refine gw_get7 F (so_0 hst) (by decide) rfl sg_lay_RX11 (j := 2) (by decide) (o1 := 4) (by first | rfl | omega) rfl (host := "") (.inl kw_328) dX11_askTicks_54 (fun h23 => ?_)
          refine gw_get4 F (so_4 hst) (by decide) rfl sg_lay_RX7 (j := 1) (by decide) rfl (.inr kw_236) dX11_askTicks_57 (fun h24 => ?_)
          refine gw_iload_n F 1 rfl rfl dX11_askTicks_60 ?_
          obtain ⟨g25, hf⟩ := hf
          have t26 := sg_nn h24 g25
          refine gk_PI F (gc_V F (S := [sg_i u21, sg_r (s_20 4 0), sg_r 0]) (As := [sg_i x1_20]) (T := TX3) (N := 5) (CX3_tip t26 r1_20 hf) t26 (by decide) rfl kw_842 kw_95 kw_839 kw_840 kw_841 hcX3_tip ⟨by decide, by decide⟩ rfl rfl (Nat.le_of_ble_eq_true rfl) ⟨by decide, by decide⟩ dX11_askTicks_61) (fun u27 h28 hf => ?_)
          obtain ⟨g29, hf⟩ := hf
          have t30 := sg_nn h16 g29
          refine gk_HV F (gc_V F (S := []) (As := [sg_r (s_20 4 0), sg_i u21, sg_i u27]) (T := TX11) (N := 19) (CX11_listenTo hst t30 h22 h28 hf) (so_0 hst) (by decide) rfl kw_655 kw_90 kw_653 kw_654 kw_20 hcX11_listenTo ⟨by decide, by decide⟩ rfl rfl (Nat.le_of_ble_eq_true rfl) ⟨by decide, by decide⟩ dX11_askTicks_64) (fun s31 hf => ?_)
          refine gw_aload_n F 0 rfl rfl (by decide) dX11_askTicks_67 ?_
          refine gw_get7 F (so_0 hst) (by decide) rfl sg_lay_RX11 (j := 2) (by decide) (o1 := 4) (by first | rfl | omega) rfl (host := "") (.inl kw_328) dX11_askTicks_68 (fun h32 => ?_)
          refine gw_get4 F (so_4 hst) (by decide) rfl sg_lay_RX7 (j := 2) (by decide) rfl (.inr kw_238) dX11_askTicks_71 (fun h33 => ?_)
          refine gw_aload_n F 0 rfl rfl (by decide) dX11_askTicks_74 ?_
          refine gw_get7 F (so_0 hst) (by decide) rfl sg_lay_RX11 (j := 5) (by decide) (o1 := 32) (by first | rfl | omega) rfl (host := "") (.inl kw_331) dX11_askTicks_75 (fun h34 => ?_)
          refine gw_iload_n F 1 rfl rfl dX11_askTicks_78 ?_
          obtain ⟨g35, hf⟩ := hf
          have t36 := sg_nn h33 g35
          refine gk_PZ F (gc_V F (S := []) (As := [sg_r 32, sg_i x1_20]) (T := TX5) (N := 4) (CX5_holds hst t36 r1_20 hf) t36 (by decide) rfl kw_846 kw_96 kw_843 kw_844 kw_845 hcX5_holds ⟨by decide, by decide⟩ rfl rfl (Nat.le_of_ble_eq_true rfl) ⟨by decide, by decide⟩ dX11_askTicks_79) (fun u37 h38 hf => ?_)
          have J93 : ∀ (s_93 : sg_M), (fX11_askTicks_j93 x1_20 (fX11_askTicks_L20 La Q n_20)) s_93 → sg_W p l e (sg_rm 6 0 0) s m args below meth c (MQ below (sg_Q (none) G La s.heap.size (sg_HV La Q)) args s 0 0 (sg_A La s.heap.size)) 2 G (sg_A La s.heap.size) La s_93 0 0 93 [(0, sg_r 0), (1, sg_i x1_20)] [] := by
            intro s_93 hf
            unfold fX11_askTicks_j93 at hf
            refine gw_iinc F (z := (x1_20 + 1)) 1 rfl (by omega) (by decide) rfl dX11_askTicks_93 ?_
            refine gw_goto F (tgt := 20) dX11_askTicks_96 (by decide) ?_
            obtain ⟨g39, hf⟩ := hf
            refine gw_sub [1, 0] rfl ?_
            exact ih s_93 (x1_20 + 1) g39 hf
          refine gw_if_eq F (tgt := 93) dX11_askTicks_82 (by decide) (sg_B_R h38) (fun c40 => ?_) (fun c40 => ?_)
          · have hf := hf.1 c40
            refine gw_sub [0, 1] rfl ?_
            exact J93 s31 hf
          · have hf := hf.2 c40
            refine gw_aload_n F 0 rfl rfl (by decide) dX11_askTicks_85 ?_
            refine gw_get7 F (so_0 hst) (by decide) rfl sg_lay_RX11 (j := 15) (by decide) (o1 := 62) (by first | rfl | omega) rfl (host := "") (.inl kw_341) dX11_askTicks_86 (fun h41 => ?_)
            refine gw_iload_n F 1 rfl rfl dX11_askTicks_89 ?_
            refine gk_HV F (gc_V F (S := []) (As := [sg_i x1_20]) (T := TX4) (N := 3) (CX4_add (so_62 hst) r1_20 hf) (so_62 hst) (by decide) rfl kw_538 kw_97 kw_663 kw_536 kw_537 hcX4_add ⟨by decide, by decide⟩ rfl rfl (Nat.le_of_ble_eq_true rfl) ⟨by decide, by decide⟩ dX11_askTicks_90) (fun s42 hf => ?_)
            refine gw_sub [0, 1] rfl ?_
            exact J93 s42 hf
    obtain ⟨n43, hf⟩ := hf
    refine gw_sub [1, 0] rfl ?_
    refine L20   n43 s5 1 (by decide) hf
  · have hf := hf.2 c3
    exact gr_HV F hf (by decide) (by decide) dX11_askTicks_10

theorem dX11_bow_0 : decode cX11_bow 0 = .ok (.aload_n 0, 1) := by decide +kernel
theorem dX11_bow_1 : decode cX11_bow 1 = .ok (.getfield 61, 3) := by decide +kernel
theorem dX11_bow_4 : decode cX11_bow 4 = .ok (.getfield 208, 3) := by decide +kernel
theorem dX11_bow_7 : decode cX11_bow 7 = .ok (.iload_n 1, 1) := by decide +kernel
theorem dX11_bow_8 : decode cX11_bow 8 = .ok (.invokevirtual 182, 3) := by decide +kernel
theorem dX11_bow_11 : decode cX11_bow 11 = .ok (.ireturn, 1) := by decide +kernel
theorem hcX11_bow : yX11_bow.cls ≠ "java/lang/invoke/MethodHandle" ∧ yX11_bow.cls ≠ "java/lang/invoke/VarHandle" ∧ (parseMethodDescriptor yX11_bow.desc).map (fun d => d.parameters.length) = some 1 := ⟨by decide +kernel, by decide +kernel, by decide +kernel⟩
def fX11_bow (La : sg_L) (s0 : sg_M) (x1 : Int) (Q : Int → Prop) : Prop := fX4_at La s0 38 x1 (fun u3 => Q u3)
set_option maxHeartbeats 4000000 in
set_option maxRecDepth 100000 in
theorem CX11_bow {l : Launch} {G : sg_G} {La : sg_L} {s0 : sg_M} (hst : sg_St La) {x1 : Int} (r1 : sg_R x1) {Q : Int → Prop} (hf : fX11_bow La s0 x1 Q) : sg_C l G yX11_bow cX11_bow 2 (some .int) 2 0 0 La s0 [sg_r 0, sg_i x1] (sg_PI La s0 Q) := by
  refine sg_body (by decide +kernel) (Nat.le_of_ble_eq_true rfl) ?_
  intro p e s m args below meth c F hnm
  unfold fX11_bow at hf
  show sg_W p l e (sg_rm 2 0 0) s m args below meth c (MQ below (sg_Q (some .int) G La s.heap.size (sg_PI La s0 Q)) args s 0 0 (sg_A La s.heap.size)) 2 G (sg_A La s.heap.size) La s0 0 0 0 [(0, sg_r 0), (1, sg_i x1)] []
  refine gw_aload_n F 0 rfl rfl (by decide) dX11_bow_0 ?_
  refine gw_get7 F (so_0 hst) (by decide) rfl sg_lay_RX11 (j := 6) (by decide) (o1 := 37) (by first | rfl | omega) rfl (host := "") (.inl kw_332) dX11_bow_1 (fun h1 => ?_)
  refine gw_get3 F (so_37 hst) (by decide) rfl sg_lay_RX10 (j := 0) (by decide) (o1 := 38) (by first | rfl | omega) rfl (.inr kw_284) dX11_bow_4 (fun h2 => ?_)
  refine gw_iload_n F 1 rfl rfl dX11_bow_7 ?_
  refine gk_PI F (gc_V F (S := []) (As := [sg_i x1]) (T := TX4) (N := 3) (CX4_at (so_38 hst) r1 hf) (so_38 hst) (by decide) rfl kw_546 kw_97 kw_543 kw_544 kw_545 hcX4_at ⟨by decide, by decide⟩ rfl rfl (Nat.le_of_ble_eq_true rfl) ⟨by decide, by decide⟩ dX11_bow_8) (fun u3 h4 hf => ?_)
  exact gr_PI F h4 hf (by decide) (by decide) dX11_bow_11

theorem dX5_leafAt_0 : decode cX5_leafAt 0 = .ok (.aload_n 0, 1) := by decide +kernel
theorem dX5_leafAt_1 : decode cX5_leafAt 1 = .ok (.ldc 91, 2) := by decide +kernel
theorem dX5_leafAt_3 : decode cX5_leafAt 3 = .ok (.invokevirtual 67, 3) := by decide +kernel
theorem dX5_leafAt_6 : decode cX5_leafAt 6 = .ok (.ifCond .eq 5, 3) := by decide +kernel
theorem dX5_leafAt_9 : decode cX5_leafAt 9 = .ok (.iconst 0, 1) := by decide +kernel
theorem dX5_leafAt_10 : decode cX5_leafAt 10 = .ok (.ireturn, 1) := by decide +kernel
theorem dX5_leafAt_11 : decode cX5_leafAt 11 = .ok (.aload_n 0, 1) := by decide +kernel
theorem dX5_leafAt_12 : decode cX5_leafAt 12 = .ok (.ldc 93, 2) := by decide +kernel
theorem dX5_leafAt_14 : decode cX5_leafAt 14 = .ok (.invokevirtual 67, 3) := by decide +kernel
theorem dX5_leafAt_17 : decode cX5_leafAt 17 = .ok (.ifCond .eq 5, 3) := by decide +kernel
theorem dX5_leafAt_20 : decode cX5_leafAt 20 = .ok (.iconst 1, 1) := by decide +kernel
theorem dX5_leafAt_21 : decode cX5_leafAt 21 = .ok (.ireturn, 1) := by decide +kernel
theorem dX5_leafAt_22 : decode cX5_leafAt 22 = .ok (.aload_n 0, 1) := by decide +kernel
theorem dX5_leafAt_23 : decode cX5_leafAt 23 = .ok (.ldc 95, 2) := by decide +kernel
theorem dX5_leafAt_25 : decode cX5_leafAt 25 = .ok (.invokevirtual 67, 3) := by decide +kernel
theorem dX5_leafAt_28 : decode cX5_leafAt 28 = .ok (.ifCond .eq 5, 3) := by decide +kernel
theorem dX5_leafAt_31 : decode cX5_leafAt 31 = .ok (.iconst 2, 1) := by decide +kernel
theorem dX5_leafAt_32 : decode cX5_leafAt 32 = .ok (.ireturn, 1) := by decide +kernel
theorem dX5_leafAt_33 : decode cX5_leafAt 33 = .ok (.aload_n 0, 1) := by decide +kernel
theorem dX5_leafAt_34 : decode cX5_leafAt 34 = .ok (.ldc 97, 2) := by decide +kernel
theorem dX5_leafAt_36 : decode cX5_leafAt 36 = .ok (.invokevirtual 67, 3) := by decide +kernel
theorem dX5_leafAt_39 : decode cX5_leafAt 39 = .ok (.ifCond .eq 5, 3) := by decide +kernel
theorem dX5_leafAt_42 : decode cX5_leafAt 42 = .ok (.iconst 3, 1) := by decide +kernel
theorem dX5_leafAt_43 : decode cX5_leafAt 43 = .ok (.ireturn, 1) := by decide +kernel
theorem dX5_leafAt_44 : decode cX5_leafAt 44 = .ok (.aload_n 0, 1) := by decide +kernel
theorem dX5_leafAt_45 : decode cX5_leafAt 45 = .ok (.ldc 99, 2) := by decide +kernel
theorem dX5_leafAt_47 : decode cX5_leafAt 47 = .ok (.invokevirtual 67, 3) := by decide +kernel
theorem dX5_leafAt_50 : decode cX5_leafAt 50 = .ok (.ifCond .eq 5, 3) := by decide +kernel
theorem dX5_leafAt_53 : decode cX5_leafAt 53 = .ok (.iconst 4, 1) := by decide +kernel
theorem dX5_leafAt_54 : decode cX5_leafAt 54 = .ok (.ireturn, 1) := by decide +kernel
theorem dX5_leafAt_55 : decode cX5_leafAt 55 = .ok (.aload_n 0, 1) := by decide +kernel
theorem dX5_leafAt_56 : decode cX5_leafAt 56 = .ok (.ldc 101, 2) := by decide +kernel
theorem dX5_leafAt_58 : decode cX5_leafAt 58 = .ok (.invokevirtual 67, 3) := by decide +kernel
theorem dX5_leafAt_61 : decode cX5_leafAt 61 = .ok (.ifCond .eq 5, 3) := by decide +kernel
theorem dX5_leafAt_64 : decode cX5_leafAt 64 = .ok (.iconst 5, 1) := by decide +kernel
theorem dX5_leafAt_65 : decode cX5_leafAt 65 = .ok (.ireturn, 1) := by decide +kernel
theorem dX5_leafAt_66 : decode cX5_leafAt 66 = .ok (.aload_n 0, 1) := by decide +kernel
theorem dX5_leafAt_67 : decode cX5_leafAt 67 = .ok (.ldc 103, 2) := by decide +kernel
theorem dX5_leafAt_69 : decode cX5_leafAt 69 = .ok (.invokevirtual 67, 3) := by decide +kernel
theorem dX5_leafAt_72 : decode cX5_leafAt 72 = .ok (.ifCond .eq 6, 3) := by decide +kernel
theorem dX5_leafAt_75 : decode cX5_leafAt 75 = .ok (.bipush 6, 2) := by decide +kernel
theorem dX5_leafAt_77 : decode cX5_leafAt 77 = .ok (.ireturn, 1) := by decide +kernel
theorem dX5_leafAt_78 : decode cX5_leafAt 78 = .ok (.aload_n 0, 1) := by decide +kernel
theorem dX5_leafAt_79 : decode cX5_leafAt 79 = .ok (.ldc 105, 2) := by decide +kernel
theorem dX5_leafAt_81 : decode cX5_leafAt 81 = .ok (.invokevirtual 67, 3) := by decide +kernel
theorem dX5_leafAt_84 : decode cX5_leafAt 84 = .ok (.ifCond .eq 6, 3) := by decide +kernel
theorem dX5_leafAt_87 : decode cX5_leafAt 87 = .ok (.bipush 7, 2) := by decide +kernel
theorem dX5_leafAt_89 : decode cX5_leafAt 89 = .ok (.ireturn, 1) := by decide +kernel
theorem dX5_leafAt_90 : decode cX5_leafAt 90 = .ok (.aload_n 0, 1) := by decide +kernel
theorem dX5_leafAt_91 : decode cX5_leafAt 91 = .ok (.ldc 107, 2) := by decide +kernel
theorem dX5_leafAt_93 : decode cX5_leafAt 93 = .ok (.invokevirtual 67, 3) := by decide +kernel
theorem dX5_leafAt_96 : decode cX5_leafAt 96 = .ok (.ifCond .eq 8, 3) := by decide +kernel
theorem dX5_leafAt_99 : decode cX5_leafAt 99 = .ok (.bipush 8, 2) := by decide +kernel
theorem dX5_leafAt_101 : decode cX5_leafAt 101 = .ok (.goto 4, 3) := by decide +kernel
theorem dX5_leafAt_104 : decode cX5_leafAt 104 = .ok (.iconst (-1), 1) := by decide +kernel
theorem dX5_leafAt_105 : decode cX5_leafAt 105 = .ok (.ireturn, 1) := by decide +kernel
theorem hcX5_leafAt : yX5_leafAt.cls ≠ "java/lang/invoke/MethodHandle" ∧ yX5_leafAt.cls ≠ "java/lang/invoke/VarHandle" ∧ (parseMethodDescriptor yX5_leafAt.desc).map (fun d => d.parameters.length) = some 1 := ⟨by decide +kernel, by decide +kernel, by decide +kernel⟩
def fX5_leafAt (s0 : sg_M) (Q : Int → Prop) : Prop := fX9_isWord s0 10 (fun u1 => ((u1 = 0 → fX9_isWord s0 11 (fun u4 => ((u4 = 0 → fX9_isWord s0 12 (fun u7 => ((u7 = 0 → fX9_isWord s0 13 (fun u10 => ((u10 = 0 → fX9_isWord s0 14 (fun u13 => ((u13 = 0 → fX9_isWord s0 15 (fun u16 => ((u16 = 0 → fX9_isWord s0 16 (fun u19 => ((u19 = 0 → fX9_isWord s0 17 (fun u22 => ((u22 = 0 → fX9_isWord s0 18 (fun u25 => ((u25 = 0 → Q (-1)) ∧ (¬ (u25 = 0) → Q 8)))) ∧ (¬ (u22 = 0) → Q 7)))) ∧ (¬ (u19 = 0) → Q 6)))) ∧ (¬ (u16 = 0) → Q 5)))) ∧ (¬ (u13 = 0) → Q 4)))) ∧ (¬ (u10 = 0) → Q 3)))) ∧ (¬ (u7 = 0) → Q 2)))) ∧ (¬ (u4 = 0) → Q 1)))) ∧ (¬ (u1 = 0) → Q 0)))
set_option maxHeartbeats 4000000 in
set_option maxRecDepth 100000 in
theorem CX5_leafAt {l : Launch} {G : sg_G} {La : sg_L} {s0 : sg_M} (hst : sg_St La) {Q : Int → Prop} (hf : fX5_leafAt s0 Q) : sg_C l G yX5_leafAt cX5_leafAt 1 (some .int) 6 0 0 La s0 [sg_r 3] (sg_PI La s0 Q) := by
  refine sg_body (by decide +kernel) (Nat.le_of_ble_eq_true rfl) ?_
  intro p e s m args below meth c F hnm
  unfold fX5_leafAt at hf
  show sg_W p l e (sg_rm 6 0 0) s m args below meth c (MQ below (sg_Q (some .int) G La s.heap.size (sg_PI La s0 Q)) args s 0 0 (sg_A La s.heap.size)) 1 G (sg_A La s.heap.size) La s0 0 0 0 [(0, sg_r 3)] []
  refine gw_aload_n F 0 rfl rfl (by decide) dX5_leafAt_0 ?_
  refine gw_ldcS F (i := 10) rfl dX5_leafAt_1 ?_
  refine gk_PZ F (gc_V F (S := []) (As := [sg_a (G.2.2.1 10)]) (T := TX9) (N := 8) (CX9_isWord hst (by decide) hf) (so_3 hst) (by decide) rfl kw_403 kw_92 kw_812 kw_401 kw_402 hcX9_isWord ⟨by decide, by decide⟩ rfl rfl (Nat.le_of_ble_eq_true rfl) ⟨by decide, by decide⟩ dX5_leafAt_3) (fun u1 h2 hf => ?_)
  refine gw_if_eq F (tgt := 11) dX5_leafAt_6 (by decide) (sg_B_R h2) (fun c3 => ?_) (fun c3 => ?_)
  · have hf := hf.1 c3
    refine gw_aload_n F 0 rfl rfl (by decide) dX5_leafAt_11 ?_
    refine gw_ldcS F (i := 11) rfl dX5_leafAt_12 ?_
    refine gk_PZ F (gc_V F (S := []) (As := [sg_a (G.2.2.1 11)]) (T := TX9) (N := 8) (CX9_isWord hst (by decide) hf) (so_3 hst) (by decide) rfl kw_403 kw_92 kw_812 kw_401 kw_402 hcX9_isWord ⟨by decide, by decide⟩ rfl rfl (Nat.le_of_ble_eq_true rfl) ⟨by decide, by decide⟩ dX5_leafAt_14) (fun u4 h5 hf => ?_)
    refine gw_if_eq F (tgt := 22) dX5_leafAt_17 (by decide) (sg_B_R h5) (fun c6 => ?_) (fun c6 => ?_)
    · have hf := hf.1 c6
      refine gw_aload_n F 0 rfl rfl (by decide) dX5_leafAt_22 ?_
      refine gw_ldcS F (i := 12) rfl dX5_leafAt_23 ?_
      refine gk_PZ F (gc_V F (S := []) (As := [sg_a (G.2.2.1 12)]) (T := TX9) (N := 8) (CX9_isWord hst (by decide) hf) (so_3 hst) (by decide) rfl kw_403 kw_92 kw_812 kw_401 kw_402 hcX9_isWord ⟨by decide, by decide⟩ rfl rfl (Nat.le_of_ble_eq_true rfl) ⟨by decide, by decide⟩ dX5_leafAt_25) (fun u7 h8 hf => ?_)
      refine gw_if_eq F (tgt := 33) dX5_leafAt_28 (by decide) (sg_B_R h8) (fun c9 => ?_) (fun c9 => ?_)
      · have hf := hf.1 c9
        refine gw_aload_n F 0 rfl rfl (by decide) dX5_leafAt_33 ?_
        refine gw_ldcS F (i := 13) rfl dX5_leafAt_34 ?_
        refine gk_PZ F (gc_V F (S := []) (As := [sg_a (G.2.2.1 13)]) (T := TX9) (N := 8) (CX9_isWord hst (by decide) hf) (so_3 hst) (by decide) rfl kw_403 kw_92 kw_812 kw_401 kw_402 hcX9_isWord ⟨by decide, by decide⟩ rfl rfl (Nat.le_of_ble_eq_true rfl) ⟨by decide, by decide⟩ dX5_leafAt_36) (fun u10 h11 hf => ?_)
        refine gw_if_eq F (tgt := 44) dX5_leafAt_39 (by decide) (sg_B_R h11) (fun c12 => ?_) (fun c12 => ?_)
        · have hf := hf.1 c12
          refine gw_aload_n F 0 rfl rfl (by decide) dX5_leafAt_44 ?_
          refine gw_ldcS F (i := 14) rfl dX5_leafAt_45 ?_
          refine gk_PZ F (gc_V F (S := []) (As := [sg_a (G.2.2.1 14)]) (T := TX9) (N := 8) (CX9_isWord hst (by decide) hf) (so_3 hst) (by decide) rfl kw_403 kw_92 kw_812 kw_401 kw_402 hcX9_isWord ⟨by decide, by decide⟩ rfl rfl (Nat.le_of_ble_eq_true rfl) ⟨by decide, by decide⟩ dX5_leafAt_47) (fun u13 h14 hf => ?_)
          refine gw_if_eq F (tgt := 55) dX5_leafAt_50 (by decide) (sg_B_R h14) (fun c15 => ?_) (fun c15 => ?_)
          · have hf := hf.1 c15
            refine gw_aload_n F 0 rfl rfl (by decide) dX5_leafAt_55 ?_
            refine gw_ldcS F (i := 15) rfl dX5_leafAt_56 ?_
            refine gk_PZ F (gc_V F (S := []) (As := [sg_a (G.2.2.1 15)]) (T := TX9) (N := 8) (CX9_isWord hst (by decide) hf) (so_3 hst) (by decide) rfl kw_403 kw_92 kw_812 kw_401 kw_402 hcX9_isWord ⟨by decide, by decide⟩ rfl rfl (Nat.le_of_ble_eq_true rfl) ⟨by decide, by decide⟩ dX5_leafAt_58) (fun u16 h17 hf => ?_)
            refine gw_if_eq F (tgt := 66) dX5_leafAt_61 (by decide) (sg_B_R h17) (fun c18 => ?_) (fun c18 => ?_)
            · have hf := hf.1 c18
              refine gw_aload_n F 0 rfl rfl (by decide) dX5_leafAt_66 ?_
              refine gw_ldcS F (i := 16) rfl dX5_leafAt_67 ?_
              refine gk_PZ F (gc_V F (S := []) (As := [sg_a (G.2.2.1 16)]) (T := TX9) (N := 8) (CX9_isWord hst (by decide) hf) (so_3 hst) (by decide) rfl kw_403 kw_92 kw_812 kw_401 kw_402 hcX9_isWord ⟨by decide, by decide⟩ rfl rfl (Nat.le_of_ble_eq_true rfl) ⟨by decide, by decide⟩ dX5_leafAt_69) (fun u19 h20 hf => ?_)
              refine gw_if_eq F (tgt := 78) dX5_leafAt_72 (by decide) (sg_B_R h20) (fun c21 => ?_) (fun c21 => ?_)
              · have hf := hf.1 c21
                refine gw_aload_n F 0 rfl rfl (by decide) dX5_leafAt_78 ?_
                refine gw_ldcS F (i := 17) rfl dX5_leafAt_79 ?_
                refine gk_PZ F (gc_V F (S := []) (As := [sg_a (G.2.2.1 17)]) (T := TX9) (N := 8) (CX9_isWord hst (by decide) hf) (so_3 hst) (by decide) rfl kw_403 kw_92 kw_812 kw_401 kw_402 hcX9_isWord ⟨by decide, by decide⟩ rfl rfl (Nat.le_of_ble_eq_true rfl) ⟨by decide, by decide⟩ dX5_leafAt_81) (fun u22 h23 hf => ?_)
                refine gw_if_eq F (tgt := 90) dX5_leafAt_84 (by decide) (sg_B_R h23) (fun c24 => ?_) (fun c24 => ?_)
                · have hf := hf.1 c24
                  refine gw_aload_n F 0 rfl rfl (by decide) dX5_leafAt_90 ?_
                  refine gw_ldcS F (i := 18) rfl dX5_leafAt_91 ?_
                  refine gk_PZ F (gc_V F (S := []) (As := [sg_a (G.2.2.1 18)]) (T := TX9) (N := 8) (CX9_isWord hst (by decide) hf) (so_3 hst) (by decide) rfl kw_403 kw_92 kw_812 kw_401 kw_402 hcX9_isWord ⟨by decide, by decide⟩ rfl rfl (Nat.le_of_ble_eq_true rfl) ⟨by decide, by decide⟩ dX5_leafAt_93) (fun u25 h26 hf => ?_)
                  refine gw_if_eq F (tgt := 104) dX5_leafAt_96 (by decide) (sg_B_R h26) (fun c27 => ?_) (fun c27 => ?_)
                  · have hf := hf.1 c27
                    refine gw_iconst F dX5_leafAt_104 ?_
                    exact gr_PI F (by decide) hf (by decide) (by decide) dX5_leafAt_105
                  · have hf := hf.2 c27
                    refine gw_bipush F rfl dX5_leafAt_99 ?_
                    refine gw_goto F (tgt := 105) dX5_leafAt_101 (by decide) ?_
                    exact gr_PI F (by decide) hf (by decide) (by decide) dX5_leafAt_105
                · have hf := hf.2 c24
                  refine gw_bipush F rfl dX5_leafAt_87 ?_
                  exact gr_PI F (by decide) hf (by decide) (by decide) dX5_leafAt_89
              · have hf := hf.2 c21
                refine gw_bipush F rfl dX5_leafAt_75 ?_
                exact gr_PI F (by decide) hf (by decide) (by decide) dX5_leafAt_77
            · have hf := hf.2 c18
              refine gw_iconst F dX5_leafAt_64 ?_
              exact gr_PI F (by decide) hf (by decide) (by decide) dX5_leafAt_65
          · have hf := hf.2 c15
            refine gw_iconst F dX5_leafAt_53 ?_
            exact gr_PI F (by decide) hf (by decide) (by decide) dX5_leafAt_54
        · have hf := hf.2 c12
          refine gw_iconst F dX5_leafAt_42 ?_
          exact gr_PI F (by decide) hf (by decide) (by decide) dX5_leafAt_43
      · have hf := hf.2 c9
        refine gw_iconst F dX5_leafAt_31 ?_
        exact gr_PI F (by decide) hf (by decide) (by decide) dX5_leafAt_32
    · have hf := hf.2 c6
      refine gw_iconst F dX5_leafAt_20 ?_
      exact gr_PI F (by decide) hf (by decide) (by decide) dX5_leafAt_21
  · have hf := hf.2 c3
    refine gw_iconst F dX5_leafAt_9 ?_
    exact gr_PI F (by decide) hf (by decide) (by decide) dX5_leafAt_10

theorem dX11_range_0 : decode cX11_range 0 = .ok (.aload_n 0, 1) := by decide +kernel
theorem dX11_range_1 : decode cX11_range 1 = .ok (.invokevirtual 251, 3) := by decide +kernel
theorem dX11_range_4 : decode cX11_range 4 = .ok (.iconst (-1), 1) := by decide +kernel
theorem dX11_range_5 : decode cX11_range 5 = .ok (.istore_n 2, 1) := by decide +kernel
theorem dX11_range_6 : decode cX11_range 6 = .ok (.iconst (-1), 1) := by decide +kernel
theorem dX11_range_7 : decode cX11_range 7 = .ok (.istore_n 3, 1) := by decide +kernel
theorem dX11_range_8 : decode cX11_range 8 = .ok (.iconst 0, 1) := by decide +kernel
theorem dX11_range_9 : decode cX11_range 9 = .ok (.istore 4, 2) := by decide +kernel
theorem dX11_range_11 : decode cX11_range 11 = .ok (.iload 4, 2) := by decide +kernel
theorem dX11_range_13 : decode cX11_range 13 = .ok (.aload_n 0, 1) := by decide +kernel
theorem dX11_range_14 : decode cX11_range 14 = .ok (.getfield 93, 3) := by decide +kernel
theorem dX11_range_17 : decode cX11_range 17 = .ok (.getfield 181, 3) := by decide +kernel
theorem dX11_range_20 : decode cX11_range 20 = .ok (.if_icmp .ge 75, 3) := by decide +kernel
theorem dX11_range_23 : decode cX11_range 23 = .ok (.aload_n 0, 1) := by decide +kernel
theorem dX11_range_24 : decode cX11_range 24 = .ok (.getfield 93, 3) := by decide +kernel
theorem dX11_range_27 : decode cX11_range 27 = .ok (.iload 4, 2) := by decide +kernel
theorem dX11_range_29 : decode cX11_range 29 = .ok (.invokevirtual 182, 3) := by decide +kernel
theorem dX11_range_32 : decode cX11_range 32 = .ok (.istore 5, 2) := by decide +kernel
theorem dX11_range_34 : decode cX11_range 34 = .ok (.iload 5, 2) := by decide +kernel
theorem dX11_range_36 : decode cX11_range 36 = .ok (.ifCond .le 53, 3) := by decide +kernel
theorem dX11_range_39 : decode cX11_range 39 = .ok (.iload_n 2, 1) := by decide +kernel
theorem dX11_range_40 : decode cX11_range 40 = .ok (.iconst (-1), 1) := by decide +kernel
theorem dX11_range_41 : decode cX11_range 41 = .ok (.if_icmp .eq 16, 3) := by decide +kernel
theorem dX11_range_44 : decode cX11_range 44 = .ok (.iload 5, 2) := by decide +kernel
theorem dX11_range_46 : decode cX11_range 46 = .ok (.aload_n 0, 1) := by decide +kernel
theorem dX11_range_47 : decode cX11_range 47 = .ok (.getfield 93, 3) := by decide +kernel
theorem dX11_range_50 : decode cX11_range 50 = .ok (.iload_n 2, 1) := by decide +kernel
theorem dX11_range_51 : decode cX11_range 51 = .ok (.invokevirtual 182, 3) := by decide +kernel
theorem dX11_range_54 : decode cX11_range 54 = .ok (.if_icmp .ge 8, 3) := by decide +kernel
theorem dX11_range_57 : decode cX11_range 57 = .ok (.iload 4, 2) := by decide +kernel
theorem dX11_range_59 : decode cX11_range 59 = .ok (.goto 4, 3) := by decide +kernel
theorem dX11_range_62 : decode cX11_range 62 = .ok (.iload_n 2, 1) := by decide +kernel
theorem dX11_range_63 : decode cX11_range 63 = .ok (.istore_n 2, 1) := by decide +kernel
theorem dX11_range_64 : decode cX11_range 64 = .ok (.iload_n 3, 1) := by decide +kernel
theorem dX11_range_65 : decode cX11_range 65 = .ok (.iconst (-1), 1) := by decide +kernel
theorem dX11_range_66 : decode cX11_range 66 = .ok (.if_icmp .eq 16, 3) := by decide +kernel
theorem dX11_range_69 : decode cX11_range 69 = .ok (.iload 5, 2) := by decide +kernel
theorem dX11_range_71 : decode cX11_range 71 = .ok (.aload_n 0, 1) := by decide +kernel
theorem dX11_range_72 : decode cX11_range 72 = .ok (.getfield 93, 3) := by decide +kernel
theorem dX11_range_75 : decode cX11_range 75 = .ok (.iload_n 3, 1) := by decide +kernel
theorem dX11_range_76 : decode cX11_range 76 = .ok (.invokevirtual 182, 3) := by decide +kernel
theorem dX11_range_79 : decode cX11_range 79 = .ok (.if_icmp .le 8, 3) := by decide +kernel
theorem dX11_range_82 : decode cX11_range 82 = .ok (.iload 4, 2) := by decide +kernel
theorem dX11_range_84 : decode cX11_range 84 = .ok (.goto 4, 3) := by decide +kernel
theorem dX11_range_87 : decode cX11_range 87 = .ok (.iload_n 3, 1) := by decide +kernel
theorem dX11_range_88 : decode cX11_range 88 = .ok (.istore_n 3, 1) := by decide +kernel
theorem dX11_range_89 : decode cX11_range 89 = .ok (.iinc 4 1, 3) := by decide +kernel
theorem dX11_range_92 : decode cX11_range 92 = .ok (.goto (-81), 3) := by decide +kernel
theorem dX11_range_95 : decode cX11_range 95 = .ok (.iload_n 1, 1) := by decide +kernel
theorem dX11_range_96 : decode cX11_range 96 = .ok (.tableswitch 54 0 3 #[32, 41, 50, 52], 32) := by decide +kernel
theorem dX11_range_128 : decode cX11_range 128 = .ok (.aload_n 0, 1) := by decide +kernel
theorem dX11_range_129 : decode cX11_range 129 = .ok (.getfield 93, 3) := by decide +kernel
theorem dX11_range_132 : decode cX11_range 132 = .ok (.iload_n 2, 1) := by decide +kernel
theorem dX11_range_133 : decode cX11_range 133 = .ok (.invokevirtual 182, 3) := by decide +kernel
theorem dX11_range_136 : decode cX11_range 136 = .ok (.ireturn, 1) := by decide +kernel
theorem dX11_range_137 : decode cX11_range 137 = .ok (.aload_n 0, 1) := by decide +kernel
theorem dX11_range_138 : decode cX11_range 138 = .ok (.getfield 93, 3) := by decide +kernel
theorem dX11_range_141 : decode cX11_range 141 = .ok (.iload_n 3, 1) := by decide +kernel
theorem dX11_range_142 : decode cX11_range 142 = .ok (.invokevirtual 182, 3) := by decide +kernel
theorem dX11_range_145 : decode cX11_range 145 = .ok (.ireturn, 1) := by decide +kernel
theorem dX11_range_146 : decode cX11_range 146 = .ok (.iload_n 2, 1) := by decide +kernel
theorem dX11_range_147 : decode cX11_range 147 = .ok (.ireturn, 1) := by decide +kernel
theorem dX11_range_148 : decode cX11_range 148 = .ok (.iload_n 3, 1) := by decide +kernel
theorem dX11_range_149 : decode cX11_range 149 = .ok (.ireturn, 1) := by decide +kernel
theorem dX11_range_150 : decode cX11_range 150 = .ok (.iconst (-1), 1) := by decide +kernel
theorem dX11_range_151 : decode cX11_range 151 = .ok (.ireturn, 1) := by decide +kernel
theorem hcX11_range : yX11_range.cls ≠ "java/lang/invoke/MethodHandle" ∧ yX11_range.cls ≠ "java/lang/invoke/VarHandle" ∧ (parseMethodDescriptor yX11_range.desc).map (fun d => d.parameters.length) = some 1 := ⟨by decide +kernel, by decide +kernel, by decide +kernel⟩
def fX11_range_j89 (x4_11 : Int) (k11 : Int → Int → Int → Prop) (x2_89 : Int) (x3_89 : Int) : Prop := sg_R (x4_11 + 1) ∧ k11 x2_89 x3_89 (x4_11 + 1)
def fX11_range_j88 (y0_63 : Int) (k89 : Int → Int → Prop) (y0_88 : Int) : Prop := k89 y0_63 y0_88
def fX11_range_j82 (x4_11 : Int) (k88 : Int → Prop)  : Prop := k88 x4_11
def fX11_range_j63 (La : sg_L) (s1 : sg_M) (x3_11 : Int) (x4_11 : Int) (u6 : Int) (k89 : Int → Int → Prop) (y0_63 : Int) : Prop := ((x3_11 = (-1) → (fX11_range_j82 x4_11 (fX11_range_j88 y0_63 k89))) ∧ (¬ (x3_11 = (-1)) → fX4_at La s1 58 x3_11 (fun u12 => ((u6 ≤ u12 → (fX11_range_j88 y0_63 k89) x3_11) ∧ (¬ (u6 ≤ u12) → (fX11_range_j82 x4_11 (fX11_range_j88 y0_63 k89)))))))
def fX11_range_j57 (x4_11 : Int) (k63 : Int → Prop)  : Prop := k63 x4_11
def fX11_range_L11 (La : sg_L) (s1 : sg_M) (k95 : Int → Int → Prop) : Nat → Int → Int → Int → Prop
  | 0, _, _, _ => False
  | n_11 + 1, x2_11, x3_11, x4_11 => (((s1 58 1) ≤ x4_11 → k95 x2_11 x3_11) ∧ (¬ ((s1 58 1) ≤ x4_11) → fX4_at La s1 58 x4_11 (fun u6 => ((u6 ≤ 0 → (fX11_range_j89 x4_11 (fX11_range_L11 La s1 k95 n_11)) x2_11 x3_11) ∧ (¬ (u6 ≤ 0) → ((x2_11 = (-1) → (fX11_range_j57 x4_11 (fX11_range_j63 La s1 x3_11 x4_11 u6 (fX11_range_j89 x4_11 (fX11_range_L11 La s1 k95 n_11))))) ∧ (¬ (x2_11 = (-1)) → fX4_at La s1 58 x2_11 (fun u17 => ((u17 ≤ u6 → (fX11_range_j63 La s1 x3_11 x4_11 u6 (fX11_range_j89 x4_11 (fX11_range_L11 La s1 k95 n_11))) x2_11) ∧ (¬ (u17 ≤ u6) → (fX11_range_j57 x4_11 (fX11_range_j63 La s1 x3_11 x4_11 u6 (fX11_range_j89 x4_11 (fX11_range_L11 La s1 k95 n_11))))))))))))))
def fX11_range (La : sg_L) (s0 : sg_M) (x1 : Int) (Q : Int → sg_M → Prop) : Prop := fX11_hearBook La s0 (fun s1 => (∃ n20 : Nat, fX11_range_L11 La s1 (fun x2_95e11 x3_95e11 => ((x1 < 0 ∨ 3 < x1 → Q (-1) s1) ∧ (x1 = 0 → fX4_at La s1 58 x2_95e11 (fun u23 => Q u23 s1)) ∧ (x1 = 1 → fX4_at La s1 58 x3_95e11 (fun u26 => Q u26 s1)) ∧ (x1 = 2 → Q x2_95e11 s1) ∧ (x1 = 3 → Q x3_95e11 s1))) n20 (-1) (-1) 0))
set_option maxHeartbeats 4000000 in
set_option maxRecDepth 100000 in
theorem CX11_range {l : Launch} {G : sg_G} {La : sg_L} {s0 : sg_M} (hst : sg_St La) {x1 : Int} (r1 : sg_R x1) {Q : Int → sg_M → Prop} (hf : fX11_range La s0 x1 Q) : sg_C l G yX11_range cX11_range 6 (some .int) 7 0 0 La s0 [sg_r 0, sg_i x1] (sg_HI La Q) := by
  refine sg_body (by decide +kernel) (Nat.le_of_ble_eq_true rfl) ?_
  intro p e s m args below meth c F hnm
  unfold fX11_range at hf
  show sg_W p l e (sg_rm 7 0 0) s m args below meth c (MQ below (sg_Q (some .int) G La s.heap.size (sg_HI La Q)) args s 0 0 (sg_A La s.heap.size)) 6 G (sg_A La s.heap.size) La s0 0 0 0 [(0, sg_r 0), (1, sg_i x1)] []
  refine gw_aload_n F 0 rfl rfl (by decide) dX11_range_0 ?_
  refine gk_HV F (gc_V F (S := []) (As := []) (T := TX11) (N := 19) (CX11_hearBook hst hf) (so_0 hst) (by decide) rfl kw_651 kw_90 kw_649 kw_650 kw_19 hcX11_hearBook ⟨by decide, by decide⟩ rfl rfl (Nat.le_of_ble_eq_true rfl) ⟨by decide, by decide⟩ dX11_range_1) (fun s1 hf => ?_)
  refine gw_iconst F dX11_range_4 ?_
  refine gw_istore_n F rfl (by decide) rfl dX11_range_5 ?_
  refine gw_iconst F dX11_range_6 ?_
  refine gw_istore_n F rfl (by decide) rfl dX11_range_7 ?_
  refine gw_iconst F dX11_range_8 ?_
  refine gw_istore F (by decide) rfl dX11_range_9 ?_
  have L11 : ∀ (k95 : Int → Int → Prop) (hk95 : ∀ (x2_95e11 : Int) (x3_95e11 : Int), sg_R x2_95e11 → sg_R x3_95e11 → k95 x2_95e11 x3_95e11 → sg_W p l e (sg_rm 7 0 0) s m args below meth c (MQ below (sg_Q (some .int) G La s.heap.size (sg_HI La Q)) args s 0 0 (sg_A La s.heap.size)) 6 G (sg_A La s.heap.size) La s1 0 0 95 [(0, sg_r 0), (1, sg_i x1), (2, sg_i x2_95e11), (3, sg_i x3_95e11)] []), ∀ n_11 : Nat, ∀ (x2_11 : Int) (x3_11 : Int) (x4_11 : Int), sg_R x2_11 → sg_R x3_11 → sg_R x4_11 → fX11_range_L11 La s1 k95 n_11 x2_11 x3_11 x4_11 → sg_W p l e (sg_rm 7 0 0) s m args below meth c (MQ below (sg_Q (some .int) G La s.heap.size (sg_HI La Q)) args s 0 0 (sg_A La s.heap.size)) 6 G (sg_A La s.heap.size) La s1 0 0 11 [(0, sg_r 0), (1, sg_i x1), (2, sg_i x2_11), (3, sg_i x3_11), (4, sg_i x4_11)] [] := by
    intro k95 hk95 n_11
    induction n_11 with
    | zero => intro x2_11 x3_11 x4_11 r2_11 r3_11 r4_11 hf; exact hf.elim
    | succ n_11 ih =>
      intro x2_11 x3_11 x4_11 r2_11 r3_11 r4_11 hf
      unfold fX11_range_L11 at hf
      refine gw_iload F 4 rfl dX11_range_11 ?_
      refine gw_aload_n F 0 rfl rfl (by decide) dX11_range_13 ?_
      refine gw_get7 F (so_0 hst) (by decide) rfl sg_lay_RX11 (j := 13) (by decide) (o1 := 58) (by first | rfl | omega) rfl (host := "") (.inl kw_339) dX11_range_14 (fun h2 => ?_)
      refine gw_get0 F (so_58 hst) (by decide) rfl sg_lay_RX4 (j := 1) (by decide) rfl (.inr kw_204) dX11_range_17 (fun h3 => ?_)
      refine gw_icmp_ge F (tgt := 95) dX11_range_20 (by decide) r4_11 h3 (fun c4 => ?_) (fun c4 => ?_)
      · have hf := hf.1 c4
        refine gw_sub [0, 1, 2, 3] rfl ?_
        exact hk95 x2_11 x3_11 r2_11 r3_11 hf
      · have hf := hf.2 c4
        refine gw_aload_n F 0 rfl rfl (by decide) dX11_range_23 ?_
        refine gw_get7 F (so_0 hst) (by decide) rfl sg_lay_RX11 (j := 13) (by decide) (o1 := 58) (by first | rfl | omega) rfl (host := "") (.inl kw_339) dX11_range_24 (fun h5 => ?_)
        refine gw_iload F 4 rfl dX11_range_27 ?_
        refine gk_PI F (gc_V F (S := []) (As := [sg_i x4_11]) (T := TX4) (N := 3) (CX4_at (so_58 hst) r4_11 hf) (so_58 hst) (by decide) rfl kw_546 kw_97 kw_543 kw_544 kw_545 hcX4_at ⟨by decide, by decide⟩ rfl rfl (Nat.le_of_ble_eq_true rfl) ⟨by decide, by decide⟩ dX11_range_29) (fun u6 h7 hf => ?_)
        refine gw_istore F (by decide) rfl dX11_range_32 ?_
        refine gw_iload F 0 rfl dX11_range_34 ?_
        have J89 : ∀ (x2_89 : Int) (x3_89 : Int), sg_R x2_89 → sg_R x3_89 → (fX11_range_j89 x4_11 (fX11_range_L11 La s1 k95 n_11)) x2_89 x3_89 → sg_W p l e (sg_rm 7 0 0) s m args below meth c (MQ below (sg_Q (some .int) G La s.heap.size (sg_HI La Q)) args s 0 0 (sg_A La s.heap.size)) 6 G (sg_A La s.heap.size) La s1 0 0 89 [(0, sg_r 0), (1, sg_i x1), (2, sg_i x2_89), (3, sg_i x3_89), (4, sg_i x4_11)] [] := by
          intro x2_89 x3_89 r2_89 r3_89 hf
          unfold fX11_range_j89 at hf
          refine gw_iinc F (z := (x4_11 + 1)) 4 rfl (by omega) (by decide) rfl dX11_range_89 ?_
          refine gw_goto F (tgt := 11) dX11_range_92 (by decide) ?_
          obtain ⟨g8, hf⟩ := hf
          refine gw_sub [1, 2, 3, 4, 0] rfl ?_
          exact ih x2_89 x3_89 (x4_11 + 1) r2_89 r3_89 g8 hf
        refine gw_if_le F (tgt := 89) dX11_range_36 (by decide) h7 (fun c9 => ?_) (fun c9 => ?_)
        · have hf := hf.1 c9
          refine gw_sub [1, 2, 3, 4, 5] rfl ?_
          exact J89 x2_11 x3_11 r2_11 r3_11 hf
        · have hf := hf.2 c9
          refine gw_iload_n F 3 rfl rfl dX11_range_39 ?_
          refine gw_iconst F dX11_range_40 ?_
          have J63 : ∀ (y0_63 : Int), sg_R y0_63 → (fX11_range_j63 La s1 x3_11 x4_11 u6 (fX11_range_j89 x4_11 (fX11_range_L11 La s1 k95 n_11))) y0_63 → sg_W p l e (sg_rm 7 0 0) s m args below meth c (MQ below (sg_Q (some .int) G La s.heap.size (sg_HI La Q)) args s 0 0 (sg_A La s.heap.size)) 6 G (sg_A La s.heap.size) La s1 0 0 63 [(0, sg_r 0), (1, sg_i x1), (3, sg_i x3_11), (4, sg_i x4_11), (5, sg_i u6)] [sg_i y0_63] := by
            intro y0_63 ry0_63 hf
            unfold fX11_range_j63 at hf
            refine gw_istore_n F rfl (by decide) rfl dX11_range_63 ?_
            refine gw_iload_n F 3 rfl rfl dX11_range_64 ?_
            refine gw_iconst F dX11_range_65 ?_
            have J88 : ∀ (y0_88 : Int), sg_R y0_88 → (fX11_range_j88 y0_63 (fX11_range_j89 x4_11 (fX11_range_L11 La s1 k95 n_11))) y0_88 → sg_W p l e (sg_rm 7 0 0) s m args below meth c (MQ below (sg_Q (some .int) G La s.heap.size (sg_HI La Q)) args s 0 0 (sg_A La s.heap.size)) 6 G (sg_A La s.heap.size) La s1 0 0 88 [(0, sg_r 0), (1, sg_i x1), (2, sg_i y0_63), (4, sg_i x4_11)] [sg_i y0_88] := by
              intro y0_88 ry0_88 hf
              unfold fX11_range_j88 at hf
              refine gw_istore_n F rfl (by decide) rfl dX11_range_88 ?_
              refine gw_sub [1, 2, 3, 0, 4] rfl ?_
              exact J89 y0_63 y0_88 ry0_63 ry0_88 hf
            have J82 : (fX11_range_j82 x4_11 (fX11_range_j88 y0_63 (fX11_range_j89 x4_11 (fX11_range_L11 La s1 k95 n_11)))) → sg_W p l e (sg_rm 7 0 0) s m args below meth c (MQ below (sg_Q (some .int) G La s.heap.size (sg_HI La Q)) args s 0 0 (sg_A La s.heap.size)) 6 G (sg_A La s.heap.size) La s1 0 0 82 [(0, sg_r 0), (1, sg_i x1), (2, sg_i y0_63), (4, sg_i x4_11)] [] := by
              intro hf
              unfold fX11_range_j82 at hf
              refine gw_iload F 3 rfl dX11_range_82 ?_
              refine gw_goto F (tgt := 88) dX11_range_84 (by decide) ?_
              refine gw_sub [0, 1, 2, 3] rfl ?_
              exact J88 x4_11 r4_11 hf
            refine gw_icmp_eq F (tgt := 82) dX11_range_66 (by decide) r3_11 (by decide) (fun c10 => ?_) (fun c10 => ?_)
            · have hf := hf.1 c10
              refine gw_sub [1, 2, 0, 4] rfl ?_
              exact J82  hf
            · have hf := hf.2 c10
              refine gw_iload F 5 rfl dX11_range_69 ?_
              refine gw_aload_n F 1 rfl rfl (by decide) dX11_range_71 ?_
              refine gw_get7 F (so_0 hst) (by decide) rfl sg_lay_RX11 (j := 13) (by decide) (o1 := 58) (by first | rfl | omega) rfl (host := "") (.inl kw_339) dX11_range_72 (fun h11 => ?_)
              refine gw_iload_n F 3 rfl rfl dX11_range_75 ?_
              refine gk_PI F (gc_V F (S := [sg_i u6]) (As := [sg_i x3_11]) (T := TX4) (N := 3) (CX4_at (so_58 hst) r3_11 hf) (so_58 hst) (by decide) rfl kw_546 kw_97 kw_543 kw_544 kw_545 hcX4_at ⟨by decide, by decide⟩ rfl rfl (Nat.le_of_ble_eq_true rfl) ⟨by decide, by decide⟩ dX11_range_76) (fun u12 h13 hf => ?_)
              refine gw_icmp_le F (tgt := 87) dX11_range_79 (by decide) h7 h13 (fun c14 => ?_) (fun c14 => ?_)
              · have hf := hf.1 c14
                refine gw_iload_n F 3 rfl rfl dX11_range_87 ?_
                refine gw_sub [1, 2, 0, 4] rfl ?_
                exact J88 x3_11 r3_11 hf
              · have hf := hf.2 c14
                refine gw_sub [1, 2, 0, 4] rfl ?_
                exact J82  hf
          have J57 : (fX11_range_j57 x4_11 (fX11_range_j63 La s1 x3_11 x4_11 u6 (fX11_range_j89 x4_11 (fX11_range_L11 La s1 k95 n_11)))) → sg_W p l e (sg_rm 7 0 0) s m args below meth c (MQ below (sg_Q (some .int) G La s.heap.size (sg_HI La Q)) args s 0 0 (sg_A La s.heap.size)) 6 G (sg_A La s.heap.size) La s1 0 0 57 [(0, sg_r 0), (1, sg_i x1), (3, sg_i x3_11), (4, sg_i x4_11), (5, sg_i u6)] [] := by
            intro hf
            unfold fX11_range_j57 at hf
            refine gw_iload F 3 rfl dX11_range_57 ?_
            refine gw_goto F (tgt := 63) dX11_range_59 (by decide) ?_
            refine gw_sub [0, 1, 2, 3, 4] rfl ?_
            exact J63 x4_11 r4_11 hf
          refine gw_icmp_eq F (tgt := 57) dX11_range_41 (by decide) r2_11 (by decide) (fun c15 => ?_) (fun c15 => ?_)
          · have hf := hf.1 c15
            refine gw_sub [1, 2, 4, 5, 0] rfl ?_
            exact J57  hf
          · have hf := hf.2 c15
            refine gw_iload F 0 rfl dX11_range_44 ?_
            refine gw_aload_n F 1 rfl rfl (by decide) dX11_range_46 ?_
            refine gw_get7 F (so_0 hst) (by decide) rfl sg_lay_RX11 (j := 13) (by decide) (o1 := 58) (by first | rfl | omega) rfl (host := "") (.inl kw_339) dX11_range_47 (fun h16 => ?_)
            refine gw_iload_n F 3 rfl rfl dX11_range_50 ?_
            refine gk_PI F (gc_V F (S := [sg_i u6]) (As := [sg_i x2_11]) (T := TX4) (N := 3) (CX4_at (so_58 hst) r2_11 hf) (so_58 hst) (by decide) rfl kw_546 kw_97 kw_543 kw_544 kw_545 hcX4_at ⟨by decide, by decide⟩ rfl rfl (Nat.le_of_ble_eq_true rfl) ⟨by decide, by decide⟩ dX11_range_51) (fun u17 h18 hf => ?_)
            refine gw_icmp_ge F (tgt := 62) dX11_range_54 (by decide) h7 h18 (fun c19 => ?_) (fun c19 => ?_)
            · have hf := hf.1 c19
              refine gw_iload_n F 3 rfl rfl dX11_range_62 ?_
              refine gw_sub [1, 2, 4, 5, 0] rfl ?_
              exact J63 x2_11 r2_11 hf
            · have hf := hf.2 c19
              refine gw_sub [1, 2, 4, 5, 0] rfl ?_
              exact J57  hf
  obtain ⟨n20, hf⟩ := hf
  refine gw_sub [3, 4, 2, 1, 0] rfl ?_
  refine L11 _ (fun x2_95e11 x3_95e11 r2_95e11 r3_95e11 hf => ?_) n20 (-1) (-1) 0 (by decide) (by decide) (by decide) hf
  refine gw_iload_n F 1 rfl rfl dX11_range_95 ?_
  refine gw_switch F dX11_range_96 r1 (td := 150) (by decide) (fun c21 => ?_) (fun i hi1 hi2 => ?_)
  · have hf := hf.1 c21
    refine gw_iconst F dX11_range_150 ?_
    exact gr_HI F (by decide) hf (by decide) (by decide) dX11_range_151
  · rcases (show i = 0 ∨ i = 1 ∨ i = 2 ∨ i = 3 by omega) with rfl | rfl | rfl | rfl
    · have hf := hf.2.1 (by omega)
      refine ⟨32, 128, rfl, by decide, ?_⟩
      refine gw_aload_n F 0 rfl rfl (by decide) dX11_range_128 ?_
      refine gw_get7 F (so_0 hst) (by decide) rfl sg_lay_RX11 (j := 13) (by decide) (o1 := 58) (by first | rfl | omega) rfl (host := "") (.inl kw_339) dX11_range_129 (fun h22 => ?_)
      refine gw_iload_n F 2 rfl rfl dX11_range_132 ?_
      refine gk_PI F (gc_V F (S := []) (As := [sg_i x2_95e11]) (T := TX4) (N := 3) (CX4_at (so_58 hst) r2_95e11 hf) (so_58 hst) (by decide) rfl kw_546 kw_97 kw_543 kw_544 kw_545 hcX4_at ⟨by decide, by decide⟩ rfl rfl (Nat.le_of_ble_eq_true rfl) ⟨by decide, by decide⟩ dX11_range_133) (fun u23 h24 hf => ?_)
      exact gr_HI F h24 hf (by decide) (by decide) dX11_range_136
    · have hf := hf.2.2.1 (by omega)
      refine ⟨41, 137, rfl, by decide, ?_⟩
      refine gw_aload_n F 0 rfl rfl (by decide) dX11_range_137 ?_
      refine gw_get7 F (so_0 hst) (by decide) rfl sg_lay_RX11 (j := 13) (by decide) (o1 := 58) (by first | rfl | omega) rfl (host := "") (.inl kw_339) dX11_range_138 (fun h25 => ?_)
      refine gw_iload_n F 3 rfl rfl dX11_range_141 ?_
      refine gk_PI F (gc_V F (S := []) (As := [sg_i x3_95e11]) (T := TX4) (N := 3) (CX4_at (so_58 hst) r3_95e11 hf) (so_58 hst) (by decide) rfl kw_546 kw_97 kw_543 kw_544 kw_545 hcX4_at ⟨by decide, by decide⟩ rfl rfl (Nat.le_of_ble_eq_true rfl) ⟨by decide, by decide⟩ dX11_range_142) (fun u26 h27 hf => ?_)
      exact gr_HI F h27 hf (by decide) (by decide) dX11_range_145
    · have hf := hf.2.2.2.1 (by omega)
      refine ⟨50, 146, rfl, by decide, ?_⟩
      refine gw_iload_n F 2 rfl rfl dX11_range_146 ?_
      exact gr_HI F r2_95e11 hf (by decide) (by decide) dX11_range_147
    · have hf := hf.2.2.2.2 (by omega)
      refine ⟨52, 148, rfl, by decide, ?_⟩
      refine gw_iload_n F 3 rfl rfl dX11_range_148 ?_
      exact gr_HI F r3_95e11 hf (by decide) (by decide) dX11_range_149

theorem dX11_read_0 : decode cX11_read 0 = .ok (.iload_n 1, 1) := by decide +kernel
theorem dX11_read_1 : decode cX11_read 1 = .ok (.invokestatic 268, 3) := by decide +kernel
theorem dX11_read_4 : decode cX11_read 4 = .ok (.ifCond .eq 10, 3) := by decide +kernel
theorem dX11_read_7 : decode cX11_read 7 = .ok (.iload_n 2, 1) := by decide +kernel
theorem dX11_read_8 : decode cX11_read 8 = .ok (.invokestatic 258, 3) := by decide +kernel
theorem dX11_read_11 : decode cX11_read 11 = .ok (.ifCond .ne 5, 3) := by decide +kernel
theorem dX11_read_14 : decode cX11_read 14 = .ok (.iconst (-1), 1) := by decide +kernel
theorem dX11_read_15 : decode cX11_read 15 = .ok (.ireturn, 1) := by decide +kernel
theorem dX11_read_16 : decode cX11_read 16 = .ok (.aload_n 0, 1) := by decide +kernel
theorem dX11_read_17 : decode cX11_read 17 = .ok (.invokevirtual 251, 3) := by decide +kernel
theorem dX11_read_20 : decode cX11_read 20 = .ok (.aload_n 0, 1) := by decide +kernel
theorem dX11_read_21 : decode cX11_read 21 = .ok (.getfield 83, 3) := by decide +kernel
theorem dX11_read_24 : decode cX11_read 24 = .ok (.invokevirtual 271, 3) := by decide +kernel
theorem dX11_read_27 : decode cX11_read 27 = .ok (.iconst 0, 1) := by decide +kernel
theorem dX11_read_28 : decode cX11_read 28 = .ok (.istore_n 3, 1) := by decide +kernel
theorem dX11_read_29 : decode cX11_read 29 = .ok (.iload_n 3, 1) := by decide +kernel
theorem dX11_read_30 : decode cX11_read 30 = .ok (.aload_n 0, 1) := by decide +kernel
theorem dX11_read_31 : decode cX11_read 31 = .ok (.getfield 93, 3) := by decide +kernel
theorem dX11_read_34 : decode cX11_read 34 = .ok (.getfield 181, 3) := by decide +kernel
theorem dX11_read_37 : decode cX11_read 37 = .ok (.if_icmp .ge 33, 3) := by decide +kernel
theorem dX11_read_40 : decode cX11_read 40 = .ok (.aload_n 0, 1) := by decide +kernel
theorem dX11_read_41 : decode cX11_read 41 = .ok (.getfield 93, 3) := by decide +kernel
theorem dX11_read_44 : decode cX11_read 44 = .ok (.iload_n 3, 1) := by decide +kernel
theorem dX11_read_45 : decode cX11_read 45 = .ok (.invokevirtual 182, 3) := by decide +kernel
theorem dX11_read_48 : decode cX11_read 48 = .ok (.iload_n 1, 1) := by decide +kernel
theorem dX11_read_49 : decode cX11_read 49 = .ok (.iload_n 2, 1) := by decide +kernel
theorem dX11_read_50 : decode cX11_read 50 = .ok (.invokestatic 274, 3) := by decide +kernel
theorem dX11_read_53 : decode cX11_read 53 = .ok (.ifCond .eq 11, 3) := by decide +kernel
theorem dX11_read_56 : decode cX11_read 56 = .ok (.aload_n 0, 1) := by decide +kernel
theorem dX11_read_57 : decode cX11_read 57 = .ok (.getfield 83, 3) := by decide +kernel
theorem dX11_read_60 : decode cX11_read 60 = .ok (.iload_n 3, 1) := by decide +kernel
theorem dX11_read_61 : decode cX11_read 61 = .ok (.invokevirtual 278, 3) := by decide +kernel
theorem dX11_read_64 : decode cX11_read 64 = .ok (.iinc 3 1, 3) := by decide +kernel
theorem dX11_read_67 : decode cX11_read 67 = .ok (.goto (-38), 3) := by decide +kernel
theorem dX11_read_70 : decode cX11_read 70 = .ok (.aload_n 0, 1) := by decide +kernel
theorem dX11_read_71 : decode cX11_read 71 = .ok (.getfield 83, 3) := by decide +kernel
theorem dX11_read_74 : decode cX11_read 74 = .ok (.getfield 181, 3) := by decide +kernel
theorem dX11_read_77 : decode cX11_read 77 = .ok (.ireturn, 1) := by decide +kernel
theorem hcX11_read : yX11_read.cls ≠ "java/lang/invoke/MethodHandle" ∧ yX11_read.cls ≠ "java/lang/invoke/VarHandle" ∧ (parseMethodDescriptor yX11_read.desc).map (fun d => d.parameters.length) = some 2 := ⟨by decide +kernel, by decide +kernel, by decide +kernel⟩
def fX11_read_j64 (x3_29 : Int) (k29 : sg_M → Int → Prop) (s_64 : sg_M) : Prop := sg_R (x3_29 + 1) ∧ k29 s_64 (x3_29 + 1)
def fX11_read_L29 (La : sg_L) (x1 : Int) (x2 : Int) (Q : Int → sg_M → Prop) : Nat → sg_M → Int → Prop
  | 0, _, _ => False
  | n_29 + 1, s_29, x3_29 => (((s_29 58 1) ≤ x3_29 → Q (s_29 52 1) s_29) ∧ (¬ ((s_29 58 1) ≤ x3_29) → fX4_at La s_29 58 x3_29 (fun u16 => fX11_isNear u16 x1 x2 (fun u18 => ((u18 = 0 → (fX11_read_j64 x3_29 (fX11_read_L29 La x1 x2 Q n_29)) s_29) ∧ (¬ (u18 = 0) → fX4_add La s_29 52 x3_29 (fun s23 => (fX11_read_j64 x3_29 (fX11_read_L29 La x1 x2 Q n_29)) s23)))))))
def fX11_read (La : sg_L) (s0 : sg_M) (x1 : Int) (x2 : Int) (Q : Int → sg_M → Prop) : Prop := fX11_isTone x1 (fun u1 => ((u1 = 0 → Q (-1) s0) ∧ (¬ (u1 = 0) → fX11_isSlip x2 (fun u4 => ((u4 ≠ 0 → fX11_hearBook La s0 (fun s7 => fX4_clear s7 52 (fun s9 => (∃ n24 : Nat, fX11_read_L29 La x1 x2 Q n24 s9 0)))) ∧ (u4 = 0 → Q (-1) s0))))))
set_option maxHeartbeats 4000000 in
set_option maxRecDepth 100000 in
theorem CX11_read {l : Launch} {G : sg_G} {La : sg_L} {s0 : sg_M} (hst : sg_St La) {x1 : Int} (r1 : sg_R x1) {x2 : Int} (r2 : sg_R x2) {Q : Int → sg_M → Prop} (hf : fX11_read La s0 x1 x2 Q) : sg_C l G yX11_read cX11_read 4 (some .int) 7 0 0 La s0 [sg_r 0, sg_i x1, sg_i x2] (sg_HI La Q) := by
  refine sg_body (by decide +kernel) (Nat.le_of_ble_eq_true rfl) ?_
  intro p e s m args below meth c F hnm
  unfold fX11_read at hf
  show sg_W p l e (sg_rm 7 0 0) s m args below meth c (MQ below (sg_Q (some .int) G La s.heap.size (sg_HI La Q)) args s 0 0 (sg_A La s.heap.size)) 4 G (sg_A La s.heap.size) La s0 0 0 0 [(0, sg_r 0), (1, sg_i x1), (2, sg_i x2)] []
  refine gw_iload_n F 1 rfl rfl dX11_read_0 ?_
  refine gk_PZ F (gc_S F (S := []) (As := [sg_i x1]) (CX11_isTone r1 hf) kw_684 kw_90 kw_724 kw_683 hcX11_isTone ⟨by decide, by decide⟩ rfl rfl (Nat.le_of_ble_eq_true rfl) ⟨by decide, by decide⟩ dX11_read_1) (fun u1 h2 hf => ?_)
  refine gw_if_eq F (tgt := 14) dX11_read_4 (by decide) (sg_B_R h2) (fun c3 => ?_) (fun c3 => ?_)
  · have hf := hf.1 c3
    refine gw_iconst F dX11_read_14 ?_
    exact gr_HI F (by decide) hf (by decide) (by decide) dX11_read_15
  · have hf := hf.2 c3
    refine gw_iload_n F 2 rfl rfl dX11_read_7 ?_
    refine gk_PZ F (gc_S F (S := []) (As := [sg_i x2]) (CX11_isSlip r2 hf) kw_688 kw_90 kw_686 kw_687 hcX11_isSlip ⟨by decide, by decide⟩ rfl rfl (Nat.le_of_ble_eq_true rfl) ⟨by decide, by decide⟩ dX11_read_8) (fun u4 h5 hf => ?_)
    refine gw_if_ne F (tgt := 16) dX11_read_11 (by decide) (sg_B_R h5) (fun c6 => ?_) (fun c6 => ?_)
    · have hf := hf.1 c6
      refine gw_aload_n F 0 rfl rfl (by decide) dX11_read_16 ?_
      refine gk_HV F (gc_V F (S := []) (As := []) (T := TX11) (N := 19) (CX11_hearBook hst hf) (so_0 hst) (by decide) rfl kw_651 kw_90 kw_649 kw_650 kw_19 hcX11_hearBook ⟨by decide, by decide⟩ rfl rfl (Nat.le_of_ble_eq_true rfl) ⟨by decide, by decide⟩ dX11_read_17) (fun s7 hf => ?_)
      refine gw_aload_n F 0 rfl rfl (by decide) dX11_read_20 ?_
      refine gw_get7 F (so_0 hst) (by decide) rfl sg_lay_RX11 (j := 10) (by decide) (o1 := 52) (by first | rfl | omega) rfl (host := "") (.inl kw_336) dX11_read_21 (fun h8 => ?_)
      refine gk_HV F (gc_V F (S := []) (As := []) (T := TX4) (N := 3) (CX4_clear (so_52 hst) hf) (so_52 hst) (by decide) rfl kw_531 kw_97 kw_652 kw_529 kw_530 hcX4_clear ⟨by decide, by decide⟩ rfl rfl (Nat.le_of_ble_eq_true rfl) ⟨by decide, by decide⟩ dX11_read_24) (fun s9 hf => ?_)
      refine gw_iconst F dX11_read_27 ?_
      refine gw_istore_n F rfl (by decide) rfl dX11_read_28 ?_
      have L29 : ∀ n_29 : Nat, ∀ (s_29 : sg_M) (x3_29 : Int), sg_R x3_29 → fX11_read_L29 La x1 x2 Q n_29 s_29 x3_29 → sg_W p l e (sg_rm 7 0 0) s m args below meth c (MQ below (sg_Q (some .int) G La s.heap.size (sg_HI La Q)) args s 0 0 (sg_A La s.heap.size)) 4 G (sg_A La s.heap.size) La s_29 0 0 29 [(0, sg_r 0), (1, sg_i x1), (2, sg_i x2), (3, sg_i x3_29)] [] := by
        intro n_29
        induction n_29 with
        | zero => intro s_29 x3_29 r3_29 hf; exact hf.elim
        | succ n_29 ih =>
          intro s_29 x3_29 r3_29 hf
          unfold fX11_read_L29 at hf
          refine gw_iload_n F 3 rfl rfl dX11_read_29 ?_
          refine gw_aload_n F 0 rfl rfl (by decide) dX11_read_30 ?_
          refine gw_get7 F (so_0 hst) (by decide) rfl sg_lay_RX11 (j := 13) (by decide) (o1 := 58) (by first | rfl | omega) rfl (host := "") (.inl kw_339) dX11_read_31 (fun h10 => ?_)
          refine gw_get0 F (so_58 hst) (by decide) rfl sg_lay_RX4 (j := 1) (by decide) rfl (.inr kw_204) dX11_read_34 (fun h11 => ?_)
          refine gw_icmp_ge F (tgt := 70) dX11_read_37 (by decide) r3_29 h11 (fun c12 => ?_) (fun c12 => ?_)
          · have hf := hf.1 c12
            refine gw_aload_n F 0 rfl rfl (by decide) dX11_read_70 ?_
            refine gw_get7 F (so_0 hst) (by decide) rfl sg_lay_RX11 (j := 10) (by decide) (o1 := 52) (by first | rfl | omega) rfl (host := "") (.inl kw_336) dX11_read_71 (fun h13 => ?_)
            refine gw_get0 F (so_52 hst) (by decide) rfl sg_lay_RX4 (j := 1) (by decide) rfl (.inr kw_204) dX11_read_74 (fun h14 => ?_)
            exact gr_HI F h14 hf (by decide) (by decide) dX11_read_77
          · have hf := hf.2 c12
            refine gw_aload_n F 0 rfl rfl (by decide) dX11_read_40 ?_
            refine gw_get7 F (so_0 hst) (by decide) rfl sg_lay_RX11 (j := 13) (by decide) (o1 := 58) (by first | rfl | omega) rfl (host := "") (.inl kw_339) dX11_read_41 (fun h15 => ?_)
            refine gw_iload_n F 3 rfl rfl dX11_read_44 ?_
            refine gk_PI F (gc_V F (S := []) (As := [sg_i x3_29]) (T := TX4) (N := 3) (CX4_at (so_58 hst) r3_29 hf) (so_58 hst) (by decide) rfl kw_546 kw_97 kw_543 kw_544 kw_545 hcX4_at ⟨by decide, by decide⟩ rfl rfl (Nat.le_of_ble_eq_true rfl) ⟨by decide, by decide⟩ dX11_read_45) (fun u16 h17 hf => ?_)
            refine gw_iload_n F 1 rfl rfl dX11_read_48 ?_
            refine gw_iload_n F 2 rfl rfl dX11_read_49 ?_
            refine gk_PZ F (gc_S F (S := []) (As := [sg_i u16, sg_i x1, sg_i x2]) (CX11_isNear h17 r1 r2 hf) kw_696 kw_90 kw_725 kw_695 hcX11_isNear ⟨by decide, by decide⟩ rfl rfl (Nat.le_of_ble_eq_true rfl) ⟨by decide, by decide⟩ dX11_read_50) (fun u18 h19 hf => ?_)
            have J64 : ∀ (s_64 : sg_M), (fX11_read_j64 x3_29 (fX11_read_L29 La x1 x2 Q n_29)) s_64 → sg_W p l e (sg_rm 7 0 0) s m args below meth c (MQ below (sg_Q (some .int) G La s.heap.size (sg_HI La Q)) args s 0 0 (sg_A La s.heap.size)) 4 G (sg_A La s.heap.size) La s_64 0 0 64 [(0, sg_r 0), (1, sg_i x1), (2, sg_i x2), (3, sg_i x3_29)] [] := by
              intro s_64 hf
              unfold fX11_read_j64 at hf
              refine gw_iinc F (z := (x3_29 + 1)) 3 rfl (by omega) (by decide) rfl dX11_read_64 ?_
              refine gw_goto F (tgt := 29) dX11_read_67 (by decide) ?_
              obtain ⟨g20, hf⟩ := hf
              refine gw_sub [1, 2, 3, 0] rfl ?_
              exact ih s_64 (x3_29 + 1) g20 hf
            refine gw_if_eq F (tgt := 64) dX11_read_53 (by decide) (sg_B_R h19) (fun c21 => ?_) (fun c21 => ?_)
            · have hf := hf.1 c21
              refine gw_sub [0, 1, 2, 3] rfl ?_
              exact J64 s_29 hf
            · have hf := hf.2 c21
              refine gw_aload_n F 0 rfl rfl (by decide) dX11_read_56 ?_
              refine gw_get7 F (so_0 hst) (by decide) rfl sg_lay_RX11 (j := 10) (by decide) (o1 := 52) (by first | rfl | omega) rfl (host := "") (.inl kw_336) dX11_read_57 (fun h22 => ?_)
              refine gw_iload_n F 3 rfl rfl dX11_read_60 ?_
              refine gk_HV F (gc_V F (S := []) (As := [sg_i x3_29]) (T := TX4) (N := 3) (CX4_add (so_52 hst) r3_29 hf) (so_52 hst) (by decide) rfl kw_538 kw_97 kw_663 kw_536 kw_537 hcX4_add ⟨by decide, by decide⟩ rfl rfl (Nat.le_of_ble_eq_true rfl) ⟨by decide, by decide⟩ dX11_read_61) (fun s23 hf => ?_)
              refine gw_sub [0, 1, 2, 3] rfl ?_
              exact J64 s23 hf
      obtain ⟨n24, hf⟩ := hf
      refine gw_sub [1, 2, 3, 0] rfl ?_
      refine L29   n24 s9 0 (by decide) hf
    · have hf := hf.2 c6
      refine gw_iconst F dX11_read_14 ?_
      exact gr_HI F (by decide) hf (by decide) (by decide) dX11_read_15

theorem dX11_formBy_0 : decode cX11_formBy 0 = .ok (.aload_n 0, 1) := by decide +kernel
theorem dX11_formBy_1 : decode cX11_formBy 1 = .ok (.getfield 109, 3) := by decide +kernel
theorem dX11_formBy_4 : decode cX11_formBy 4 = .ok (.ireturn, 1) := by decide +kernel
theorem hcX11_formBy : yX11_formBy.cls ≠ "java/lang/invoke/MethodHandle" ∧ yX11_formBy.cls ≠ "java/lang/invoke/VarHandle" ∧ (parseMethodDescriptor yX11_formBy.desc).map (fun d => d.parameters.length) = some 0 := ⟨by decide +kernel, by decide +kernel, by decide +kernel⟩
def fX11_formBy (s0 : sg_M) (Q : Int → Prop) : Prop := Q (s0 0 18)
set_option maxHeartbeats 4000000 in
set_option maxRecDepth 100000 in
theorem CX11_formBy {l : Launch} {G : sg_G} {La : sg_L} {s0 : sg_M} (hst : sg_St La) {Q : Int → Prop} (hf : fX11_formBy s0 Q) : sg_C l G yX11_formBy cX11_formBy 1 (some .int) 1 0 0 La s0 [sg_r 0] (sg_PI La s0 Q) := by
  refine sg_body (by decide +kernel) (Nat.le_of_ble_eq_true rfl) ?_
  intro p e s m args below meth c F hnm
  unfold fX11_formBy at hf
  show sg_W p l e (sg_rm 1 0 0) s m args below meth c (MQ below (sg_Q (some .int) G La s.heap.size (sg_PI La s0 Q)) args s 0 0 (sg_A La s.heap.size)) 1 G (sg_A La s.heap.size) La s0 0 0 0 [(0, sg_r 0)] []
  refine gw_aload_n F 0 rfl rfl (by decide) dX11_formBy_0 ?_
  refine gw_get0 F (so_0 hst) (by decide) rfl sg_lay_RX11 (j := 18) (by decide) rfl (host := "") (.inl kw_344) dX11_formBy_1 (fun h1 => ?_)
  exact gr_PI F h1 hf (by decide) (by decide) dX11_formBy_4

theorem dX11_nearestPart_0 : decode cX11_nearestPart 0 = .ok (.iconst 0, 1) := by decide +kernel
theorem dX11_nearestPart_1 : decode cX11_nearestPart 1 = .ok (.istore_n 2, 1) := by decide +kernel
theorem dX11_nearestPart_2 : decode cX11_nearestPart 2 = .ok (.sipush 4000, 3) := by decide +kernel
theorem dX11_nearestPart_5 : decode cX11_nearestPart 5 = .ok (.istore_n 3, 1) := by decide +kernel
theorem dX11_nearestPart_6 : decode cX11_nearestPart 6 = .ok (.iconst 0, 1) := by decide +kernel
theorem dX11_nearestPart_7 : decode cX11_nearestPart 7 = .ok (.istore 4, 2) := by decide +kernel
theorem dX11_nearestPart_9 : decode cX11_nearestPart 9 = .ok (.iload 4, 2) := by decide +kernel
theorem dX11_nearestPart_11 : decode cX11_nearestPart 11 = .ok (.aload_n 0, 1) := by decide +kernel
theorem dX11_nearestPart_12 : decode cX11_nearestPart 12 = .ok (.getfield 90, 3) := by decide +kernel
theorem dX11_nearestPart_15 : decode cX11_nearestPart 15 = .ok (.getfield 181, 3) := by decide +kernel
theorem dX11_nearestPart_18 : decode cX11_nearestPart 18 = .ok (.if_icmp .ge 46, 3) := by decide +kernel
theorem dX11_nearestPart_21 : decode cX11_nearestPart 21 = .ok (.aload_n 0, 1) := by decide +kernel
theorem dX11_nearestPart_22 : decode cX11_nearestPart 22 = .ok (.getfield 90, 3) := by decide +kernel
theorem dX11_nearestPart_25 : decode cX11_nearestPart 25 = .ok (.iload 4, 2) := by decide +kernel
theorem dX11_nearestPart_27 : decode cX11_nearestPart 27 = .ok (.invokevirtual 182, 3) := by decide +kernel
theorem dX11_nearestPart_30 : decode cX11_nearestPart 30 = .ok (.istore 5, 2) := by decide +kernel
theorem dX11_nearestPart_32 : decode cX11_nearestPart 32 = .ok (.iload 5, 2) := by decide +kernel
theorem dX11_nearestPart_34 : decode cX11_nearestPart 34 = .ok (.iload_n 1, 1) := by decide +kernel
theorem dX11_nearestPart_35 : decode cX11_nearestPart 35 = .ok (.isub, 1) := by decide +kernel
theorem dX11_nearestPart_36 : decode cX11_nearestPart 36 = .ok (.invokestatic 286, 3) := by decide +kernel
theorem dX11_nearestPart_39 : decode cX11_nearestPart 39 = .ok (.istore 6, 2) := by decide +kernel
theorem dX11_nearestPart_41 : decode cX11_nearestPart 41 = .ok (.iload 5, 2) := by decide +kernel
theorem dX11_nearestPart_43 : decode cX11_nearestPart 43 = .ok (.ifCond .le 15, 3) := by decide +kernel
theorem dX11_nearestPart_46 : decode cX11_nearestPart 46 = .ok (.iload 6, 2) := by decide +kernel
theorem dX11_nearestPart_48 : decode cX11_nearestPart 48 = .ok (.iload_n 3, 1) := by decide +kernel
theorem dX11_nearestPart_49 : decode cX11_nearestPart 49 = .ok (.if_icmp .ge 9, 3) := by decide +kernel
theorem dX11_nearestPart_52 : decode cX11_nearestPart 52 = .ok (.iload 4, 2) := by decide +kernel
theorem dX11_nearestPart_54 : decode cX11_nearestPart 54 = .ok (.istore_n 2, 1) := by decide +kernel
theorem dX11_nearestPart_55 : decode cX11_nearestPart 55 = .ok (.iload 6, 2) := by decide +kernel
theorem dX11_nearestPart_57 : decode cX11_nearestPart 57 = .ok (.istore_n 3, 1) := by decide +kernel
theorem dX11_nearestPart_58 : decode cX11_nearestPart 58 = .ok (.iinc 4 1, 3) := by decide +kernel
theorem dX11_nearestPart_61 : decode cX11_nearestPart 61 = .ok (.goto (-52), 3) := by decide +kernel
theorem dX11_nearestPart_64 : decode cX11_nearestPart 64 = .ok (.iload_n 2, 1) := by decide +kernel
theorem dX11_nearestPart_65 : decode cX11_nearestPart 65 = .ok (.ireturn, 1) := by decide +kernel
theorem hcX11_nearestPart : yX11_nearestPart.cls ≠ "java/lang/invoke/MethodHandle" ∧ yX11_nearestPart.cls ≠ "java/lang/invoke/VarHandle" ∧ (parseMethodDescriptor yX11_nearestPart.desc).map (fun d => d.parameters.length) = some 1 := ⟨by decide +kernel, by decide +kernel, by decide +kernel⟩
def fX11_nearestPart_j58 (x4_9 : Int) (k9 : Int → Int → Int → Prop) (x2_58 : Int) (x3_58 : Int) : Prop := sg_R (x4_9 + 1) ∧ k9 x2_58 x3_58 (x4_9 + 1)
def fX11_nearestPart_L9 (La : sg_L) (s0 : sg_M) (x1 : Int) (Q : Int → Prop) : Nat → Int → Int → Int → Prop
  | 0, _, _, _ => False
  | n_9 + 1, x2_9, x3_9, x4_9 => (((s0 56 1) ≤ x4_9 → Q x2_9) ∧ (¬ ((s0 56 1) ≤ x4_9) → fX4_at La s0 56 x4_9 (fun u5 => sg_R (u5 - x1) ∧ ((u5 ≤ 0 → (fX11_nearestPart_j58 x4_9 (fX11_nearestPart_L9 La s0 x1 Q n_9)) x2_9 x3_9) ∧ (¬ (u5 ≤ 0) → sg_R (sg_abs (u5 - x1)) ∧ ((x3_9 ≤ (sg_abs (u5 - x1)) → (fX11_nearestPart_j58 x4_9 (fX11_nearestPart_L9 La s0 x1 Q n_9)) x2_9 x3_9) ∧ (¬ (x3_9 ≤ (sg_abs (u5 - x1))) → (fX11_nearestPart_j58 x4_9 (fX11_nearestPart_L9 La s0 x1 Q n_9)) x4_9 (sg_abs (u5 - x1)))))))))
def fX11_nearestPart (La : sg_L) (s0 : sg_M) (x1 : Int) (Q : Int → Prop) : Prop := (∃ n12 : Nat, fX11_nearestPart_L9 La s0 x1 Q n12 0 4000 0)
set_option maxHeartbeats 4000000 in
set_option maxRecDepth 100000 in
theorem CX11_nearestPart {l : Launch} {G : sg_G} {La : sg_L} {s0 : sg_M} (hst : sg_St La) {x1 : Int} (r1 : sg_R x1) {Q : Int → Prop} (hf : fX11_nearestPart La s0 x1 Q) : sg_C l G yX11_nearestPart cX11_nearestPart 7 (some .int) 2 0 0 La s0 [sg_r 0, sg_i x1] (sg_PI La s0 Q) := by
  refine sg_body (by decide +kernel) (Nat.le_of_ble_eq_true rfl) ?_
  intro p e s m args below meth c F hnm
  unfold fX11_nearestPart at hf
  show sg_W p l e (sg_rm 2 0 0) s m args below meth c (MQ below (sg_Q (some .int) G La s.heap.size (sg_PI La s0 Q)) args s 0 0 (sg_A La s.heap.size)) 7 G (sg_A La s.heap.size) La s0 0 0 0 [(0, sg_r 0), (1, sg_i x1)] []
  refine gw_iconst F dX11_nearestPart_0 ?_
  refine gw_istore_n F rfl (by decide) rfl dX11_nearestPart_1 ?_
  refine gw_sipush F rfl dX11_nearestPart_2 ?_
  refine gw_istore_n F rfl (by decide) rfl dX11_nearestPart_5 ?_
  refine gw_iconst F dX11_nearestPart_6 ?_
  refine gw_istore F (by decide) rfl dX11_nearestPart_7 ?_
  have L9 : ∀ n_9 : Nat, ∀ (x2_9 : Int) (x3_9 : Int) (x4_9 : Int), sg_R x2_9 → sg_R x3_9 → sg_R x4_9 → fX11_nearestPart_L9 La s0 x1 Q n_9 x2_9 x3_9 x4_9 → sg_W p l e (sg_rm 2 0 0) s m args below meth c (MQ below (sg_Q (some .int) G La s.heap.size (sg_PI La s0 Q)) args s 0 0 (sg_A La s.heap.size)) 7 G (sg_A La s.heap.size) La s0 0 0 9 [(0, sg_r 0), (1, sg_i x1), (2, sg_i x2_9), (3, sg_i x3_9), (4, sg_i x4_9)] [] := by
    intro n_9
    induction n_9 with
    | zero => intro x2_9 x3_9 x4_9 r2_9 r3_9 r4_9 hf; exact hf.elim
    | succ n_9 ih =>
      intro x2_9 x3_9 x4_9 r2_9 r3_9 r4_9 hf
      unfold fX11_nearestPart_L9 at hf
      refine gw_iload F 4 rfl dX11_nearestPart_9 ?_
      refine gw_aload_n F 0 rfl rfl (by decide) dX11_nearestPart_11 ?_
      refine gw_get7 F (so_0 hst) (by decide) rfl sg_lay_RX11 (j := 12) (by decide) (o1 := 56) (by first | rfl | omega) rfl (host := "") (.inl kw_338) dX11_nearestPart_12 (fun h1 => ?_)
      refine gw_get0 F (so_56 hst) (by decide) rfl sg_lay_RX4 (j := 1) (by decide) rfl (.inr kw_204) dX11_nearestPart_15 (fun h2 => ?_)
      refine gw_icmp_ge F (tgt := 64) dX11_nearestPart_18 (by decide) r4_9 h2 (fun c3 => ?_) (fun c3 => ?_)
      · have hf := hf.1 c3
        refine gw_iload_n F 2 rfl rfl dX11_nearestPart_64 ?_
        exact gr_PI F r2_9 hf (by decide) (by decide) dX11_nearestPart_65
      · have hf := hf.2 c3
        refine gw_aload_n F 0 rfl rfl (by decide) dX11_nearestPart_21 ?_
        refine gw_get7 F (so_0 hst) (by decide) rfl sg_lay_RX11 (j := 12) (by decide) (o1 := 56) (by first | rfl | omega) rfl (host := "") (.inl kw_338) dX11_nearestPart_22 (fun h4 => ?_)
        refine gw_iload F 4 rfl dX11_nearestPart_25 ?_
        refine gk_PI F (gc_V F (S := []) (As := [sg_i x4_9]) (T := TX4) (N := 3) (CX4_at (so_56 hst) r4_9 hf) (so_56 hst) (by decide) rfl kw_546 kw_97 kw_543 kw_544 kw_545 hcX4_at ⟨by decide, by decide⟩ rfl rfl (Nat.le_of_ble_eq_true rfl) ⟨by decide, by decide⟩ dX11_nearestPart_27) (fun u5 h6 hf => ?_)
        refine gw_istore F (by decide) rfl dX11_nearestPart_30 ?_
        refine gw_iload F 0 rfl dX11_nearestPart_32 ?_
        refine gw_iload_n F 2 rfl rfl dX11_nearestPart_34 ?_
        refine gw_isub F rfl dX11_nearestPart_35 ?_
        obtain ⟨g7, hf⟩ := hf
        refine gw_abs F g7 rfl kw_697 kw_abs1 kw_math kw_abs2 (Nat.le_of_ble_eq_true rfl) (by decide) (by decide) (by decide) (by decide) dX11_nearestPart_36 ?_
        refine gw_istore F (by decide) rfl dX11_nearestPart_39 ?_
        refine gw_iload F 1 rfl dX11_nearestPart_41 ?_
        have J58 : ∀ (x2_58 : Int) (x3_58 : Int), sg_R x2_58 → sg_R x3_58 → (fX11_nearestPart_j58 x4_9 (fX11_nearestPart_L9 La s0 x1 Q n_9)) x2_58 x3_58 → sg_W p l e (sg_rm 2 0 0) s m args below meth c (MQ below (sg_Q (some .int) G La s.heap.size (sg_PI La s0 Q)) args s 0 0 (sg_A La s.heap.size)) 7 G (sg_A La s.heap.size) La s0 0 0 58 [(0, sg_r 0), (1, sg_i x1), (2, sg_i x2_58), (3, sg_i x3_58), (4, sg_i x4_9)] [] := by
          intro x2_58 x3_58 r2_58 r3_58 hf
          unfold fX11_nearestPart_j58 at hf
          refine gw_iinc F (z := (x4_9 + 1)) 4 rfl (by omega) (by decide) rfl dX11_nearestPart_58 ?_
          refine gw_goto F (tgt := 9) dX11_nearestPart_61 (by decide) ?_
          obtain ⟨g8, hf⟩ := hf
          refine gw_sub [1, 2, 3, 4, 0] rfl ?_
          exact ih x2_58 x3_58 (x4_9 + 1) r2_58 r3_58 g8 hf
        refine gw_if_le F (tgt := 58) dX11_nearestPart_43 (by decide) h6 (fun c9 => ?_) (fun c9 => ?_)
        · have hf := hf.1 c9
          refine gw_sub [2, 3, 4, 5, 6] rfl ?_
          exact J58 x2_9 x3_9 r2_9 r3_9 hf
        · have hf := hf.2 c9
          refine gw_iload F 0 rfl dX11_nearestPart_46 ?_
          refine gw_iload_n F 5 rfl rfl dX11_nearestPart_48 ?_
          obtain ⟨g10, hf⟩ := hf
          refine gw_icmp_ge F (tgt := 58) dX11_nearestPart_49 (by decide) g10 r3_9 (fun c11 => ?_) (fun c11 => ?_)
          · have hf := hf.1 c11
            refine gw_sub [2, 3, 4, 5, 6] rfl ?_
            exact J58 x2_9 x3_9 r2_9 r3_9 hf
          · have hf := hf.2 c11
            refine gw_iload F 6 rfl dX11_nearestPart_52 ?_
            refine gw_istore_n F rfl (by decide) rfl dX11_nearestPart_54 ?_
            refine gw_iload F 1 rfl dX11_nearestPart_55 ?_
            refine gw_istore_n F rfl (by decide) rfl dX11_nearestPart_57 ?_
            refine gw_sub [4, 5, 1, 0, 6] rfl ?_
            exact J58 x4_9 (sg_abs (u5 - x1)) r4_9 g10 hf
  obtain ⟨n12, hf⟩ := hf
  refine gw_sub [3, 4, 2, 1, 0] rfl ?_
  refine L9   n12 0 4000 0 (by decide) (by decide) (by decide) hf

theorem dX5_addStep_0 : decode cX5_addStep 0 = .ok (.aload_n 0, 1) := by decide +kernel
theorem dX5_addStep_1 : decode cX5_addStep 1 = .ok (.getfield 16, 3) := by decide +kernel
theorem dX5_addStep_4 : decode cX5_addStep 4 = .ok (.iload_n 1, 1) := by decide +kernel
theorem dX5_addStep_5 : decode cX5_addStep 5 = .ok (.invokevirtual 109, 3) := by decide +kernel
theorem dX5_addStep_8 : decode cX5_addStep 8 = .ok (.aload_n 0, 1) := by decide +kernel
theorem dX5_addStep_9 : decode cX5_addStep 9 = .ok (.getfield 20, 3) := by decide +kernel
theorem dX5_addStep_12 : decode cX5_addStep 12 = .ok (.iload_n 2, 1) := by decide +kernel
theorem dX5_addStep_13 : decode cX5_addStep 13 = .ok (.invokevirtual 109, 3) := by decide +kernel
theorem dX5_addStep_16 : decode cX5_addStep 16 = .ok (.aload_n 0, 1) := by decide +kernel
theorem dX5_addStep_17 : decode cX5_addStep 17 = .ok (.getfield 23, 3) := by decide +kernel
theorem dX5_addStep_20 : decode cX5_addStep 20 = .ok (.iload_n 3, 1) := by decide +kernel
theorem dX5_addStep_21 : decode cX5_addStep 21 = .ok (.invokevirtual 109, 3) := by decide +kernel
theorem dX5_addStep_24 : decode cX5_addStep 24 = .ok (.return_, 1) := by decide +kernel
theorem hcX5_addStep : yX5_addStep.cls ≠ "java/lang/invoke/MethodHandle" ∧ yX5_addStep.cls ≠ "java/lang/invoke/VarHandle" ∧ (parseMethodDescriptor yX5_addStep.desc).map (fun d => d.parameters.length) = some 3 := ⟨by decide +kernel, by decide +kernel, by decide +kernel⟩
def fX5_addStep (La : sg_L) (s0 : sg_M) (o : Int) (x1 : Int) (x2 : Int) (x3 : Int) (Q : sg_M → Prop) : Prop := fX4_add La s0 (o + 1) x1 (fun s2 => fX4_add La s2 (o + 3) x2 (fun s4 => fX4_add La s4 (o + 5) x3 (fun s6 => Q s6)))
set_option maxHeartbeats 4000000 in
set_option maxRecDepth 100000 in
theorem CX5_addStep {l : Launch} {G : sg_G} {La : sg_L} {s0 : sg_M} {o : Int} (to : sg_O La o 5) {x1 : Int} (r1 : sg_R x1) {x2 : Int} (r2 : sg_R x2) {x3 : Int} (r3 : sg_R x3) {Q : sg_M → Prop} (hf : fX5_addStep La s0 o x1 x2 x3 Q) : sg_C l G yX5_addStep cX5_addStep 4 (none) 2 0 0 La s0 [sg_r o, sg_i x1, sg_i x2, sg_i x3] (sg_HV La Q) := by
  refine sg_body (by decide +kernel) (Nat.le_of_ble_eq_true rfl) ?_
  intro p e s m args below meth c F hnm
  unfold fX5_addStep at hf
  show sg_W p l e (sg_rm 2 0 0) s m args below meth c (MQ below (sg_Q (none) G La s.heap.size (sg_HV La Q)) args s 0 0 (sg_A La s.heap.size)) 4 G (sg_A La s.heap.size) La s0 0 0 0 [(0, sg_r o), (1, sg_i x1), (2, sg_i x2), (3, sg_i x3)] []
  refine gw_aload_n F 0 rfl rfl to.1 dX5_addStep_0 ?_
  refine gw_get3 F to (by decide) rfl sg_lay_RX5 (j := 0) (by decide) (o1 := (o + 1)) (by first | rfl | omega) rfl (host := "") (.inl kw_207) dX5_addStep_1 (fun h1 => ?_)
  refine gw_iload_n F 1 rfl rfl dX5_addStep_4 ?_
  refine gk_HV F (gc_V F (S := []) (As := [sg_i x1]) (T := TX4) (N := 3) (CX4_add (sg_O_of h1 (by decide)) r1 hf) (sg_O_of h1 (by decide)) (by decide) rfl kw_538 kw_97 kw_819 kw_536 kw_537 hcX4_add ⟨by decide, by decide⟩ rfl rfl (Nat.le_of_ble_eq_true rfl) ⟨by decide, by decide⟩ dX5_addStep_5) (fun s2 hf => ?_)
  refine gw_aload_n F 0 rfl rfl to.1 dX5_addStep_8 ?_
  refine gw_get3 F to (by decide) rfl sg_lay_RX5 (j := 1) (by decide) (o1 := (o + 3)) (by first | rfl | omega) rfl (host := "") (.inl kw_208) dX5_addStep_9 (fun h3 => ?_)
  refine gw_iload_n F 2 rfl rfl dX5_addStep_12 ?_
  refine gk_HV F (gc_V F (S := []) (As := [sg_i x2]) (T := TX4) (N := 3) (CX4_add (sg_O_of h3 (by decide)) r2 hf) (sg_O_of h3 (by decide)) (by decide) rfl kw_538 kw_97 kw_819 kw_536 kw_537 hcX4_add ⟨by decide, by decide⟩ rfl rfl (Nat.le_of_ble_eq_true rfl) ⟨by decide, by decide⟩ dX5_addStep_13) (fun s4 hf => ?_)
  refine gw_aload_n F 0 rfl rfl to.1 dX5_addStep_16 ?_
  refine gw_get3 F to (by decide) rfl sg_lay_RX5 (j := 2) (by decide) (o1 := (o + 5)) (by first | rfl | omega) rfl (host := "") (.inl kw_209) dX5_addStep_17 (fun h5 => ?_)
  refine gw_iload_n F 3 rfl rfl dX5_addStep_20 ?_
  refine gk_HV F (gc_V F (S := []) (As := [sg_i x3]) (T := TX4) (N := 3) (CX4_add (sg_O_of h5 (by decide)) r3 hf) (sg_O_of h5 (by decide)) (by decide) rfl kw_538 kw_97 kw_819 kw_536 kw_537 hcX4_add ⟨by decide, by decide⟩ rfl rfl (Nat.le_of_ble_eq_true rfl) ⟨by decide, by decide⟩ dX5_addStep_21) (fun s6 hf => ?_)
  exact gr_HV F hf (by decide) (by decide) dX5_addStep_24

theorem dX11_said_0 : decode cX11_said 0 = .ok (.aload_n 0, 1) := by decide +kernel
theorem dX11_said_1 : decode cX11_said 1 = .ok (.getfield 39, 3) := by decide +kernel
theorem dX11_said_4 : decode cX11_said 4 = .ok (.getfield 324, 3) := by decide +kernel
theorem dX11_said_7 : decode cX11_said 7 = .ok (.getfield 328, 3) := by decide +kernel
theorem dX11_said_10 : decode cX11_said 10 = .ok (.ifCond .ne 5, 3) := by decide +kernel
theorem dX11_said_13 : decode cX11_said 13 = .ok (.iconst (-1), 1) := by decide +kernel
theorem dX11_said_14 : decode cX11_said 14 = .ok (.ireturn, 1) := by decide +kernel
theorem dX11_said_15 : decode cX11_said 15 = .ok (.aload_n 0, 1) := by decide +kernel
theorem dX11_said_16 : decode cX11_said 16 = .ok (.invokevirtual 331, 3) := by decide +kernel
theorem dX11_said_19 : decode cX11_said 19 = .ok (.iload_n 1, 1) := by decide +kernel
theorem dX11_said_20 : decode cX11_said 20 = .ok (.iconst (-1), 1) := by decide +kernel
theorem dX11_said_21 : decode cX11_said 21 = .ok (.if_icmp .ne 13, 3) := by decide +kernel
theorem dX11_said_24 : decode cX11_said 24 = .ok (.aload_n 0, 1) := by decide +kernel
theorem dX11_said_25 : decode cX11_said 25 = .ok (.getfield 99, 3) := by decide +kernel
theorem dX11_said_28 : decode cX11_said 28 = .ok (.getfield 181, 3) := by decide +kernel
theorem dX11_said_31 : decode cX11_said 31 = .ok (.goto 11, 3) := by decide +kernel
theorem dX11_said_34 : decode cX11_said 34 = .ok (.aload_n 0, 1) := by decide +kernel
theorem dX11_said_35 : decode cX11_said 35 = .ok (.getfield 99, 3) := by decide +kernel
theorem dX11_said_38 : decode cX11_said 38 = .ok (.iload_n 1, 1) := by decide +kernel
theorem dX11_said_39 : decode cX11_said 39 = .ok (.invokevirtual 182, 3) := by decide +kernel
theorem dX11_said_42 : decode cX11_said 42 = .ok (.ireturn, 1) := by decide +kernel
theorem hcX11_said : yX11_said.cls ≠ "java/lang/invoke/MethodHandle" ∧ yX11_said.cls ≠ "java/lang/invoke/VarHandle" ∧ (parseMethodDescriptor yX11_said.desc).map (fun d => d.parameters.length) = some 1 := ⟨by decide +kernel, by decide +kernel, by decide +kernel⟩
def fX11_said (La : sg_L) (s0 : sg_M) (x1 : Int) (Q : Int → sg_M → Prop) : Prop := (0 ≤ (s0 4 2)) ∧ (((s0 (s0 4 2) 3) ≠ 0 → fX11_askTicks La s0 (fun s7 => ((x1 ≠ (-1) → fX4_at La s7 62 x1 (fun u10 => Q u10 s7)) ∧ (x1 = (-1) → Q (s7 62 1) s7)))) ∧ ((s0 (s0 4 2) 3) = 0 → Q (-1) s0))
set_option maxHeartbeats 4000000 in
set_option maxRecDepth 100000 in
theorem CX11_said {l : Launch} {G : sg_G} {La : sg_L} {s0 : sg_M} (hst : sg_St La) {x1 : Int} (r1 : sg_R x1) {Q : Int → sg_M → Prop} (hf : fX11_said La s0 x1 Q) : sg_C l G yX11_said cX11_said 2 (some .int) 7 0 0 La s0 [sg_r 0, sg_i x1] (sg_HI La Q) := by
  refine sg_body (by decide +kernel) (Nat.le_of_ble_eq_true rfl) ?_
  intro p e s m args below meth c F hnm
  unfold fX11_said at hf
  show sg_W p l e (sg_rm 7 0 0) s m args below meth c (MQ below (sg_Q (some .int) G La s.heap.size (sg_HI La Q)) args s 0 0 (sg_A La s.heap.size)) 2 G (sg_A La s.heap.size) La s0 0 0 0 [(0, sg_r 0), (1, sg_i x1)] []
  refine gw_aload_n F 0 rfl rfl (by decide) dX11_said_0 ?_
  refine gw_get7 F (so_0 hst) (by decide) rfl sg_lay_RX11 (j := 2) (by decide) (o1 := 4) (by first | rfl | omega) rfl (host := "") (.inl kw_328) dX11_said_1 (fun h1 => ?_)
  refine gw_get4 F (so_4 hst) (by decide) rfl sg_lay_RX7 (j := 2) (by decide) rfl (.inr kw_238) dX11_said_4 (fun h2 => ?_)
  obtain ⟨g3, hf⟩ := hf
  have t4 := sg_nn h2 g3
  refine gw_get0 F t4 (by decide) rfl sg_lay_RX5 (j := 3) (by decide) rfl (.inr kw_211) dX11_said_7 (fun h5 => ?_)
  refine gw_if_ne F (tgt := 15) dX11_said_10 (by decide) h5 (fun c6 => ?_) (fun c6 => ?_)
  · have hf := hf.1 c6
    refine gw_aload_n F 0 rfl rfl (by decide) dX11_said_15 ?_
    refine gk_HV F (gc_V F (S := []) (As := []) (T := TX11) (N := 19) (CX11_askTicks hst hf) (so_0 hst) (by decide) rfl kw_834 kw_90 kw_832 kw_833 kw_35 hcX11_askTicks ⟨by decide, by decide⟩ rfl rfl (Nat.le_of_ble_eq_true rfl) ⟨by decide, by decide⟩ dX11_said_16) (fun s7 hf => ?_)
    refine gw_iload_n F 1 rfl rfl dX11_said_19 ?_
    refine gw_iconst F dX11_said_20 ?_
    refine gw_icmp_ne F (tgt := 34) dX11_said_21 (by decide) r1 (by decide) (fun c8 => ?_) (fun c8 => ?_)
    · have hf := hf.1 c8
      refine gw_aload_n F 0 rfl rfl (by decide) dX11_said_34 ?_
      refine gw_get7 F (so_0 hst) (by decide) rfl sg_lay_RX11 (j := 15) (by decide) (o1 := 62) (by first | rfl | omega) rfl (host := "") (.inl kw_341) dX11_said_35 (fun h9 => ?_)
      refine gw_iload_n F 1 rfl rfl dX11_said_38 ?_
      refine gk_PI F (gc_V F (S := []) (As := [sg_i x1]) (T := TX4) (N := 3) (CX4_at (so_62 hst) r1 hf) (so_62 hst) (by decide) rfl kw_546 kw_97 kw_543 kw_544 kw_545 hcX4_at ⟨by decide, by decide⟩ rfl rfl (Nat.le_of_ble_eq_true rfl) ⟨by decide, by decide⟩ dX11_said_39) (fun u10 h11 hf => ?_)
      exact gr_HI F h11 hf (by decide) (by decide) dX11_said_42
    · have hf := hf.2 c8
      refine gw_aload_n F 0 rfl rfl (by decide) dX11_said_24 ?_
      refine gw_get7 F (so_0 hst) (by decide) rfl sg_lay_RX11 (j := 15) (by decide) (o1 := 62) (by first | rfl | omega) rfl (host := "") (.inl kw_341) dX11_said_25 (fun h12 => ?_)
      refine gw_get0 F (so_62 hst) (by decide) rfl sg_lay_RX4 (j := 1) (by decide) rfl (.inr kw_204) dX11_said_28 (fun h13 => ?_)
      refine gw_goto F (tgt := 42) dX11_said_31 (by decide) ?_
      exact gr_HI F h13 hf (by decide) (by decide) dX11_said_42
  · have hf := hf.2 c6
    refine gw_iconst F dX11_said_13 ?_
    exact gr_HI F (by decide) hf (by decide) (by decide) dX11_said_14

theorem dX11_voice_0 : decode cX11_voice 0 = .ok (.iload_n 2, 1) := by decide +kernel
theorem dX11_voice_1 : decode cX11_voice 1 = .ok (.ifCond .lt 8, 3) := by decide +kernel
theorem dX11_voice_4 : decode cX11_voice 4 = .ok (.iload_n 2, 1) := by decide +kernel
theorem dX11_voice_5 : decode cX11_voice 5 = .ok (.iconst 1, 1) := by decide +kernel
theorem dX11_voice_6 : decode cX11_voice 6 = .ok (.if_icmp .le 5, 3) := by decide +kernel
theorem dX11_voice_9 : decode cX11_voice 9 = .ok (.iconst (-1), 1) := by decide +kernel
theorem dX11_voice_10 : decode cX11_voice 10 = .ok (.ireturn, 1) := by decide +kernel
theorem dX11_voice_11 : decode cX11_voice 11 = .ok (.aload_n 0, 1) := by decide +kernel
theorem dX11_voice_12 : decode cX11_voice 12 = .ok (.invokevirtual 251, 3) := by decide +kernel
theorem dX11_voice_15 : decode cX11_voice 15 = .ok (.iload_n 2, 1) := by decide +kernel
theorem dX11_voice_16 : decode cX11_voice 16 = .ok (.ifCond .ne 14, 3) := by decide +kernel
theorem dX11_voice_19 : decode cX11_voice 19 = .ok (.aload_n 0, 1) := by decide +kernel
theorem dX11_voice_20 : decode cX11_voice 20 = .ok (.getfield 93, 3) := by decide +kernel
theorem dX11_voice_23 : decode cX11_voice 23 = .ok (.iload_n 1, 1) := by decide +kernel
theorem dX11_voice_24 : decode cX11_voice 24 = .ok (.invokevirtual 182, 3) := by decide +kernel
theorem dX11_voice_27 : decode cX11_voice 27 = .ok (.goto 11, 3) := by decide +kernel
theorem dX11_voice_30 : decode cX11_voice 30 = .ok (.aload_n 0, 1) := by decide +kernel
theorem dX11_voice_31 : decode cX11_voice 31 = .ok (.getfield 96, 3) := by decide +kernel
theorem dX11_voice_34 : decode cX11_voice 34 = .ok (.iload_n 1, 1) := by decide +kernel
theorem dX11_voice_35 : decode cX11_voice 35 = .ok (.invokevirtual 182, 3) := by decide +kernel
theorem dX11_voice_38 : decode cX11_voice 38 = .ok (.ireturn, 1) := by decide +kernel
theorem hcX11_voice : yX11_voice.cls ≠ "java/lang/invoke/MethodHandle" ∧ yX11_voice.cls ≠ "java/lang/invoke/VarHandle" ∧ (parseMethodDescriptor yX11_voice.desc).map (fun d => d.parameters.length) = some 2 := ⟨by decide +kernel, by decide +kernel, by decide +kernel⟩
def fX11_voice (La : sg_L) (s0 : sg_M) (x1 : Int) (x2 : Int) (Q : Int → sg_M → Prop) : Prop := ((x2 < 0 → Q (-1) s0) ∧ (¬ (x2 < 0) → ((x2 ≤ 1 → fX11_hearBook La s0 (fun s3 => ((x2 ≠ 0 → fX4_at La s3 60 x1 (fun u6 => Q u6 s3)) ∧ (x2 = 0 → fX4_at La s3 58 x1 (fun u9 => Q u9 s3))))) ∧ (¬ (x2 ≤ 1) → Q (-1) s0))))
set_option maxHeartbeats 4000000 in
set_option maxRecDepth 100000 in
theorem CX11_voice {l : Launch} {G : sg_G} {La : sg_L} {s0 : sg_M} (hst : sg_St La) {x1 : Int} (r1 : sg_R x1) {x2 : Int} (r2 : sg_R x2) {Q : Int → sg_M → Prop} (hf : fX11_voice La s0 x1 x2 Q) : sg_C l G yX11_voice cX11_voice 3 (some .int) 7 0 0 La s0 [sg_r 0, sg_i x1, sg_i x2] (sg_HI La Q) := by
  refine sg_body (by decide +kernel) (Nat.le_of_ble_eq_true rfl) ?_
  intro p e s m args below meth c F hnm
  unfold fX11_voice at hf
  show sg_W p l e (sg_rm 7 0 0) s m args below meth c (MQ below (sg_Q (some .int) G La s.heap.size (sg_HI La Q)) args s 0 0 (sg_A La s.heap.size)) 3 G (sg_A La s.heap.size) La s0 0 0 0 [(0, sg_r 0), (1, sg_i x1), (2, sg_i x2)] []
  refine gw_iload_n F 2 rfl rfl dX11_voice_0 ?_
  refine gw_if_lt F (tgt := 9) dX11_voice_1 (by decide) r2 (fun c1 => ?_) (fun c1 => ?_)
  · have hf := hf.1 c1
    refine gw_iconst F dX11_voice_9 ?_
    exact gr_HI F (by decide) hf (by decide) (by decide) dX11_voice_10
  · have hf := hf.2 c1
    refine gw_iload_n F 2 rfl rfl dX11_voice_4 ?_
    refine gw_iconst F dX11_voice_5 ?_
    refine gw_icmp_le F (tgt := 11) dX11_voice_6 (by decide) r2 (by decide) (fun c2 => ?_) (fun c2 => ?_)
    · have hf := hf.1 c2
      refine gw_aload_n F 0 rfl rfl (by decide) dX11_voice_11 ?_
      refine gk_HV F (gc_V F (S := []) (As := []) (T := TX11) (N := 19) (CX11_hearBook hst hf) (so_0 hst) (by decide) rfl kw_651 kw_90 kw_649 kw_650 kw_19 hcX11_hearBook ⟨by decide, by decide⟩ rfl rfl (Nat.le_of_ble_eq_true rfl) ⟨by decide, by decide⟩ dX11_voice_12) (fun s3 hf => ?_)
      refine gw_iload_n F 2 rfl rfl dX11_voice_15 ?_
      refine gw_if_ne F (tgt := 30) dX11_voice_16 (by decide) r2 (fun c4 => ?_) (fun c4 => ?_)
      · have hf := hf.1 c4
        refine gw_aload_n F 0 rfl rfl (by decide) dX11_voice_30 ?_
        refine gw_get7 F (so_0 hst) (by decide) rfl sg_lay_RX11 (j := 14) (by decide) (o1 := 60) (by first | rfl | omega) rfl (host := "") (.inl kw_340) dX11_voice_31 (fun h5 => ?_)
        refine gw_iload_n F 1 rfl rfl dX11_voice_34 ?_
        refine gk_PI F (gc_V F (S := []) (As := [sg_i x1]) (T := TX4) (N := 3) (CX4_at (so_60 hst) r1 hf) (so_60 hst) (by decide) rfl kw_546 kw_97 kw_543 kw_544 kw_545 hcX4_at ⟨by decide, by decide⟩ rfl rfl (Nat.le_of_ble_eq_true rfl) ⟨by decide, by decide⟩ dX11_voice_35) (fun u6 h7 hf => ?_)
        exact gr_HI F h7 hf (by decide) (by decide) dX11_voice_38
      · have hf := hf.2 c4
        refine gw_aload_n F 0 rfl rfl (by decide) dX11_voice_19 ?_
        refine gw_get7 F (so_0 hst) (by decide) rfl sg_lay_RX11 (j := 13) (by decide) (o1 := 58) (by first | rfl | omega) rfl (host := "") (.inl kw_339) dX11_voice_20 (fun h8 => ?_)
        refine gw_iload_n F 1 rfl rfl dX11_voice_23 ?_
        refine gk_PI F (gc_V F (S := []) (As := [sg_i x1]) (T := TX4) (N := 3) (CX4_at (so_58 hst) r1 hf) (so_58 hst) (by decide) rfl kw_546 kw_97 kw_543 kw_544 kw_545 hcX4_at ⟨by decide, by decide⟩ rfl rfl (Nat.le_of_ble_eq_true rfl) ⟨by decide, by decide⟩ dX11_voice_24) (fun u9 h10 hf => ?_)
        refine gw_goto F (tgt := 38) dX11_voice_27 (by decide) ?_
        exact gr_HI F h10 hf (by decide) (by decide) dX11_voice_38
    · have hf := hf.2 c2
      refine gw_iconst F dX11_voice_9 ?_
      exact gr_HI F (by decide) hf (by decide) (by decide) dX11_voice_10

theorem dX11_hearParts_0 : decode cX11_hearParts 0 = .ok (.aload_n 0, 1) := by decide +kernel
theorem dX11_hearParts_1 : decode cX11_hearParts 1 = .ok (.getfield 39, 3) := by decide +kernel
theorem dX11_hearParts_4 : decode cX11_hearParts 4 = .ok (.getfield 237, 3) := by decide +kernel
theorem dX11_hearParts_7 : decode cX11_hearParts 7 = .ok (.getfield 352, 3) := by decide +kernel
theorem dX11_hearParts_10 : decode cX11_hearParts 10 = .ok (.iload_n 1, 1) := by decide +kernel
theorem dX11_hearParts_11 : decode cX11_hearParts 11 = .ok (.invokevirtual 182, 3) := by decide +kernel
theorem dX11_hearParts_14 : decode cX11_hearParts 14 = .ok (.istore_n 3, 1) := by decide +kernel
theorem dX11_hearParts_15 : decode cX11_hearParts 15 = .ok (.aload_n 0, 1) := by decide +kernel
theorem dX11_hearParts_16 : decode cX11_hearParts 16 = .ok (.getfield 39, 3) := by decide +kernel
theorem dX11_hearParts_19 : decode cX11_hearParts 19 = .ok (.getfield 237, 3) := by decide +kernel
theorem dX11_hearParts_22 : decode cX11_hearParts 22 = .ok (.getfield 355, 3) := by decide +kernel
theorem dX11_hearParts_25 : decode cX11_hearParts 25 = .ok (.iload_n 1, 1) := by decide +kernel
theorem dX11_hearParts_26 : decode cX11_hearParts 26 = .ok (.invokevirtual 182, 3) := by decide +kernel
theorem dX11_hearParts_29 : decode cX11_hearParts 29 = .ok (.istore 4, 2) := by decide +kernel
theorem dX11_hearParts_31 : decode cX11_hearParts 31 = .ok (.aload_n 0, 1) := by decide +kernel
theorem dX11_hearParts_32 : decode cX11_hearParts 32 = .ok (.getfield 39, 3) := by decide +kernel
theorem dX11_hearParts_35 : decode cX11_hearParts 35 = .ok (.getfield 237, 3) := by decide +kernel
theorem dX11_hearParts_38 : decode cX11_hearParts 38 = .ok (.getfield 352, 3) := by decide +kernel
theorem dX11_hearParts_41 : decode cX11_hearParts 41 = .ok (.iload_n 2, 1) := by decide +kernel
theorem dX11_hearParts_42 : decode cX11_hearParts 42 = .ok (.invokevirtual 182, 3) := by decide +kernel
theorem dX11_hearParts_45 : decode cX11_hearParts 45 = .ok (.iload_n 3, 1) := by decide +kernel
theorem dX11_hearParts_46 : decode cX11_hearParts 46 = .ok (.isub, 1) := by decide +kernel
theorem dX11_hearParts_47 : decode cX11_hearParts 47 = .ok (.istore 5, 2) := by decide +kernel
theorem dX11_hearParts_49 : decode cX11_hearParts 49 = .ok (.aload_n 0, 1) := by decide +kernel
theorem dX11_hearParts_50 : decode cX11_hearParts 50 = .ok (.getfield 39, 3) := by decide +kernel
theorem dX11_hearParts_53 : decode cX11_hearParts 53 = .ok (.getfield 237, 3) := by decide +kernel
theorem dX11_hearParts_56 : decode cX11_hearParts 56 = .ok (.getfield 355, 3) := by decide +kernel
theorem dX11_hearParts_59 : decode cX11_hearParts 59 = .ok (.iload_n 2, 1) := by decide +kernel
theorem dX11_hearParts_60 : decode cX11_hearParts 60 = .ok (.invokevirtual 182, 3) := by decide +kernel
theorem dX11_hearParts_63 : decode cX11_hearParts 63 = .ok (.iload 4, 2) := by decide +kernel
theorem dX11_hearParts_65 : decode cX11_hearParts 65 = .ok (.isub, 1) := by decide +kernel
theorem dX11_hearParts_66 : decode cX11_hearParts 66 = .ok (.istore 6, 2) := by decide +kernel
theorem dX11_hearParts_68 : decode cX11_hearParts 68 = .ok (.aload_n 0, 1) := by decide +kernel
theorem dX11_hearParts_69 : decode cX11_hearParts 69 = .ok (.getfield 90, 3) := by decide +kernel
theorem dX11_hearParts_72 : decode cX11_hearParts 72 = .ok (.invokevirtual 271, 3) := by decide +kernel
theorem dX11_hearParts_75 : decode cX11_hearParts 75 = .ok (.iconst 0, 1) := by decide +kernel
theorem dX11_hearParts_76 : decode cX11_hearParts 76 = .ok (.istore 7, 2) := by decide +kernel
theorem dX11_hearParts_78 : decode cX11_hearParts 78 = .ok (.iload 7, 2) := by decide +kernel
theorem dX11_hearParts_80 : decode cX11_hearParts 80 = .ok (.bipush 100, 2) := by decide +kernel
theorem dX11_hearParts_82 : decode cX11_hearParts 82 = .ok (.if_icmp .gt 55, 3) := by decide +kernel
theorem dX11_hearParts_85 : decode cX11_hearParts 85 = .ok (.aload_n 0, 1) := by decide +kernel
theorem dX11_hearParts_86 : decode cX11_hearParts 86 = .ok (.aload_n 0, 1) := by decide +kernel
theorem dX11_hearParts_87 : decode cX11_hearParts 87 = .ok (.getfield 39, 3) := by decide +kernel
theorem dX11_hearParts_90 : decode cX11_hearParts 90 = .ok (.getfield 112, 3) := by decide +kernel
theorem dX11_hearParts_93 : decode cX11_hearParts 93 = .ok (.iload_n 3, 1) := by decide +kernel
theorem dX11_hearParts_94 : decode cX11_hearParts 94 = .ok (.iload 5, 2) := by decide +kernel
theorem dX11_hearParts_96 : decode cX11_hearParts 96 = .ok (.iload 7, 2) := by decide +kernel
theorem dX11_hearParts_98 : decode cX11_hearParts 98 = .ok (.imul, 1) := by decide +kernel
theorem dX11_hearParts_99 : decode cX11_hearParts 99 = .ok (.bipush 100, 2) := by decide +kernel
theorem dX11_hearParts_101 : decode cX11_hearParts 101 = .ok (.idiv, 1) := by decide +kernel
theorem dX11_hearParts_102 : decode cX11_hearParts 102 = .ok (.iadd, 1) := by decide +kernel
theorem dX11_hearParts_103 : decode cX11_hearParts 103 = .ok (.iload 4, 2) := by decide +kernel
theorem dX11_hearParts_105 : decode cX11_hearParts 105 = .ok (.iload 6, 2) := by decide +kernel
theorem dX11_hearParts_107 : decode cX11_hearParts 107 = .ok (.iload 7, 2) := by decide +kernel
theorem dX11_hearParts_109 : decode cX11_hearParts 109 = .ok (.imul, 1) := by decide +kernel
theorem dX11_hearParts_110 : decode cX11_hearParts 110 = .ok (.bipush 100, 2) := by decide +kernel
theorem dX11_hearParts_112 : decode cX11_hearParts 112 = .ok (.idiv, 1) := by decide +kernel
theorem dX11_hearParts_113 : decode cX11_hearParts 113 = .ok (.iadd, 1) := by decide +kernel
theorem dX11_hearParts_114 : decode cX11_hearParts 114 = .ok (.invokevirtual 225, 3) := by decide +kernel
theorem dX11_hearParts_117 : decode cX11_hearParts 117 = .ok (.aload_n 0, 1) := by decide +kernel
theorem dX11_hearParts_118 : decode cX11_hearParts 118 = .ok (.getfield 90, 3) := by decide +kernel
theorem dX11_hearParts_121 : decode cX11_hearParts 121 = .ok (.aload_n 0, 1) := by decide +kernel
theorem dX11_hearParts_122 : decode cX11_hearParts 122 = .ok (.getfield 54, 3) := by decide +kernel
theorem dX11_hearParts_125 : decode cX11_hearParts 125 = .ok (.getfield 228, 3) := by decide +kernel
theorem dX11_hearParts_128 : decode cX11_hearParts 128 = .ok (.invokevirtual 278, 3) := by decide +kernel
theorem dX11_hearParts_131 : decode cX11_hearParts 131 = .ok (.iinc 7 1, 3) := by decide +kernel
theorem dX11_hearParts_134 : decode cX11_hearParts 134 = .ok (.goto (-56), 3) := by decide +kernel
theorem dX11_hearParts_137 : decode cX11_hearParts 137 = .ok (.return_, 1) := by decide +kernel
theorem hcX11_hearParts : yX11_hearParts.cls ≠ "java/lang/invoke/MethodHandle" ∧ yX11_hearParts.cls ≠ "java/lang/invoke/VarHandle" ∧ (parseMethodDescriptor yX11_hearParts.desc).map (fun d => d.parameters.length) = some 2 := ⟨by decide +kernel, by decide +kernel, by decide +kernel⟩
def fX11_hearParts_L78 (La : sg_L) (u4 : Int) (u9 : Int) (u14 : Int) (u19 : Int) (Q : sg_M → Prop) : Nat → sg_M → Int → Prop
  | 0, _, _ => False
  | n_78 + 1, s_78, x7_78 => ((100 < x7_78 → Q s_78) ∧ (¬ (100 < x7_78) → sg_R ((u14 - u4) * x7_78) ∧ sg_R ((u19 - u9) * x7_78) ∧ (0 ≤ (s_78 4 0)) ∧ sg_R (u4 + (Int.tdiv ((u14 - u4) * x7_78) 100)) ∧ sg_R (u9 + (Int.tdiv ((u19 - u9) * x7_78) 100)) ∧ fX11_listenTo La s_78 (s_78 4 0) (u4 + (Int.tdiv ((u14 - u4) * x7_78) 100)) (u9 + (Int.tdiv ((u19 - u9) * x7_78) 100)) (fun s32 => fX4_add La s32 56 (s32 32 7) (fun s36 => sg_R (x7_78 + 1) ∧ (fX11_hearParts_L78 La u4 u9 u14 u19 Q n_78) s36 (x7_78 + 1)))))
def fX11_hearParts (La : sg_L) (s0 : sg_M) (x1 : Int) (x2 : Int) (Q : sg_M → Prop) : Prop := fX4_at La s0 21 x1 (fun u4 => fX4_at La s0 23 x1 (fun u9 => fX4_at La s0 21 x2 (fun u14 => fX4_at La s0 23 x2 (fun u19 => fX4_clear s0 56 (fun s22 => (∃ n38 : Nat, fX11_hearParts_L78 La u4 u9 u14 u19 Q n38 s22 0))))))
set_option maxHeartbeats 4000000 in
set_option maxRecDepth 100000 in
theorem CX11_hearParts {l : Launch} {G : sg_G} {La : sg_L} {s0 : sg_M} (hst : sg_St La) {x1 : Int} (r1 : sg_R x1) {x2 : Int} (r2 : sg_R x2) {Q : sg_M → Prop} (hf : fX11_hearParts La s0 x1 x2 Q) : sg_C l G yX11_hearParts cX11_hearParts 8 (none) 6 0 0 La s0 [sg_r 0, sg_i x1, sg_i x2] (sg_HV La Q) := by
  refine sg_body (by decide +kernel) (Nat.le_of_ble_eq_true rfl) ?_
  intro p e s m args below meth c F hnm
  unfold fX11_hearParts at hf
  show sg_W p l e (sg_rm 6 0 0) s m args below meth c (MQ below (sg_Q (none) G La s.heap.size (sg_HV La Q)) args s 0 0 (sg_A La s.heap.size)) 8 G (sg_A La s.heap.size) La s0 0 0 0 [(0, sg_r 0), (1, sg_i x1), (2, sg_i x2)] []
  refine gw_aload_n F 0 rfl rfl (by decide) dX11_hearParts_0 ?_
  refine gw_get7 F (so_0 hst) (by decide) rfl sg_lay_RX11 (j := 2) (by decide) (o1 := 4) (by first | rfl | omega) rfl (host := "") (.inl kw_328) dX11_hearParts_1 (fun h1 => ?_)
  refine gw_get7 F (so_4 hst) (by decide) rfl sg_lay_RX7 (j := 3) (by decide) (o1 := 20) (by first | rfl | omega) rfl (.inr kw_240) dX11_hearParts_4 (fun h2 => ?_)
  refine gw_get3 F (so_20 hst) (by decide) rfl sg_lay_RX2 (j := 0) (by decide) (o1 := 21) (by first | rfl | omega) rfl (.inr kw_225) dX11_hearParts_7 (fun h3 => ?_)
  refine gw_iload_n F 1 rfl rfl dX11_hearParts_10 ?_
  refine gk_PI F (gc_V F (S := []) (As := [sg_i x1]) (T := TX4) (N := 3) (CX4_at (so_21 hst) r1 hf) (so_21 hst) (by decide) rfl kw_546 kw_97 kw_543 kw_544 kw_545 hcX4_at ⟨by decide, by decide⟩ rfl rfl (Nat.le_of_ble_eq_true rfl) ⟨by decide, by decide⟩ dX11_hearParts_11) (fun u4 h5 hf => ?_)
  refine gw_istore_n F rfl (by decide) rfl dX11_hearParts_14 ?_
  refine gw_aload_n F 1 rfl rfl (by decide) dX11_hearParts_15 ?_
  refine gw_get7 F (so_0 hst) (by decide) rfl sg_lay_RX11 (j := 2) (by decide) (o1 := 4) (by first | rfl | omega) rfl (host := "") (.inl kw_328) dX11_hearParts_16 (fun h6 => ?_)
  refine gw_get7 F (so_4 hst) (by decide) rfl sg_lay_RX7 (j := 3) (by decide) (o1 := 20) (by first | rfl | omega) rfl (.inr kw_240) dX11_hearParts_19 (fun h7 => ?_)
  refine gw_get3 F (so_20 hst) (by decide) rfl sg_lay_RX2 (j := 1) (by decide) (o1 := 23) (by first | rfl | omega) rfl (.inr kw_227) dX11_hearParts_22 (fun h8 => ?_)
  refine gw_iload_n F 2 rfl rfl dX11_hearParts_25 ?_
  refine gk_PI F (gc_V F (S := []) (As := [sg_i x1]) (T := TX4) (N := 3) (CX4_at (so_23 hst) r1 hf) (so_23 hst) (by decide) rfl kw_546 kw_97 kw_543 kw_544 kw_545 hcX4_at ⟨by decide, by decide⟩ rfl rfl (Nat.le_of_ble_eq_true rfl) ⟨by decide, by decide⟩ dX11_hearParts_26) (fun u9 h10 hf => ?_)
  refine gw_istore F (by decide) rfl dX11_hearParts_29 ?_
  refine gw_aload_n F 2 rfl rfl (by decide) dX11_hearParts_31 ?_
  refine gw_get7 F (so_0 hst) (by decide) rfl sg_lay_RX11 (j := 2) (by decide) (o1 := 4) (by first | rfl | omega) rfl (host := "") (.inl kw_328) dX11_hearParts_32 (fun h11 => ?_)
  refine gw_get7 F (so_4 hst) (by decide) rfl sg_lay_RX7 (j := 3) (by decide) (o1 := 20) (by first | rfl | omega) rfl (.inr kw_240) dX11_hearParts_35 (fun h12 => ?_)
  refine gw_get3 F (so_20 hst) (by decide) rfl sg_lay_RX2 (j := 0) (by decide) (o1 := 21) (by first | rfl | omega) rfl (.inr kw_225) dX11_hearParts_38 (fun h13 => ?_)
  refine gw_iload_n F 4 rfl rfl dX11_hearParts_41 ?_
  refine gk_PI F (gc_V F (S := []) (As := [sg_i x2]) (T := TX4) (N := 3) (CX4_at (so_21 hst) r2 hf) (so_21 hst) (by decide) rfl kw_546 kw_97 kw_543 kw_544 kw_545 hcX4_at ⟨by decide, by decide⟩ rfl rfl (Nat.le_of_ble_eq_true rfl) ⟨by decide, by decide⟩ dX11_hearParts_42) (fun u14 h15 hf => ?_)
  refine gw_iload_n F 1 rfl rfl dX11_hearParts_45 ?_
  refine gw_isub F rfl dX11_hearParts_46 ?_
  refine gw_istore F (by decide) rfl dX11_hearParts_47 ?_
  refine gw_aload_n F 3 rfl rfl (by decide) dX11_hearParts_49 ?_
  refine gw_get7 F (so_0 hst) (by decide) rfl sg_lay_RX11 (j := 2) (by decide) (o1 := 4) (by first | rfl | omega) rfl (host := "") (.inl kw_328) dX11_hearParts_50 (fun h16 => ?_)
  refine gw_get7 F (so_4 hst) (by decide) rfl sg_lay_RX7 (j := 3) (by decide) (o1 := 20) (by first | rfl | omega) rfl (.inr kw_240) dX11_hearParts_53 (fun h17 => ?_)
  refine gw_get3 F (so_20 hst) (by decide) rfl sg_lay_RX2 (j := 1) (by decide) (o1 := 23) (by first | rfl | omega) rfl (.inr kw_227) dX11_hearParts_56 (fun h18 => ?_)
  refine gw_iload_n F 5 rfl rfl dX11_hearParts_59 ?_
  refine gk_PI F (gc_V F (S := []) (As := [sg_i x2]) (T := TX4) (N := 3) (CX4_at (so_23 hst) r2 hf) (so_23 hst) (by decide) rfl kw_546 kw_97 kw_543 kw_544 kw_545 hcX4_at ⟨by decide, by decide⟩ rfl rfl (Nat.le_of_ble_eq_true rfl) ⟨by decide, by decide⟩ dX11_hearParts_60) (fun u19 h20 hf => ?_)
  refine gw_iload F 1 rfl dX11_hearParts_63 ?_
  refine gw_isub F rfl dX11_hearParts_65 ?_
  refine gw_istore F (by decide) rfl dX11_hearParts_66 ?_
  refine gw_aload_n F 4 rfl rfl (by decide) dX11_hearParts_68 ?_
  refine gw_get7 F (so_0 hst) (by decide) rfl sg_lay_RX11 (j := 12) (by decide) (o1 := 56) (by first | rfl | omega) rfl (host := "") (.inl kw_338) dX11_hearParts_69 (fun h21 => ?_)
  refine gk_HV F (gc_V F (S := []) (As := []) (T := TX4) (N := 3) (CX4_clear (so_56 hst) hf) (so_56 hst) (by decide) rfl kw_531 kw_97 kw_652 kw_529 kw_530 hcX4_clear ⟨by decide, by decide⟩ rfl rfl (Nat.le_of_ble_eq_true rfl) ⟨by decide, by decide⟩ dX11_hearParts_72) (fun s22 hf => ?_)
  refine gw_iconst F dX11_hearParts_75 ?_
  refine gw_istore F (by decide) rfl dX11_hearParts_76 ?_
  have L78 : ∀ n_78 : Nat, ∀ (s_78 : sg_M) (x7_78 : Int), sg_R x7_78 → fX11_hearParts_L78 La u4 u9 u14 u19 Q n_78 s_78 x7_78 → sg_W p l e (sg_rm 6 0 0) s m args below meth c (MQ below (sg_Q (none) G La s.heap.size (sg_HV La Q)) args s 0 0 (sg_A La s.heap.size)) 8 G (sg_A La s.heap.size) La s_78 0 0 78 [(0, sg_r 0), (3, sg_i u4), (4, sg_i u9), (5, sg_i (u14 - u4)), (6, sg_i (u19 - u9)), (7, sg_i x7_78)] [] := by
    intro n_78
    induction n_78 with
    | zero => intro s_78 x7_78 r7_78 hf; exact hf.elim
    | succ n_78 ih =>
      intro s_78 x7_78 r7_78 hf
      unfold fX11_hearParts_L78 at hf
      refine gw_iload F 5 rfl dX11_hearParts_78 ?_
      refine gw_bipush F rfl dX11_hearParts_80 ?_
      refine gw_icmp_gt F (tgt := 137) dX11_hearParts_82 (by decide) r7_78 (by decide) (fun c23 => ?_) (fun c23 => ?_)
      · have hf := hf.1 c23
        exact gr_HV F hf (by decide) (by decide) dX11_hearParts_137
      · have hf := hf.2 c23
        refine gw_aload_n F 0 rfl rfl (by decide) dX11_hearParts_85 ?_
        refine gw_aload_n F 0 rfl rfl (by decide) dX11_hearParts_86 ?_
        refine gw_get7 F (so_0 hst) (by decide) rfl sg_lay_RX11 (j := 2) (by decide) (o1 := 4) (by first | rfl | omega) rfl (host := "") (.inl kw_328) dX11_hearParts_87 (fun h24 => ?_)
        refine gw_get4 F (so_4 hst) (by decide) rfl sg_lay_RX7 (j := 0) (by decide) rfl (.inr kw_234) dX11_hearParts_90 (fun h25 => ?_)
        refine gw_iload_n F 1 rfl rfl dX11_hearParts_93 ?_
        refine gw_iload F 3 rfl dX11_hearParts_94 ?_
        refine gw_iload F 5 rfl dX11_hearParts_96 ?_
        refine gw_imul F rfl dX11_hearParts_98 ?_
        refine gw_bipush F rfl dX11_hearParts_99 ?_
        obtain ⟨g26, hf⟩ := hf
        refine gw_idiv F g26 (by decide) (by decide) rfl dX11_hearParts_101 ?_
        refine gw_iadd F rfl dX11_hearParts_102 ?_
        refine gw_iload F 2 rfl dX11_hearParts_103 ?_
        refine gw_iload F 4 rfl dX11_hearParts_105 ?_
        refine gw_iload F 5 rfl dX11_hearParts_107 ?_
        refine gw_imul F rfl dX11_hearParts_109 ?_
        refine gw_bipush F rfl dX11_hearParts_110 ?_
        obtain ⟨g27, hf⟩ := hf
        refine gw_idiv F g27 (by decide) (by decide) rfl dX11_hearParts_112 ?_
        refine gw_iadd F rfl dX11_hearParts_113 ?_
        obtain ⟨g28, hf⟩ := hf
        have t29 := sg_nn h25 g28
        obtain ⟨g30, hf⟩ := hf
        obtain ⟨g31, hf⟩ := hf
        refine gk_HV F (gc_V F (S := []) (As := [sg_r (s_78 4 0), sg_i (u4 + (Int.tdiv ((u14 - u4) * x7_78) 100)), sg_i (u9 + (Int.tdiv ((u19 - u9) * x7_78) 100))]) (T := TX11) (N := 19) (CX11_listenTo hst t29 g30 g31 hf) (so_0 hst) (by decide) rfl kw_655 kw_90 kw_653 kw_654 kw_20 hcX11_listenTo ⟨by decide, by decide⟩ rfl rfl (Nat.le_of_ble_eq_true rfl) ⟨by decide, by decide⟩ dX11_hearParts_114) (fun s32 hf => ?_)
        refine gw_aload_n F 0 rfl rfl (by decide) dX11_hearParts_117 ?_
        refine gw_get7 F (so_0 hst) (by decide) rfl sg_lay_RX11 (j := 12) (by decide) (o1 := 56) (by first | rfl | omega) rfl (host := "") (.inl kw_338) dX11_hearParts_118 (fun h33 => ?_)
        refine gw_aload_n F 0 rfl rfl (by decide) dX11_hearParts_121 ?_
        refine gw_get7 F (so_0 hst) (by decide) rfl sg_lay_RX11 (j := 5) (by decide) (o1 := 32) (by first | rfl | omega) rfl (host := "") (.inl kw_331) dX11_hearParts_122 (fun h34 => ?_)
        refine gw_get0 F (so_32 hst) (by decide) rfl sg_lay_RX0 (j := 7) (by decide) rfl (.inr kw_266) dX11_hearParts_125 (fun h35 => ?_)
        refine gk_HV F (gc_V F (S := []) (As := [sg_i (s32 32 7)]) (T := TX4) (N := 3) (CX4_add (so_56 hst) h35 hf) (so_56 hst) (by decide) rfl kw_538 kw_97 kw_663 kw_536 kw_537 hcX4_add ⟨by decide, by decide⟩ rfl rfl (Nat.le_of_ble_eq_true rfl) ⟨by decide, by decide⟩ dX11_hearParts_128) (fun s36 hf => ?_)
        refine gw_iinc F (z := (x7_78 + 1)) 5 rfl (by omega) (by decide) rfl dX11_hearParts_131 ?_
        refine gw_goto F (tgt := 78) dX11_hearParts_134 (by decide) ?_
        obtain ⟨g37, hf⟩ := hf
        refine gw_sub [1, 2, 3, 4, 5, 0] rfl ?_
        exact ih s36 (x7_78 + 1) g37 hf
  obtain ⟨n38, hf⟩ := hf
  refine gw_sub [5, 4, 3, 2, 1, 0] rfl ?_
  refine L78   n38 s22 0 (by decide) hf

theorem dX11_even_0 : decode cX11_even 0 = .ok (.iload_n 3, 1) := by decide +kernel
theorem dX11_even_1 : decode cX11_even 1 = .ok (.iconst 1, 1) := by decide +kernel
theorem dX11_even_2 : decode cX11_even 2 = .ok (.if_icmp .lt 9, 3) := by decide +kernel
theorem dX11_even_5 : decode cX11_even 5 = .ok (.iload_n 3, 1) := by decide +kernel
theorem dX11_even_6 : decode cX11_even 6 = .ok (.bipush 20, 2) := by decide +kernel
theorem dX11_even_8 : decode cX11_even 8 = .ok (.if_icmp .le 5, 3) := by decide +kernel
theorem dX11_even_11 : decode cX11_even 11 = .ok (.iconst (-1), 1) := by decide +kernel
theorem dX11_even_12 : decode cX11_even 12 = .ok (.ireturn, 1) := by decide +kernel
theorem dX11_even_13 : decode cX11_even 13 = .ok (.aload_n 0, 1) := by decide +kernel
theorem dX11_even_14 : decode cX11_even 14 = .ok (.invokevirtual 251, 3) := by decide +kernel
theorem dX11_even_17 : decode cX11_even 17 = .ok (.aload_n 0, 1) := by decide +kernel
theorem dX11_even_18 : decode cX11_even 18 = .ok (.getfield 93, 3) := by decide +kernel
theorem dX11_even_21 : decode cX11_even 21 = .ok (.iload_n 1, 1) := by decide +kernel
theorem dX11_even_22 : decode cX11_even 22 = .ok (.invokevirtual 182, 3) := by decide +kernel
theorem dX11_even_25 : decode cX11_even 25 = .ok (.istore 4, 2) := by decide +kernel
theorem dX11_even_27 : decode cX11_even 27 = .ok (.aload_n 0, 1) := by decide +kernel
theorem dX11_even_28 : decode cX11_even 28 = .ok (.getfield 93, 3) := by decide +kernel
theorem dX11_even_31 : decode cX11_even 31 = .ok (.iload_n 2, 1) := by decide +kernel
theorem dX11_even_32 : decode cX11_even 32 = .ok (.invokevirtual 182, 3) := by decide +kernel
theorem dX11_even_35 : decode cX11_even 35 = .ok (.istore 5, 2) := by decide +kernel
theorem dX11_even_37 : decode cX11_even 37 = .ok (.iload 4, 2) := by decide +kernel
theorem dX11_even_39 : decode cX11_even 39 = .ok (.iconst 1, 1) := by decide +kernel
theorem dX11_even_40 : decode cX11_even 40 = .ok (.if_icmp .lt 9, 3) := by decide +kernel
theorem dX11_even_43 : decode cX11_even 43 = .ok (.iload 5, 2) := by decide +kernel
theorem dX11_even_45 : decode cX11_even 45 = .ok (.iconst 1, 1) := by decide +kernel
theorem dX11_even_46 : decode cX11_even 46 = .ok (.if_icmp .ge 5, 3) := by decide +kernel
theorem dX11_even_49 : decode cX11_even 49 = .ok (.iconst (-1), 1) := by decide +kernel
theorem dX11_even_50 : decode cX11_even 50 = .ok (.ireturn, 1) := by decide +kernel
theorem dX11_even_51 : decode cX11_even 51 = .ok (.aload_n 0, 1) := by decide +kernel
theorem dX11_even_52 : decode cX11_even 52 = .ok (.iload_n 1, 1) := by decide +kernel
theorem dX11_even_53 : decode cX11_even 53 = .ok (.iload_n 2, 1) := by decide +kernel
theorem dX11_even_54 : decode cX11_even 54 = .ok (.invokevirtual 280, 3) := by decide +kernel
theorem dX11_even_57 : decode cX11_even 57 = .ok (.aload_n 0, 1) := by decide +kernel
theorem dX11_even_58 : decode cX11_even 58 = .ok (.getfield 87, 3) := by decide +kernel
theorem dX11_even_61 : decode cX11_even 61 = .ok (.invokevirtual 271, 3) := by decide +kernel
theorem dX11_even_64 : decode cX11_even 64 = .ok (.iconst 0, 1) := by decide +kernel
theorem dX11_even_65 : decode cX11_even 65 = .ok (.istore 6, 2) := by decide +kernel
theorem dX11_even_67 : decode cX11_even 67 = .ok (.iconst 0, 1) := by decide +kernel
theorem dX11_even_68 : decode cX11_even 68 = .ok (.istore 7, 2) := by decide +kernel
theorem dX11_even_70 : decode cX11_even 70 = .ok (.iload 7, 2) := by decide +kernel
theorem dX11_even_72 : decode cX11_even 72 = .ok (.iload_n 3, 1) := by decide +kernel
theorem dX11_even_73 : decode cX11_even 73 = .ok (.if_icmp .gt 69, 3) := by decide +kernel
theorem dX11_even_76 : decode cX11_even 76 = .ok (.aload_n 0, 1) := by decide +kernel
theorem dX11_even_77 : decode cX11_even 77 = .ok (.getfield 87, 3) := by decide +kernel
theorem dX11_even_80 : decode cX11_even 80 = .ok (.aload_n 0, 1) := by decide +kernel
theorem dX11_even_81 : decode cX11_even 81 = .ok (.iload 4, 2) := by decide +kernel
theorem dX11_even_83 : decode cX11_even 83 = .ok (.iload 5, 2) := by decide +kernel
theorem dX11_even_85 : decode cX11_even 85 = .ok (.iload 4, 2) := by decide +kernel
theorem dX11_even_87 : decode cX11_even 87 = .ok (.isub, 1) := by decide +kernel
theorem dX11_even_88 : decode cX11_even 88 = .ok (.iload 7, 2) := by decide +kernel
theorem dX11_even_90 : decode cX11_even 90 = .ok (.imul, 1) := by decide +kernel
theorem dX11_even_91 : decode cX11_even 91 = .ok (.iload_n 3, 1) := by decide +kernel
theorem dX11_even_92 : decode cX11_even 92 = .ok (.idiv, 1) := by decide +kernel
theorem dX11_even_93 : decode cX11_even 93 = .ok (.iadd, 1) := by decide +kernel
theorem dX11_even_94 : decode cX11_even 94 = .ok (.invokevirtual 283, 3) := by decide +kernel
theorem dX11_even_97 : decode cX11_even 97 = .ok (.invokevirtual 278, 3) := by decide +kernel
theorem dX11_even_100 : decode cX11_even 100 = .ok (.iload 7, 2) := by decide +kernel
theorem dX11_even_102 : decode cX11_even 102 = .ok (.ifCond .le 34, 3) := by decide +kernel
theorem dX11_even_105 : decode cX11_even 105 = .ok (.iload 6, 2) := by decide +kernel
theorem dX11_even_107 : decode cX11_even 107 = .ok (.aload_n 0, 1) := by decide +kernel
theorem dX11_even_108 : decode cX11_even 108 = .ok (.getfield 87, 3) := by decide +kernel
theorem dX11_even_111 : decode cX11_even 111 = .ok (.iload 7, 2) := by decide +kernel
theorem dX11_even_113 : decode cX11_even 113 = .ok (.invokevirtual 182, 3) := by decide +kernel
theorem dX11_even_116 : decode cX11_even 116 = .ok (.aload_n 0, 1) := by decide +kernel
theorem dX11_even_117 : decode cX11_even 117 = .ok (.getfield 87, 3) := by decide +kernel
theorem dX11_even_120 : decode cX11_even 120 = .ok (.iload 7, 2) := by decide +kernel
theorem dX11_even_122 : decode cX11_even 122 = .ok (.iconst 1, 1) := by decide +kernel
theorem dX11_even_123 : decode cX11_even 123 = .ok (.isub, 1) := by decide +kernel
theorem dX11_even_124 : decode cX11_even 124 = .ok (.invokevirtual 182, 3) := by decide +kernel
theorem dX11_even_127 : decode cX11_even 127 = .ok (.isub, 1) := by decide +kernel
theorem dX11_even_128 : decode cX11_even 128 = .ok (.invokestatic 286, 3) := by decide +kernel
theorem dX11_even_131 : decode cX11_even 131 = .ok (.invokestatic 291, 3) := by decide +kernel
theorem dX11_even_134 : decode cX11_even 134 = .ok (.istore 6, 2) := by decide +kernel
theorem dX11_even_136 : decode cX11_even 136 = .ok (.iinc 7 1, 3) := by decide +kernel
theorem dX11_even_139 : decode cX11_even 139 = .ok (.goto (-69), 3) := by decide +kernel
theorem dX11_even_142 : decode cX11_even 142 = .ok (.iload 6, 2) := by decide +kernel
theorem dX11_even_144 : decode cX11_even 144 = .ok (.ireturn, 1) := by decide +kernel
theorem hcX11_even : yX11_even.cls ≠ "java/lang/invoke/MethodHandle" ∧ yX11_even.cls ≠ "java/lang/invoke/VarHandle" ∧ (parseMethodDescriptor yX11_even.desc).map (fun d => d.parameters.length) = some 3 := ⟨by decide +kernel, by decide +kernel, by decide +kernel⟩
def fX11_even_j136 (x7_70 : Int) (s22 : sg_M) (k70 : sg_M → Int → Int → Prop) (x6_136 : Int) : Prop := sg_R (x7_70 + 1) ∧ k70 s22 x6_136 (x7_70 + 1)
def fX11_even_L70 (La : sg_L) (x3 : Int) (u5 : Int) (u8 : Int) (Q : Int → sg_M → Prop) : Nat → sg_M → Int → Int → Prop
  | 0, _, _, _ => False
  | n_70 + 1, s_70, x6_70, x7_70 => ((x3 < x7_70 → Q x6_70 s_70) ∧ (¬ (x3 < x7_70) → sg_R ((u8 - u5) * x7_70) ∧ (x3 ≠ 0) ∧ sg_R (u5 + (Int.tdiv ((u8 - u5) * x7_70) x3)) ∧ fX11_nearestPart La s_70 (u5 + (Int.tdiv ((u8 - u5) * x7_70) x3)) (fun u20 => fX4_add La s_70 54 u20 (fun s22 => ((x7_70 ≤ 0 → (fX11_even_j136 x7_70 s22 (fX11_even_L70 La x3 u5 u8 Q n_70)) x6_70) ∧ (¬ (x7_70 ≤ 0) → fX4_at La s22 54 x7_70 (fun u26 => sg_R (x7_70 - 1) ∧ fX4_at La s22 54 (x7_70 - 1) (fun u30 => sg_R (u26 - u30) ∧ sg_R (sg_abs (u26 - u30)) ∧ ∀ v34 : Int, v34 = (sg_max x6_70 (sg_abs (u26 - u30))) → sg_R v34 ∧ (fX11_even_j136 x7_70 s22 (fX11_even_L70 La x3 u5 u8 Q n_70)) v34))))))))
def fX11_even (La : sg_L) (s0 : sg_M) (x1 : Int) (x2 : Int) (x3 : Int) (Q : Int → sg_M → Prop) : Prop := ((x3 < 1 → Q (-1) s0) ∧ (¬ (x3 < 1) → ((x3 ≤ 20 → fX11_hearBook La s0 (fun s3 => fX4_at La s3 58 x1 (fun u5 => fX4_at La s3 58 x2 (fun u8 => ((u5 < 1 → Q (-1) s3) ∧ (¬ (u5 < 1) → ((1 ≤ u8 → fX11_hearParts La s3 x1 x2 (fun s12 => fX4_clear s12 54 (fun s14 => (∃ n37 : Nat, fX11_even_L70 La x3 u5 u8 Q n37 s14 0 0)))) ∧ (¬ (1 ≤ u8) → Q (-1) s3)))))))) ∧ (¬ (x3 ≤ 20) → Q (-1) s0))))
set_option maxHeartbeats 4000000 in
set_option maxRecDepth 100000 in
theorem CX11_even {l : Launch} {G : sg_G} {La : sg_L} {s0 : sg_M} (hst : sg_St La) {x1 : Int} (r1 : sg_R x1) {x2 : Int} (r2 : sg_R x2) {x3 : Int} (r3 : sg_R x3) {Q : Int → sg_M → Prop} (hf : fX11_even La s0 x1 x2 x3 Q) : sg_C l G yX11_even cX11_even 8 (some .int) 7 0 0 La s0 [sg_r 0, sg_i x1, sg_i x2, sg_i x3] (sg_HI La Q) := by
  refine sg_body (by decide +kernel) (Nat.le_of_ble_eq_true rfl) ?_
  intro p e s m args below meth c F hnm
  unfold fX11_even at hf
  show sg_W p l e (sg_rm 7 0 0) s m args below meth c (MQ below (sg_Q (some .int) G La s.heap.size (sg_HI La Q)) args s 0 0 (sg_A La s.heap.size)) 8 G (sg_A La s.heap.size) La s0 0 0 0 [(0, sg_r 0), (1, sg_i x1), (2, sg_i x2), (3, sg_i x3)] []
  refine gw_iload_n F 3 rfl rfl dX11_even_0 ?_
  refine gw_iconst F dX11_even_1 ?_
  refine gw_icmp_lt F (tgt := 11) dX11_even_2 (by decide) r3 (by decide) (fun c1 => ?_) (fun c1 => ?_)
  · have hf := hf.1 c1
    refine gw_iconst F dX11_even_11 ?_
    exact gr_HI F (by decide) hf (by decide) (by decide) dX11_even_12
  · have hf := hf.2 c1
    refine gw_iload_n F 3 rfl rfl dX11_even_5 ?_
    refine gw_bipush F rfl dX11_even_6 ?_
    refine gw_icmp_le F (tgt := 13) dX11_even_8 (by decide) r3 (by decide) (fun c2 => ?_) (fun c2 => ?_)
    · have hf := hf.1 c2
      refine gw_aload_n F 0 rfl rfl (by decide) dX11_even_13 ?_
      refine gk_HV F (gc_V F (S := []) (As := []) (T := TX11) (N := 19) (CX11_hearBook hst hf) (so_0 hst) (by decide) rfl kw_651 kw_90 kw_649 kw_650 kw_19 hcX11_hearBook ⟨by decide, by decide⟩ rfl rfl (Nat.le_of_ble_eq_true rfl) ⟨by decide, by decide⟩ dX11_even_14) (fun s3 hf => ?_)
      refine gw_aload_n F 0 rfl rfl (by decide) dX11_even_17 ?_
      refine gw_get7 F (so_0 hst) (by decide) rfl sg_lay_RX11 (j := 13) (by decide) (o1 := 58) (by first | rfl | omega) rfl (host := "") (.inl kw_339) dX11_even_18 (fun h4 => ?_)
      refine gw_iload_n F 1 rfl rfl dX11_even_21 ?_
      refine gk_PI F (gc_V F (S := []) (As := [sg_i x1]) (T := TX4) (N := 3) (CX4_at (so_58 hst) r1 hf) (so_58 hst) (by decide) rfl kw_546 kw_97 kw_543 kw_544 kw_545 hcX4_at ⟨by decide, by decide⟩ rfl rfl (Nat.le_of_ble_eq_true rfl) ⟨by decide, by decide⟩ dX11_even_22) (fun u5 h6 hf => ?_)
      refine gw_istore F (by decide) rfl dX11_even_25 ?_
      refine gw_aload_n F 1 rfl rfl (by decide) dX11_even_27 ?_
      refine gw_get7 F (so_0 hst) (by decide) rfl sg_lay_RX11 (j := 13) (by decide) (o1 := 58) (by first | rfl | omega) rfl (host := "") (.inl kw_339) dX11_even_28 (fun h7 => ?_)
      refine gw_iload_n F 3 rfl rfl dX11_even_31 ?_
      refine gk_PI F (gc_V F (S := []) (As := [sg_i x2]) (T := TX4) (N := 3) (CX4_at (so_58 hst) r2 hf) (so_58 hst) (by decide) rfl kw_546 kw_97 kw_543 kw_544 kw_545 hcX4_at ⟨by decide, by decide⟩ rfl rfl (Nat.le_of_ble_eq_true rfl) ⟨by decide, by decide⟩ dX11_even_32) (fun u8 h9 hf => ?_)
      refine gw_istore F (by decide) rfl dX11_even_35 ?_
      refine gw_iload F 1 rfl dX11_even_37 ?_
      refine gw_iconst F dX11_even_39 ?_
      refine gw_icmp_lt F (tgt := 49) dX11_even_40 (by decide) h6 (by decide) (fun c10 => ?_) (fun c10 => ?_)
      · have hf := hf.1 c10
        refine gw_iconst F dX11_even_49 ?_
        exact gr_HI F (by decide) hf (by decide) (by decide) dX11_even_50
      · have hf := hf.2 c10
        refine gw_iload F 0 rfl dX11_even_43 ?_
        refine gw_iconst F dX11_even_45 ?_
        refine gw_icmp_ge F (tgt := 51) dX11_even_46 (by decide) h9 (by decide) (fun c11 => ?_) (fun c11 => ?_)
        · have hf := hf.1 c11
          refine gw_aload_n F 2 rfl rfl (by decide) dX11_even_51 ?_
          refine gw_iload_n F 3 rfl rfl dX11_even_52 ?_
          refine gw_iload_n F 4 rfl rfl dX11_even_53 ?_
          refine gk_HV F (gc_V F (S := []) (As := [sg_i x1, sg_i x2]) (T := TX11) (N := 19) (CX11_hearParts hst r1 r2 hf) (so_0 hst) (by decide) rfl kw_736 kw_90 kw_734 kw_735 kw_26 hcX11_hearParts ⟨by decide, by decide⟩ rfl rfl (Nat.le_of_ble_eq_true rfl) ⟨by decide, by decide⟩ dX11_even_54) (fun s12 hf => ?_)
          refine gw_aload_n F 2 rfl rfl (by decide) dX11_even_57 ?_
          refine gw_get7 F (so_0 hst) (by decide) rfl sg_lay_RX11 (j := 11) (by decide) (o1 := 54) (by first | rfl | omega) rfl (host := "") (.inl kw_337) dX11_even_58 (fun h13 => ?_)
          refine gk_HV F (gc_V F (S := []) (As := []) (T := TX4) (N := 3) (CX4_clear (so_54 hst) hf) (so_54 hst) (by decide) rfl kw_531 kw_97 kw_652 kw_529 kw_530 hcX4_clear ⟨by decide, by decide⟩ rfl rfl (Nat.le_of_ble_eq_true rfl) ⟨by decide, by decide⟩ dX11_even_61) (fun s14 hf => ?_)
          refine gw_iconst F dX11_even_64 ?_
          refine gw_istore F (by decide) rfl dX11_even_65 ?_
          refine gw_iconst F dX11_even_67 ?_
          refine gw_istore F (by decide) rfl dX11_even_68 ?_
          have L70 : ∀ n_70 : Nat, ∀ (s_70 : sg_M) (x6_70 : Int) (x7_70 : Int), sg_R x6_70 → sg_R x7_70 → fX11_even_L70 La x3 u5 u8 Q n_70 s_70 x6_70 x7_70 → sg_W p l e (sg_rm 7 0 0) s m args below meth c (MQ below (sg_Q (some .int) G La s.heap.size (sg_HI La Q)) args s 0 0 (sg_A La s.heap.size)) 8 G (sg_A La s.heap.size) La s_70 0 0 70 [(0, sg_r 0), (3, sg_i x3), (4, sg_i u5), (5, sg_i u8), (6, sg_i x6_70), (7, sg_i x7_70)] [] := by
            intro n_70
            induction n_70 with
            | zero => intro s_70 x6_70 x7_70 r6_70 r7_70 hf; exact hf.elim
            | succ n_70 ih =>
              intro s_70 x6_70 x7_70 r6_70 r7_70 hf
              unfold fX11_even_L70 at hf
              refine gw_iload F 5 rfl dX11_even_70 ?_
              refine gw_iload_n F 1 rfl rfl dX11_even_72 ?_
              refine gw_icmp_gt F (tgt := 142) dX11_even_73 (by decide) r7_70 r3 (fun c15 => ?_) (fun c15 => ?_)
              · have hf := hf.1 c15
                refine gw_iload F 4 rfl dX11_even_142 ?_
                exact gr_HI F r6_70 hf (by decide) (by decide) dX11_even_144
              · have hf := hf.2 c15
                refine gw_aload_n F 0 rfl rfl (by decide) dX11_even_76 ?_
                refine gw_get7 F (so_0 hst) (by decide) rfl sg_lay_RX11 (j := 11) (by decide) (o1 := 54) (by first | rfl | omega) rfl (host := "") (.inl kw_337) dX11_even_77 (fun h16 => ?_)
                refine gw_aload_n F 0 rfl rfl (by decide) dX11_even_80 ?_
                refine gw_iload F 2 rfl dX11_even_81 ?_
                refine gw_iload F 3 rfl dX11_even_83 ?_
                refine gw_iload F 2 rfl dX11_even_85 ?_
                refine gw_isub F rfl dX11_even_87 ?_
                refine gw_iload F 5 rfl dX11_even_88 ?_
                refine gw_imul F rfl dX11_even_90 ?_
                refine gw_iload_n F 1 rfl rfl dX11_even_91 ?_
                obtain ⟨g17, hf⟩ := hf
                obtain ⟨g18, hf⟩ := hf
                refine gw_idiv F g17 r3 g18 rfl dX11_even_92 ?_
                refine gw_iadd F rfl dX11_even_93 ?_
                obtain ⟨g19, hf⟩ := hf
                refine gk_PI F (gc_V F (S := [sg_r 54]) (As := [sg_i (u5 + (Int.tdiv ((u8 - u5) * x7_70) x3))]) (T := TX11) (N := 19) (CX11_nearestPart hst g19 hf) (so_0 hst) (by decide) rfl kw_739 kw_90 kw_737 kw_738 kw_27 hcX11_nearestPart ⟨by decide, by decide⟩ rfl rfl (Nat.le_of_ble_eq_true rfl) ⟨by decide, by decide⟩ dX11_even_94) (fun u20 h21 hf => ?_)
                refine gk_HV F (gc_V F (S := []) (As := [sg_i u20]) (T := TX4) (N := 3) (CX4_add (so_54 hst) h21 hf) (so_54 hst) (by decide) rfl kw_538 kw_97 kw_663 kw_536 kw_537 hcX4_add ⟨by decide, by decide⟩ rfl rfl (Nat.le_of_ble_eq_true rfl) ⟨by decide, by decide⟩ dX11_even_97) (fun s22 hf => ?_)
                refine gw_iload F 5 rfl dX11_even_100 ?_
                have J136 : ∀ (x6_136 : Int), sg_R x6_136 → (fX11_even_j136 x7_70 s22 (fX11_even_L70 La x3 u5 u8 Q n_70)) x6_136 → sg_W p l e (sg_rm 7 0 0) s m args below meth c (MQ below (sg_Q (some .int) G La s.heap.size (sg_HI La Q)) args s 0 0 (sg_A La s.heap.size)) 8 G (sg_A La s.heap.size) La s22 0 0 136 [(0, sg_r 0), (3, sg_i x3), (4, sg_i u5), (5, sg_i u8), (6, sg_i x6_136), (7, sg_i x7_70)] [] := by
                  intro x6_136 r6_136 hf
                  unfold fX11_even_j136 at hf
                  refine gw_iinc F (z := (x7_70 + 1)) 5 rfl (by omega) (by decide) rfl dX11_even_136 ?_
                  refine gw_goto F (tgt := 70) dX11_even_139 (by decide) ?_
                  obtain ⟨g23, hf⟩ := hf
                  refine gw_sub [1, 2, 3, 4, 5, 0] rfl ?_
                  exact ih s22 x6_136 (x7_70 + 1) r6_136 g23 hf
                refine gw_if_le F (tgt := 136) dX11_even_102 (by decide) r7_70 (fun c24 => ?_) (fun c24 => ?_)
                · have hf := hf.1 c24
                  refine gw_sub [0, 1, 2, 3, 4, 5] rfl ?_
                  exact J136 x6_70 r6_70 hf
                · have hf := hf.2 c24
                  refine gw_iload F 4 rfl dX11_even_105 ?_
                  refine gw_aload_n F 0 rfl rfl (by decide) dX11_even_107 ?_
                  refine gw_get7 F (so_0 hst) (by decide) rfl sg_lay_RX11 (j := 11) (by decide) (o1 := 54) (by first | rfl | omega) rfl (host := "") (.inl kw_337) dX11_even_108 (fun h25 => ?_)
                  refine gw_iload F 5 rfl dX11_even_111 ?_
                  refine gk_PI F (gc_V F (S := [sg_i x6_70]) (As := [sg_i x7_70]) (T := TX4) (N := 3) (CX4_at (so_54 hst) r7_70 hf) (so_54 hst) (by decide) rfl kw_546 kw_97 kw_543 kw_544 kw_545 hcX4_at ⟨by decide, by decide⟩ rfl rfl (Nat.le_of_ble_eq_true rfl) ⟨by decide, by decide⟩ dX11_even_113) (fun u26 h27 hf => ?_)
                  refine gw_aload_n F 0 rfl rfl (by decide) dX11_even_116 ?_
                  refine gw_get7 F (so_0 hst) (by decide) rfl sg_lay_RX11 (j := 11) (by decide) (o1 := 54) (by first | rfl | omega) rfl (host := "") (.inl kw_337) dX11_even_117 (fun h28 => ?_)
                  refine gw_iload F 5 rfl dX11_even_120 ?_
                  refine gw_iconst F dX11_even_122 ?_
                  refine gw_isub F rfl dX11_even_123 ?_
                  obtain ⟨g29, hf⟩ := hf
                  refine gk_PI F (gc_V F (S := [sg_i u26, sg_i x6_70]) (As := [sg_i (x7_70 - 1)]) (T := TX4) (N := 3) (CX4_at (so_54 hst) g29 hf) (so_54 hst) (by decide) rfl kw_546 kw_97 kw_543 kw_544 kw_545 hcX4_at ⟨by decide, by decide⟩ rfl rfl (Nat.le_of_ble_eq_true rfl) ⟨by decide, by decide⟩ dX11_even_124) (fun u30 h31 hf => ?_)
                  refine gw_isub F rfl dX11_even_127 ?_
                  obtain ⟨g32, hf⟩ := hf
                  refine gw_abs F g32 rfl kw_697 kw_abs1 kw_math kw_abs2 (Nat.le_of_ble_eq_true rfl) (by decide) (by decide) (by decide) (by decide) dX11_even_128 ?_
                  obtain ⟨g33, hf⟩ := hf
                  refine gw_max F r6_70 g33 rfl kw_523 kw_max1 kw_math kw_max2 (Nat.le_of_ble_eq_true rfl) (by decide) (by decide) (by decide) (by decide) dX11_even_131 ?_
                  obtain ⟨v34, e35⟩ : ∃ z : Int, z = (sg_max x6_70 (sg_abs (u26 - u30))) := ⟨_, rfl⟩
                  obtain ⟨g36, hf⟩ := hf v34 e35
                  refine gw_nmI e35 ?_
                  refine gw_istore F (by decide) rfl dX11_even_134 ?_
                  refine gw_sub [1, 2, 3, 4, 0, 5] rfl ?_
                  exact J136 v34 g36 hf
          obtain ⟨n37, hf⟩ := hf
          refine gw_sub [4, 7, 3, 2, 1, 0] rfl ?_
          refine L70   n37 s14 0 0 (by decide) (by decide) hf
        · have hf := hf.2 c11
          refine gw_iconst F dX11_even_49 ?_
          exact gr_HI F (by decide) hf (by decide) (by decide) dX11_even_50
    · have hf := hf.2 c2
      refine gw_iconst F dX11_even_11 ?_
      exact gr_HI F (by decide) hf (by decide) (by decide) dX11_even_12

theorem dX11_place_0 : decode cX11_place 0 = .ok (.iload_n 1, 1) := by decide +kernel
theorem dX11_place_1 : decode cX11_place 1 = .ok (.iload_n 2, 1) := by decide +kernel
theorem dX11_place_2 : decode cX11_place 2 = .ok (.invokestatic 158, 3) := by decide +kernel
theorem dX11_place_5 : decode cX11_place 5 = .ok (.ifCond .ne 5, 3) := by decide +kernel
theorem dX11_place_8 : decode cX11_place 8 = .ok (.iconst (-1), 1) := by decide +kernel
theorem dX11_place_9 : decode cX11_place 9 = .ok (.ireturn, 1) := by decide +kernel
theorem dX11_place_10 : decode cX11_place 10 = .ok (.aload_n 0, 1) := by decide +kernel
theorem dX11_place_11 : decode cX11_place 11 = .ok (.getfield 54, 3) := by decide +kernel
theorem dX11_place_14 : decode cX11_place 14 = .ok (.aload_n 0, 1) := by decide +kernel
theorem dX11_place_15 : decode cX11_place 15 = .ok (.getfield 39, 3) := by decide +kernel
theorem dX11_place_18 : decode cX11_place 18 = .ok (.getfield 112, 3) := by decide +kernel
theorem dX11_place_21 : decode cX11_place 21 = .ok (.iload_n 1, 1) := by decide +kernel
theorem dX11_place_22 : decode cX11_place 22 = .ok (.iload_n 2, 1) := by decide +kernel
theorem dX11_place_23 : decode cX11_place 23 = .ok (.invokevirtual 171, 3) := by decide +kernel
theorem dX11_place_26 : decode cX11_place 26 = .ok (.iload_n 3, 1) := by decide +kernel
theorem dX11_place_27 : decode cX11_place 27 = .ok (.iconst (-1), 1) := by decide +kernel
theorem dX11_place_28 : decode cX11_place 28 = .ok (.if_icmp .ne 16, 3) := by decide +kernel
theorem dX11_place_31 : decode cX11_place 31 = .ok (.aload_n 0, 1) := by decide +kernel
theorem dX11_place_32 : decode cX11_place 32 = .ok (.getfield 54, 3) := by decide +kernel
theorem dX11_place_35 : decode cX11_place 35 = .ok (.getfield 178, 3) := by decide +kernel
theorem dX11_place_38 : decode cX11_place 38 = .ok (.getfield 181, 3) := by decide +kernel
theorem dX11_place_41 : decode cX11_place 41 = .ok (.goto 14, 3) := by decide +kernel
theorem dX11_place_44 : decode cX11_place 44 = .ok (.aload_n 0, 1) := by decide +kernel
theorem dX11_place_45 : decode cX11_place 45 = .ok (.getfield 54, 3) := by decide +kernel
theorem dX11_place_48 : decode cX11_place 48 = .ok (.getfield 178, 3) := by decide +kernel
theorem dX11_place_51 : decode cX11_place 51 = .ok (.iload_n 3, 1) := by decide +kernel
theorem dX11_place_52 : decode cX11_place 52 = .ok (.invokevirtual 182, 3) := by decide +kernel
theorem dX11_place_55 : decode cX11_place 55 = .ok (.ireturn, 1) := by decide +kernel
theorem hcX11_place : yX11_place.cls ≠ "java/lang/invoke/MethodHandle" ∧ yX11_place.cls ≠ "java/lang/invoke/VarHandle" ∧ (parseMethodDescriptor yX11_place.desc).map (fun d => d.parameters.length) = some 3 := ⟨by decide +kernel, by decide +kernel, by decide +kernel⟩
def fX11_place (La : sg_L) (s0 : sg_M) (x1 : Int) (x2 : Int) (x3 : Int) (Q : Int → sg_M → Prop) : Prop := fX11_isBend x1 x2 (fun u1 => ((u1 ≠ 0 → (0 ≤ (s0 4 0)) ∧ fX0_bendTo La s0 (s0 4 0) x1 x2 (fun s9 => ((x3 ≠ (-1) → fX4_at La s9 35 x3 (fun u13 => Q u13 s9)) ∧ (x3 = (-1) → Q (s9 35 1) s9)))) ∧ (u1 = 0 → Q (-1) s0)))
set_option maxHeartbeats 4000000 in
set_option maxRecDepth 100000 in
theorem CX11_place {l : Launch} {G : sg_G} {La : sg_L} {s0 : sg_M} (hst : sg_St La) {x1 : Int} (r1 : sg_R x1) {x2 : Int} (r2 : sg_R x2) {x3 : Int} (r3 : sg_R x3) {Q : Int → sg_M → Prop} (hf : fX11_place La s0 x1 x2 x3 Q) : sg_C l G yX11_place cX11_place 4 (some .int) 5 0 0 La s0 [sg_r 0, sg_i x1, sg_i x2, sg_i x3] (sg_HI La Q) := by
  refine sg_body (by decide +kernel) (Nat.le_of_ble_eq_true rfl) ?_
  intro p e s m args below meth c F hnm
  unfold fX11_place at hf
  show sg_W p l e (sg_rm 5 0 0) s m args below meth c (MQ below (sg_Q (some .int) G La s.heap.size (sg_HI La Q)) args s 0 0 (sg_A La s.heap.size)) 4 G (sg_A La s.heap.size) La s0 0 0 0 [(0, sg_r 0), (1, sg_i x1), (2, sg_i x2), (3, sg_i x3)] []
  refine gw_iload_n F 1 rfl rfl dX11_place_0 ?_
  refine gw_iload_n F 2 rfl rfl dX11_place_1 ?_
  refine gk_PZ F (gc_S F (S := []) (As := [sg_i x1, sg_i x2]) (CX11_isBend r1 r2 hf) kw_502 kw_90 kw_500 kw_501 hcX11_isBend ⟨by decide, by decide⟩ rfl rfl (Nat.le_of_ble_eq_true rfl) ⟨by decide, by decide⟩ dX11_place_2) (fun u1 h2 hf => ?_)
  refine gw_if_ne F (tgt := 10) dX11_place_5 (by decide) (sg_B_R h2) (fun c3 => ?_) (fun c3 => ?_)
  · have hf := hf.1 c3
    refine gw_aload_n F 0 rfl rfl (by decide) dX11_place_10 ?_
    refine gw_get7 F (so_0 hst) (by decide) rfl sg_lay_RX11 (j := 5) (by decide) (o1 := 32) (by first | rfl | omega) rfl (host := "") (.inl kw_331) dX11_place_11 (fun h4 => ?_)
    refine gw_aload_n F 0 rfl rfl (by decide) dX11_place_14 ?_
    refine gw_get7 F (so_0 hst) (by decide) rfl sg_lay_RX11 (j := 2) (by decide) (o1 := 4) (by first | rfl | omega) rfl (host := "") (.inl kw_328) dX11_place_15 (fun h5 => ?_)
    refine gw_get4 F (so_4 hst) (by decide) rfl sg_lay_RX7 (j := 0) (by decide) rfl (.inr kw_234) dX11_place_18 (fun h6 => ?_)
    refine gw_iload_n F 1 rfl rfl dX11_place_21 ?_
    refine gw_iload_n F 2 rfl rfl dX11_place_22 ?_
    obtain ⟨g7, hf⟩ := hf
    have t8 := sg_nn h6 g7
    refine gk_HV F (gc_V F (S := []) (As := [sg_r (s0 4 0), sg_i x1, sg_i x2]) (T := TX0) (N := 11) (CX0_bendTo hst t8 r1 r2 hf) (so_32 hst) (by decide) rfl kw_506 kw_100 kw_503 kw_504 kw_505 hcX0_bendTo ⟨by decide, by decide⟩ rfl rfl (Nat.le_of_ble_eq_true rfl) ⟨by decide, by decide⟩ dX11_place_23) (fun s9 hf => ?_)
    refine gw_iload_n F 3 rfl rfl dX11_place_26 ?_
    refine gw_iconst F dX11_place_27 ?_
    refine gw_icmp_ne F (tgt := 44) dX11_place_28 (by decide) r3 (by decide) (fun c10 => ?_) (fun c10 => ?_)
    · have hf := hf.1 c10
      refine gw_aload_n F 0 rfl rfl (by decide) dX11_place_44 ?_
      refine gw_get7 F (so_0 hst) (by decide) rfl sg_lay_RX11 (j := 5) (by decide) (o1 := 32) (by first | rfl | omega) rfl (host := "") (.inl kw_331) dX11_place_45 (fun h11 => ?_)
      refine gw_get3 F (so_32 hst) (by decide) rfl sg_lay_RX0 (j := 2) (by decide) (o1 := 35) (by first | rfl | omega) rfl (.inr kw_255) dX11_place_48 (fun h12 => ?_)
      refine gw_iload_n F 3 rfl rfl dX11_place_51 ?_
      refine gk_PI F (gc_V F (S := []) (As := [sg_i x3]) (T := TX4) (N := 3) (CX4_at (so_35 hst) r3 hf) (so_35 hst) (by decide) rfl kw_546 kw_97 kw_543 kw_544 kw_545 hcX4_at ⟨by decide, by decide⟩ rfl rfl (Nat.le_of_ble_eq_true rfl) ⟨by decide, by decide⟩ dX11_place_52) (fun u13 h14 hf => ?_)
      exact gr_HI F h14 hf (by decide) (by decide) dX11_place_55
    · have hf := hf.2 c10
      refine gw_aload_n F 0 rfl rfl (by decide) dX11_place_31 ?_
      refine gw_get7 F (so_0 hst) (by decide) rfl sg_lay_RX11 (j := 5) (by decide) (o1 := 32) (by first | rfl | omega) rfl (host := "") (.inl kw_331) dX11_place_32 (fun h15 => ?_)
      refine gw_get3 F (so_32 hst) (by decide) rfl sg_lay_RX0 (j := 2) (by decide) (o1 := 35) (by first | rfl | omega) rfl (.inr kw_255) dX11_place_35 (fun h16 => ?_)
      refine gw_get0 F (so_35 hst) (by decide) rfl sg_lay_RX4 (j := 1) (by decide) rfl (.inr kw_204) dX11_place_38 (fun h17 => ?_)
      refine gw_goto F (tgt := 55) dX11_place_41 (by decide) ?_
      exact gr_HI F h17 hf (by decide) (by decide) dX11_place_55
  · have hf := hf.2 c3
    refine gw_iconst F dX11_place_8 ?_
    exact gr_HI F (by decide) hf (by decide) (by decide) dX11_place_9

theorem dX11_tremble_0 : decode cX11_tremble 0 = .ok (.iload_n 1, 1) := by decide +kernel
theorem dX11_tremble_1 : decode cX11_tremble 1 = .ok (.iload_n 2, 1) := by decide +kernel
theorem dX11_tremble_2 : decode cX11_tremble 2 = .ok (.invokestatic 158, 3) := by decide +kernel
theorem dX11_tremble_5 : decode cX11_tremble 5 = .ok (.ifCond .eq 14, 3) := by decide +kernel
theorem dX11_tremble_8 : decode cX11_tremble 8 = .ok (.iload_n 3, 1) := by decide +kernel
theorem dX11_tremble_9 : decode cX11_tremble 9 = .ok (.ifCond .lt 10, 3) := by decide +kernel
theorem dX11_tremble_12 : decode cX11_tremble 12 = .ok (.iload_n 3, 1) := by decide +kernel
theorem dX11_tremble_13 : decode cX11_tremble 13 = .ok (.sipush 999, 3) := by decide +kernel
theorem dX11_tremble_16 : decode cX11_tremble 16 = .ok (.if_icmp .le 5, 3) := by decide +kernel
theorem dX11_tremble_19 : decode cX11_tremble 19 = .ok (.iconst (-1), 1) := by decide +kernel
theorem dX11_tremble_20 : decode cX11_tremble 20 = .ok (.ireturn, 1) := by decide +kernel
theorem dX11_tremble_21 : decode cX11_tremble 21 = .ok (.sipush 2000, 3) := by decide +kernel
theorem dX11_tremble_24 : decode cX11_tremble 24 = .ok (.istore 4, 2) := by decide +kernel
theorem dX11_tremble_26 : decode cX11_tremble 26 = .ok (.iconst 0, 1) := by decide +kernel
theorem dX11_tremble_27 : decode cX11_tremble 27 = .ok (.istore 5, 2) := by decide +kernel
theorem dX11_tremble_29 : decode cX11_tremble 29 = .ok (.iconst (-1), 1) := by decide +kernel
theorem dX11_tremble_30 : decode cX11_tremble 30 = .ok (.istore 6, 2) := by decide +kernel
theorem dX11_tremble_32 : decode cX11_tremble 32 = .ok (.iload 6, 2) := by decide +kernel
theorem dX11_tremble_34 : decode cX11_tremble 34 = .ok (.iconst 1, 1) := by decide +kernel
theorem dX11_tremble_35 : decode cX11_tremble 35 = .ok (.if_icmp .gt 73, 3) := by decide +kernel
theorem dX11_tremble_38 : decode cX11_tremble 38 = .ok (.aload_n 0, 1) := by decide +kernel
theorem dX11_tremble_39 : decode cX11_tremble 39 = .ok (.aload_n 0, 1) := by decide +kernel
theorem dX11_tremble_40 : decode cX11_tremble 40 = .ok (.getfield 39, 3) := by decide +kernel
theorem dX11_tremble_43 : decode cX11_tremble 43 = .ok (.getfield 112, 3) := by decide +kernel
theorem dX11_tremble_46 : decode cX11_tremble 46 = .ok (.iload_n 1, 1) := by decide +kernel
theorem dX11_tremble_47 : decode cX11_tremble 47 = .ok (.iload_n 2, 1) := by decide +kernel
theorem dX11_tremble_48 : decode cX11_tremble 48 = .ok (.iload 6, 2) := by decide +kernel
theorem dX11_tremble_50 : decode cX11_tremble 50 = .ok (.iload_n 3, 1) := by decide +kernel
theorem dX11_tremble_51 : decode cX11_tremble 51 = .ok (.imul, 1) := by decide +kernel
theorem dX11_tremble_52 : decode cX11_tremble 52 = .ok (.iadd, 1) := by decide +kernel
theorem dX11_tremble_53 : decode cX11_tremble 53 = .ok (.sipush 9999, 3) := by decide +kernel
theorem dX11_tremble_56 : decode cX11_tremble 56 = .ok (.invokestatic 294, 3) := by decide +kernel
theorem dX11_tremble_59 : decode cX11_tremble 59 = .ok (.invokevirtual 225, 3) := by decide +kernel
theorem dX11_tremble_62 : decode cX11_tremble 62 = .ok (.aload_n 0, 1) := by decide +kernel
theorem dX11_tremble_63 : decode cX11_tremble 63 = .ok (.getfield 54, 3) := by decide +kernel
theorem dX11_tremble_66 : decode cX11_tremble 66 = .ok (.getfield 228, 3) := by decide +kernel
theorem dX11_tremble_69 : decode cX11_tremble 69 = .ok (.ifCond .ne 5, 3) := by decide +kernel
theorem dX11_tremble_72 : decode cX11_tremble 72 = .ok (.iconst (-1), 1) := by decide +kernel
theorem dX11_tremble_73 : decode cX11_tremble 73 = .ok (.ireturn, 1) := by decide +kernel
theorem dX11_tremble_74 : decode cX11_tremble 74 = .ok (.iload 4, 2) := by decide +kernel
theorem dX11_tremble_76 : decode cX11_tremble 76 = .ok (.aload_n 0, 1) := by decide +kernel
theorem dX11_tremble_77 : decode cX11_tremble 77 = .ok (.getfield 54, 3) := by decide +kernel
theorem dX11_tremble_80 : decode cX11_tremble 80 = .ok (.getfield 228, 3) := by decide +kernel
theorem dX11_tremble_83 : decode cX11_tremble 83 = .ok (.invokestatic 297, 3) := by decide +kernel
theorem dX11_tremble_86 : decode cX11_tremble 86 = .ok (.istore 4, 2) := by decide +kernel
theorem dX11_tremble_88 : decode cX11_tremble 88 = .ok (.iload 5, 2) := by decide +kernel
theorem dX11_tremble_90 : decode cX11_tremble 90 = .ok (.aload_n 0, 1) := by decide +kernel
theorem dX11_tremble_91 : decode cX11_tremble 91 = .ok (.getfield 54, 3) := by decide +kernel
theorem dX11_tremble_94 : decode cX11_tremble 94 = .ok (.getfield 228, 3) := by decide +kernel
theorem dX11_tremble_97 : decode cX11_tremble 97 = .ok (.invokestatic 291, 3) := by decide +kernel
theorem dX11_tremble_100 : decode cX11_tremble 100 = .ok (.istore 5, 2) := by decide +kernel
theorem dX11_tremble_102 : decode cX11_tremble 102 = .ok (.iinc 6 1, 3) := by decide +kernel
theorem dX11_tremble_105 : decode cX11_tremble 105 = .ok (.goto (-73), 3) := by decide +kernel
theorem dX11_tremble_108 : decode cX11_tremble 108 = .ok (.iload 5, 2) := by decide +kernel
theorem dX11_tremble_110 : decode cX11_tremble 110 = .ok (.iload 4, 2) := by decide +kernel
theorem dX11_tremble_112 : decode cX11_tremble 112 = .ok (.isub, 1) := by decide +kernel
theorem dX11_tremble_113 : decode cX11_tremble 113 = .ok (.ireturn, 1) := by decide +kernel
theorem hcX11_tremble : yX11_tremble.cls ≠ "java/lang/invoke/MethodHandle" ∧ yX11_tremble.cls ≠ "java/lang/invoke/VarHandle" ∧ (parseMethodDescriptor yX11_tremble.desc).map (fun d => d.parameters.length) = some 3 := ⟨by decide +kernel, by decide +kernel, by decide +kernel⟩
def fX11_tremble_L32 (La : sg_L) (x1 : Int) (x2 : Int) (x3 : Int) (Q : Int → sg_M → Prop) : Nat → sg_M → Int → Int → Int → Prop
  | 0, _, _, _, _ => False
  | n_32 + 1, s_32, x4_32, x5_32, x6_32 => ((1 < x6_32 → sg_R (x5_32 - x4_32) ∧ Q (x5_32 - x4_32) s_32) ∧ (¬ (1 < x6_32) → sg_R (x2 + (x6_32 * x3)) ∧ fX11_within (x2 + (x6_32 * x3)) 9999 (fun u11 => (0 ≤ (s_32 4 0)) ∧ fX11_listenTo La s_32 (s_32 4 0) x1 u11 (fun s15 => (((s15 32 7) ≠ 0 → sg_R (x6_32 + 1) ∧ (fX11_tremble_L32 La x1 x2 x3 Q n_32) s15 (sg_min x4_32 (s15 32 7)) (sg_max x5_32 (s15 32 7)) (x6_32 + 1)) ∧ ((s15 32 7) = 0 → Q (-1) s15))))))
def fX11_tremble (La : sg_L) (s0 : sg_M) (x1 : Int) (x2 : Int) (x3 : Int) (Q : Int → sg_M → Prop) : Prop := fX11_isBend x1 x2 (fun u1 => ((u1 = 0 → Q (-1) s0) ∧ (¬ (u1 = 0) → ((x3 < 0 → Q (-1) s0) ∧ (¬ (x3 < 0) → ((x3 ≤ 999 → (∃ n24 : Nat, fX11_tremble_L32 La x1 x2 x3 Q n24 s0 2000 0 (-1))) ∧ (¬ (x3 ≤ 999) → Q (-1) s0)))))))
set_option maxHeartbeats 4000000 in
set_option maxRecDepth 100000 in
theorem CX11_tremble {l : Launch} {G : sg_G} {La : sg_L} {s0 : sg_M} (hst : sg_St La) {x1 : Int} (r1 : sg_R x1) {x2 : Int} (r2 : sg_R x2) {x3 : Int} (r3 : sg_R x3) {Q : Int → sg_M → Prop} (hf : fX11_tremble La s0 x1 x2 x3 Q) : sg_C l G yX11_tremble cX11_tremble 7 (some .int) 6 0 0 La s0 [sg_r 0, sg_i x1, sg_i x2, sg_i x3] (sg_HI La Q) := by
  refine sg_body (by decide +kernel) (Nat.le_of_ble_eq_true rfl) ?_
  intro p e s m args below meth c F hnm
  unfold fX11_tremble at hf
  show sg_W p l e (sg_rm 6 0 0) s m args below meth c (MQ below (sg_Q (some .int) G La s.heap.size (sg_HI La Q)) args s 0 0 (sg_A La s.heap.size)) 7 G (sg_A La s.heap.size) La s0 0 0 0 [(0, sg_r 0), (1, sg_i x1), (2, sg_i x2), (3, sg_i x3)] []
  refine gw_iload_n F 1 rfl rfl dX11_tremble_0 ?_
  refine gw_iload_n F 2 rfl rfl dX11_tremble_1 ?_
  refine gk_PZ F (gc_S F (S := []) (As := [sg_i x1, sg_i x2]) (CX11_isBend r1 r2 hf) kw_502 kw_90 kw_500 kw_501 hcX11_isBend ⟨by decide, by decide⟩ rfl rfl (Nat.le_of_ble_eq_true rfl) ⟨by decide, by decide⟩ dX11_tremble_2) (fun u1 h2 hf => ?_)
  refine gw_if_eq F (tgt := 19) dX11_tremble_5 (by decide) (sg_B_R h2) (fun c3 => ?_) (fun c3 => ?_)
  · have hf := hf.1 c3
    refine gw_iconst F dX11_tremble_19 ?_
    exact gr_HI F (by decide) hf (by decide) (by decide) dX11_tremble_20
  · have hf := hf.2 c3
    refine gw_iload_n F 3 rfl rfl dX11_tremble_8 ?_
    refine gw_if_lt F (tgt := 19) dX11_tremble_9 (by decide) r3 (fun c4 => ?_) (fun c4 => ?_)
    · have hf := hf.1 c4
      refine gw_iconst F dX11_tremble_19 ?_
      exact gr_HI F (by decide) hf (by decide) (by decide) dX11_tremble_20
    · have hf := hf.2 c4
      refine gw_iload_n F 3 rfl rfl dX11_tremble_12 ?_
      refine gw_sipush F rfl dX11_tremble_13 ?_
      refine gw_icmp_le F (tgt := 21) dX11_tremble_16 (by decide) r3 (by decide) (fun c5 => ?_) (fun c5 => ?_)
      · have hf := hf.1 c5
        refine gw_sipush F rfl dX11_tremble_21 ?_
        refine gw_istore F (by decide) rfl dX11_tremble_24 ?_
        refine gw_iconst F dX11_tremble_26 ?_
        refine gw_istore F (by decide) rfl dX11_tremble_27 ?_
        refine gw_iconst F dX11_tremble_29 ?_
        refine gw_istore F (by decide) rfl dX11_tremble_30 ?_
        have L32 : ∀ n_32 : Nat, ∀ (s_32 : sg_M) (x4_32 : Int) (x5_32 : Int) (x6_32 : Int), sg_R x4_32 → sg_R x5_32 → sg_R x6_32 → fX11_tremble_L32 La x1 x2 x3 Q n_32 s_32 x4_32 x5_32 x6_32 → sg_W p l e (sg_rm 6 0 0) s m args below meth c (MQ below (sg_Q (some .int) G La s.heap.size (sg_HI La Q)) args s 0 0 (sg_A La s.heap.size)) 7 G (sg_A La s.heap.size) La s_32 0 0 32 [(0, sg_r 0), (1, sg_i x1), (2, sg_i x2), (3, sg_i x3), (4, sg_i x4_32), (5, sg_i x5_32), (6, sg_i x6_32)] [] := by
          intro n_32
          induction n_32 with
          | zero => intro s_32 x4_32 x5_32 x6_32 r4_32 r5_32 r6_32 hf; exact hf.elim
          | succ n_32 ih =>
            intro s_32 x4_32 x5_32 x6_32 r4_32 r5_32 r6_32 hf
            unfold fX11_tremble_L32 at hf
            refine gw_iload F 6 rfl dX11_tremble_32 ?_
            refine gw_iconst F dX11_tremble_34 ?_
            refine gw_icmp_gt F (tgt := 108) dX11_tremble_35 (by decide) r6_32 (by decide) (fun c6 => ?_) (fun c6 => ?_)
            · have hf := hf.1 c6
              refine gw_iload F 5 rfl dX11_tremble_108 ?_
              refine gw_iload F 4 rfl dX11_tremble_110 ?_
              refine gw_isub F rfl dX11_tremble_112 ?_
              obtain ⟨g7, hf⟩ := hf
              exact gr_HI F g7 hf (by decide) (by decide) dX11_tremble_113
            · have hf := hf.2 c6
              refine gw_aload_n F 0 rfl rfl (by decide) dX11_tremble_38 ?_
              refine gw_aload_n F 0 rfl rfl (by decide) dX11_tremble_39 ?_
              refine gw_get7 F (so_0 hst) (by decide) rfl sg_lay_RX11 (j := 2) (by decide) (o1 := 4) (by first | rfl | omega) rfl (host := "") (.inl kw_328) dX11_tremble_40 (fun h8 => ?_)
              refine gw_get4 F (so_4 hst) (by decide) rfl sg_lay_RX7 (j := 0) (by decide) rfl (.inr kw_234) dX11_tremble_43 (fun h9 => ?_)
              refine gw_iload_n F 1 rfl rfl dX11_tremble_46 ?_
              refine gw_iload_n F 2 rfl rfl dX11_tremble_47 ?_
              refine gw_iload F 6 rfl dX11_tremble_48 ?_
              refine gw_iload_n F 3 rfl rfl dX11_tremble_50 ?_
              refine gw_imul F rfl dX11_tremble_51 ?_
              refine gw_iadd F rfl dX11_tremble_52 ?_
              refine gw_sipush F rfl dX11_tremble_53 ?_
              obtain ⟨g10, hf⟩ := hf
              refine gk_PI F (gc_S F (S := [sg_i x1, sg_r (s_32 4 0), sg_r 0]) (As := [sg_i (x2 + (x6_32 * x3)), sg_i 9999]) (CX11_within g10 (by decide) hf) kw_521 kw_90 kw_748 kw_520 hcX11_within ⟨by decide, by decide⟩ rfl rfl (Nat.le_of_ble_eq_true rfl) ⟨by decide, by decide⟩ dX11_tremble_56) (fun u11 h12 hf => ?_)
              obtain ⟨g13, hf⟩ := hf
              have t14 := sg_nn h9 g13
              refine gk_HV F (gc_V F (S := []) (As := [sg_r (s_32 4 0), sg_i x1, sg_i u11]) (T := TX11) (N := 19) (CX11_listenTo hst t14 r1 h12 hf) (so_0 hst) (by decide) rfl kw_655 kw_90 kw_653 kw_654 kw_20 hcX11_listenTo ⟨by decide, by decide⟩ rfl rfl (Nat.le_of_ble_eq_true rfl) ⟨by decide, by decide⟩ dX11_tremble_59) (fun s15 hf => ?_)
              refine gw_aload_n F 0 rfl rfl (by decide) dX11_tremble_62 ?_
              refine gw_get7 F (so_0 hst) (by decide) rfl sg_lay_RX11 (j := 5) (by decide) (o1 := 32) (by first | rfl | omega) rfl (host := "") (.inl kw_331) dX11_tremble_63 (fun h16 => ?_)
              refine gw_get0 F (so_32 hst) (by decide) rfl sg_lay_RX0 (j := 7) (by decide) rfl (.inr kw_266) dX11_tremble_66 (fun h17 => ?_)
              refine gw_if_ne F (tgt := 74) dX11_tremble_69 (by decide) h17 (fun c18 => ?_) (fun c18 => ?_)
              · have hf := hf.1 c18
                refine gw_iload F 4 rfl dX11_tremble_74 ?_
                refine gw_aload_n F 0 rfl rfl (by decide) dX11_tremble_76 ?_
                refine gw_get7 F (so_0 hst) (by decide) rfl sg_lay_RX11 (j := 5) (by decide) (o1 := 32) (by first | rfl | omega) rfl (host := "") (.inl kw_331) dX11_tremble_77 (fun h19 => ?_)
                refine gw_get0 F (so_32 hst) (by decide) rfl sg_lay_RX0 (j := 7) (by decide) rfl (.inr kw_266) dX11_tremble_80 (fun h20 => ?_)
                refine gw_min F r4_32 h20 rfl kw_522 kw_min1 kw_math kw_min2 (Nat.le_of_ble_eq_true rfl) (by decide) (by decide) (by decide) (by decide) dX11_tremble_83 ?_
                refine gw_istore F (by decide) rfl dX11_tremble_86 ?_
                refine gw_iload F 5 rfl dX11_tremble_88 ?_
                refine gw_aload_n F 1 rfl rfl (by decide) dX11_tremble_90 ?_
                refine gw_get7 F (so_0 hst) (by decide) rfl sg_lay_RX11 (j := 5) (by decide) (o1 := 32) (by first | rfl | omega) rfl (host := "") (.inl kw_331) dX11_tremble_91 (fun h21 => ?_)
                refine gw_get0 F (so_32 hst) (by decide) rfl sg_lay_RX0 (j := 7) (by decide) rfl (.inr kw_266) dX11_tremble_94 (fun h22 => ?_)
                refine gw_max F r5_32 h22 rfl kw_523 kw_max1 kw_math kw_max2 (Nat.le_of_ble_eq_true rfl) (by decide) (by decide) (by decide) (by decide) dX11_tremble_97 ?_
                refine gw_istore F (by decide) rfl dX11_tremble_100 ?_
                refine gw_iinc F (z := (x6_32 + 1)) 6 rfl (by omega) (by decide) rfl dX11_tremble_102 ?_
                refine gw_goto F (tgt := 32) dX11_tremble_105 (by decide) ?_
                obtain ⟨g23, hf⟩ := hf
                refine gw_sub [3, 4, 5, 6, 2, 1, 0] rfl ?_
                exact ih s15 (sg_min x4_32 (s15 32 7)) (sg_max x5_32 (s15 32 7)) (x6_32 + 1) (sg_min_R r4_32 h20) (sg_max_R r5_32 h22) g23 hf
              · have hf := hf.2 c18
                refine gw_iconst F dX11_tremble_72 ?_
                exact gr_HI F (by decide) hf (by decide) (by decide) dX11_tremble_73
        obtain ⟨n24, hf⟩ := hf
        refine gw_sub [3, 4, 5, 6, 2, 1, 0] rfl ?_
        refine L32   n24 s0 2000 0 (-1) (by decide) (by decide) (by decide) hf
      · have hf := hf.2 c5
        refine gw_iconst F dX11_tremble_19 ?_
        exact gr_HI F (by decide) hf (by decide) (by decide) dX11_tremble_20
