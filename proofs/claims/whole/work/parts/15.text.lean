theorem dJ0_length_8abf5_0 : decode cJ0_length_8abf5 0 = .ok (.aload_n 0, 1) := by decide +kernel
theorem dJ0_length_8abf5_1 : decode cJ0_length_8abf5 1 = .ok (.getfield 9, 3) := by decide +kernel
theorem dJ0_length_8abf5_4 : decode cJ0_length_8abf5 4 = .ok (.arraylength, 1) := by decide +kernel
theorem dJ0_length_8abf5_5 : decode cJ0_length_8abf5 5 = .ok (.aload_n 0, 1) := by decide +kernel
theorem dJ0_length_8abf5_6 : decode cJ0_length_8abf5 6 = .ok (.invokevirtual 335, 3) := by decide +kernel
theorem dJ0_length_8abf5_9 : decode cJ0_length_8abf5 9 = .ok (.ishr, 1) := by decide +kernel
theorem dJ0_length_8abf5_10 : decode cJ0_length_8abf5 10 = .ok (.ireturn, 1) := by decide +kernel
theorem dJ0_charAt_5068e_0 : decode cJ0_charAt_5068e 0 = .ok (.aload_n 0, 1) := by decide +kernel
theorem dJ0_charAt_5068e_1 : decode cJ0_charAt_5068e 1 = .ok (.invokevirtual 492, 3) := by decide +kernel
theorem dJ0_charAt_5068e_4 : decode cJ0_charAt_5068e 4 = .ok (.ifCond .eq 12, 3) := by decide +kernel
theorem dJ0_charAt_5068e_7 : decode cJ0_charAt_5068e 7 = .ok (.aload_n 0, 1) := by decide +kernel
theorem dJ0_charAt_5068e_8 : decode cJ0_charAt_5068e 8 = .ok (.getfield 9, 3) := by decide +kernel
theorem dJ0_charAt_5068e_11 : decode cJ0_charAt_5068e 11 = .ok (.iload_n 1, 1) := by decide +kernel
theorem dJ0_charAt_5068e_12 : decode cJ0_charAt_5068e 12 = .ok (.invokestatic 495, 3) := by decide +kernel
theorem dJ0_charAt_5068e_15 : decode cJ0_charAt_5068e 15 = .ok (.ireturn, 1) := by decide +kernel
theorem dJ0_charAt_5068e_16 : decode cJ0_charAt_5068e 16 = .ok (.aload_n 0, 1) := by decide +kernel
theorem dJ0_charAt_5068e_17 : decode cJ0_charAt_5068e 17 = .ok (.getfield 9, 3) := by decide +kernel
theorem dJ0_charAt_5068e_20 : decode cJ0_charAt_5068e 20 = .ok (.iload_n 1, 1) := by decide +kernel
theorem dJ0_charAt_5068e_21 : decode cJ0_charAt_5068e 21 = .ok (.invokestatic 498, 3) := by decide +kernel
theorem dJ0_charAt_5068e_24 : decode cJ0_charAt_5068e 24 = .ok (.ireturn, 1) := by decide +kernel
theorem dJ0_coder_7d493_0 : decode cJ0_coder_7d493 0 = .ok (.getstatic 38, 3) := by decide +kernel
theorem dJ0_coder_7d493_3 : decode cJ0_coder_7d493 3 = .ok (.ifCond .eq 10, 3) := by decide +kernel
theorem dJ0_coder_7d493_6 : decode cJ0_coder_7d493 6 = .ok (.aload_n 0, 1) := by decide +kernel
theorem dJ0_coder_7d493_7 : decode cJ0_coder_7d493 7 = .ok (.getfield 15, 3) := by decide +kernel
theorem dJ0_coder_7d493_10 : decode cJ0_coder_7d493 10 = .ok (.goto 4, 3) := by decide +kernel
theorem dJ0_coder_7d493_13 : decode cJ0_coder_7d493 13 = .ok (.iconst 1, 1) := by decide +kernel
theorem dJ0_coder_7d493_14 : decode cJ0_coder_7d493 14 = .ok (.ireturn, 1) := by decide +kernel
theorem dJ0_isLatin1_aae02_0 : decode cJ0_isLatin1_aae02 0 = .ok (.getstatic 38, 3) := by decide +kernel
theorem dJ0_isLatin1_aae02_3 : decode cJ0_isLatin1_aae02 3 = .ok (.ifCond .eq 14, 3) := by decide +kernel
theorem dJ0_isLatin1_aae02_6 : decode cJ0_isLatin1_aae02 6 = .ok (.aload_n 0, 1) := by decide +kernel
theorem dJ0_isLatin1_aae02_7 : decode cJ0_isLatin1_aae02 7 = .ok (.getfield 15, 3) := by decide +kernel
theorem dJ0_isLatin1_aae02_10 : decode cJ0_isLatin1_aae02 10 = .ok (.ifCond .ne 7, 3) := by decide +kernel
theorem dJ0_isLatin1_aae02_13 : decode cJ0_isLatin1_aae02 13 = .ok (.iconst 1, 1) := by decide +kernel
theorem dJ0_isLatin1_aae02_14 : decode cJ0_isLatin1_aae02 14 = .ok (.goto 4, 3) := by decide +kernel
theorem dJ0_isLatin1_aae02_17 : decode cJ0_isLatin1_aae02 17 = .ok (.iconst 0, 1) := by decide +kernel
theorem dJ0_isLatin1_aae02_18 : decode cJ0_isLatin1_aae02 18 = .ok (.ireturn, 1) := by decide +kernel
theorem dJ0_checkIndex_df160_0 : decode cJ0_checkIndex_df160 0 = .ok (.iload_n 0, 1) := by decide +kernel
theorem dJ0_checkIndex_df160_1 : decode cJ0_checkIndex_df160 1 = .ok (.iload_n 1, 1) := by decide +kernel
theorem dJ0_checkIndex_df160_2 : decode cJ0_checkIndex_df160 2 = .ok (.getstatic 1053, 3) := by decide +kernel
theorem dJ0_checkIndex_df160_5 : decode cJ0_checkIndex_df160 5 = .ok (.invokestatic 1059, 3) := by decide +kernel
theorem dJ0_checkIndex_df160_8 : decode cJ0_checkIndex_df160 8 = .ok (.pop, 1) := by decide +kernel
theorem dJ0_checkIndex_df160_9 : decode cJ0_checkIndex_df160 9 = .ok (.return_, 1) := by decide +kernel
theorem dJ1_charAt_3b067_0 : decode cJ1_charAt_3b067 0 = .ok (.iload_n 1, 1) := by decide +kernel
theorem dJ1_charAt_3b067_1 : decode cJ1_charAt_3b067 1 = .ok (.aload_n 0, 1) := by decide +kernel
theorem dJ1_charAt_3b067_2 : decode cJ1_charAt_3b067 2 = .ok (.arraylength, 1) := by decide +kernel
theorem dJ1_charAt_3b067_3 : decode cJ1_charAt_3b067 3 = .ok (.invokestatic 9, 3) := by decide +kernel
theorem dJ1_charAt_3b067_6 : decode cJ1_charAt_3b067 6 = .ok (.aload_n 0, 1) := by decide +kernel
theorem dJ1_charAt_3b067_7 : decode cJ1_charAt_3b067 7 = .ok (.iload_n 1, 1) := by decide +kernel
theorem dJ1_charAt_3b067_8 : decode cJ1_charAt_3b067 8 = .ok (.baload, 1) := by decide +kernel
theorem dJ1_charAt_3b067_9 : decode cJ1_charAt_3b067 9 = .ok (.sipush 255, 3) := by decide +kernel
theorem dJ1_charAt_3b067_12 : decode cJ1_charAt_3b067 12 = .ok (.iand, 1) := by decide +kernel
theorem dJ1_charAt_3b067_13 : decode cJ1_charAt_3b067 13 = .ok (.i2c, 1) := by decide +kernel
theorem dJ1_charAt_3b067_14 : decode cJ1_charAt_3b067 14 = .ok (.ireturn, 1) := by decide +kernel
theorem dJ3_checkIndex_8e157_0 : decode cJ3_checkIndex_8e157 0 = .ok (.iload_n 0, 1) := by decide +kernel
theorem dJ3_checkIndex_8e157_1 : decode cJ3_checkIndex_8e157 1 = .ok (.ifCond .lt 8, 3) := by decide +kernel
theorem dJ3_checkIndex_8e157_4 : decode cJ3_checkIndex_8e157 4 = .ok (.iload_n 0, 1) := by decide +kernel
theorem dJ3_checkIndex_8e157_5 : decode cJ3_checkIndex_8e157 5 = .ok (.iload_n 1, 1) := by decide +kernel
theorem dJ3_checkIndex_8e157_6 : decode cJ3_checkIndex_8e157 6 = .ok (.if_icmp .lt 10, 3) := by decide +kernel
theorem dJ3_checkIndex_8e157_9 : decode cJ3_checkIndex_8e157 9 = .ok (.aload_n 2, 1) := by decide +kernel
theorem dJ3_checkIndex_8e157_10 : decode cJ3_checkIndex_8e157 10 = .ok (.iload_n 0, 1) := by decide +kernel
theorem dJ3_checkIndex_8e157_11 : decode cJ3_checkIndex_8e157 11 = .ok (.iload_n 1, 1) := by decide +kernel
theorem dJ3_checkIndex_8e157_12 : decode cJ3_checkIndex_8e157 12 = .ok (.invokestatic 95, 3) := by decide +kernel
theorem dJ3_checkIndex_8e157_15 : decode cJ3_checkIndex_8e157 15 = .ok (.athrow, 1) := by decide +kernel
theorem dJ3_checkIndex_8e157_16 : decode cJ3_checkIndex_8e157 16 = .ok (.iload_n 0, 1) := by decide +kernel
theorem dJ3_checkIndex_8e157_17 : decode cJ3_checkIndex_8e157 17 = .ok (.ireturn, 1) := by decide +kernel
theorem hc_length : yJ0_length_8abf5.cls ≠ "java/lang/invoke/MethodHandle" ∧ yJ0_length_8abf5.cls ≠ "java/lang/invoke/VarHandle" ∧ (parseMethodDescriptor yJ0_length_8abf5.desc).map (fun d => d.parameters.length) = some 0 := ⟨by decide +kernel, by decide +kernel, by decide +kernel⟩
theorem hc_charAt : yJ0_charAt_5068e.cls ≠ "java/lang/invoke/MethodHandle" ∧ yJ0_charAt_5068e.cls ≠ "java/lang/invoke/VarHandle" ∧ (parseMethodDescriptor yJ0_charAt_5068e.desc).map (fun d => d.parameters.length) = some 1 := ⟨by decide +kernel, by decide +kernel, by decide +kernel⟩
theorem hc_coder : yJ0_coder_7d493.cls ≠ "java/lang/invoke/MethodHandle" ∧ yJ0_coder_7d493.cls ≠ "java/lang/invoke/VarHandle" ∧ (parseMethodDescriptor yJ0_coder_7d493.desc).map (fun d => d.parameters.length) = some 0 := ⟨by decide +kernel, by decide +kernel, by decide +kernel⟩
theorem hc_isLatin1 : yJ0_isLatin1_aae02.cls ≠ "java/lang/invoke/MethodHandle" ∧ yJ0_isLatin1_aae02.cls ≠ "java/lang/invoke/VarHandle" ∧ (parseMethodDescriptor yJ0_isLatin1_aae02.desc).map (fun d => d.parameters.length) = some 0 := ⟨by decide +kernel, by decide +kernel, by decide +kernel⟩
theorem hc_ci : yJ0_checkIndex_df160.cls ≠ "java/lang/invoke/MethodHandle" ∧ yJ0_checkIndex_df160.cls ≠ "java/lang/invoke/VarHandle" ∧ (parseMethodDescriptor yJ0_checkIndex_df160.desc).map (fun d => d.parameters.length) = some 2 := ⟨by decide +kernel, by decide +kernel, by decide +kernel⟩
theorem hc_l1 : yJ1_charAt_3b067.cls ≠ "java/lang/invoke/MethodHandle" ∧ yJ1_charAt_3b067.cls ≠ "java/lang/invoke/VarHandle" ∧ (parseMethodDescriptor yJ1_charAt_3b067.desc).map (fun d => d.parameters.length) = some 2 := ⟨by decide +kernel, by decide +kernel, by decide +kernel⟩
theorem hc_pc : yJ3_checkIndex_8e157.cls ≠ "java/lang/invoke/MethodHandle" ∧ yJ3_checkIndex_8e157.cls ≠ "java/lang/invoke/VarHandle" ∧ (parseMethodDescriptor yJ3_checkIndex_8e157.desc).map (fun d => d.parameters.length) = some 3 := ⟨by decide +kernel, by decide +kernel, by decide +kernel⟩
section SGTX
variable {p : Program} {l : Launch} {e : Env} {R : Room} {s : State} {m : MethodId} {args : Array Value} {below : List Frame} {meth : Method} {c : Code} {Q : State → Prop} {G : sg_G} {A : Nat → Prop} {Λ : sg_L} {σ σ1 : sg_M} {cells slots : Nat} {own : String} {cc : ByteArray} {nL : Nat} {ret : Option FieldType} {pc : Nat} {L L' : List (Nat × sg_V)} {S : List sg_V}
def sg_sl (i : Nat) : Int := ((sg_slen.getD i 0 : Nat) : Int)
def sg_sc (i : Nat) (j : Int) : Int := ((sg_sbyt.getD i []).getD j.toNat 0).toInt
theorem sg_sl_b : ∀ i : Nat, i < 25 → sg_slen.getD i 0 < 100 := by decide +kernel
theorem sg_sl_R (i : Nat) : sg_R (sg_sl i) := by
  unfold sg_sl
  by_cases h : i < 25
  · have := sg_sl_b i h
    exact ⟨by omega, by omega⟩
  · rw [show sg_slen.getD i 0 = 0 by rw [List.getD_eq_getElem?_getD, List.getElem?_eq_none (by show sg_slen.length ≤ i; have : sg_slen.length = 25 := rfl; omega)]; rfl]
    exact ⟨by omega, by omega⟩
theorem sg_sc_R (i : Nat) (j : Int) : sg_R (sg_sc i j) := sg_R_of _
theorem sg_sbyt_b : ∀ r ∈ sg_sbyt, ∀ b ∈ r, (0 : Int) ≤ b.toInt ∧ b.toInt < 128 := by decide +kernel
theorem sg_sc_b (i : Nat) (j : Int) : 0 ≤ sg_sc i j ∧ sg_sc i j < 128 := by
  unfold sg_sc
  rw [List.getD_eq_getElem?_getD, List.getD_eq_getElem?_getD]
  cases h : sg_sbyt[i]? with
  | none => simp
  | some r =>
    cases h2 : r[j.toNat]? with
    | none => simp [h2]
    | some b =>
      have := sg_sbyt_b r (List.mem_of_getElem? h) b (List.mem_of_getElem? h2)
      simp [h2]
      exact this
theorem gw_ldcS (F : sg_F p s m args meth c own cc nL ret G A) {i : Nat} {idx : Nat} {tx : String} (hs : sg_strs[i]? = some (own, idx, tx)) (hd : decode cc pc = .ok (.ldc idx, 2)) (k : sg_W p l e R s m args below meth c Q nL G A Λ σ cells slots (pc + 2) L (sg_a (G.2.2.1 i) :: S)) : sg_W p l e R s m args below meth c Q nL G A Λ σ cells slots pc L S := by
  intro H locs ls hH hS hl
  exact va_ldcS F.1 F.2.1 F.2.2.2.2.1 (F.2.2.2.2.2.2.2.2.2.2.2.2.2.2.2 i _ hs) hd (k H locs ls hH hS hl)
theorem gw_sval (F : sg_F p s m args meth c own cc nL ret G A) {i : Nat} (hi : i < 25) {idx : Nat} (hlk : Cond.fieldLink own idx "java/lang/String" "value" "[B" ∈ sg_W0) (hd : decode cc pc = .ok (.getfield idx, 3)) (k : sg_W p l e R s m args below meth c Q nL G A Λ σ cells slots (pc + 3) L (sg_a (G.2.2.2 i) :: S)) : sg_W p l e R s m args below meth c Q nL G A Λ σ cells slots pc L (sg_a (G.2.2.1 i) :: S) := by
  intro H locs ls hH hS hl
  exact vk_getf F.1 F.2.1 (F.2.2.2.2.2.2.2.2.2.2.1.1 i hi).2.2.1 hS F.2.2.2.2.1 (F.2.2.2.2.2.1 _ hlk) (fun _ h => h) hd (k H locs ls hH hS hl)
theorem gw_scod (F : sg_F p s m args meth c own cc nL ret G A) {i : Nat} (hi : i < 25) {idx : Nat} (hlk : Cond.fieldLink own idx "java/lang/String" "coder" "B" ∈ sg_W0) (hd : decode cc pc = .ok (.getfield idx, 3)) (k : sg_W p l e R s m args below meth c Q nL G A Λ σ cells slots (pc + 3) L (sg_i 0 :: S)) : sg_W p l e R s m args below meth c Q nL G A Λ σ cells slots pc L (sg_a (G.2.2.1 i) :: S) := by
  intro H locs ls hH hS hl
  exact vk_getf F.1 F.2.1 (F.2.2.2.2.2.2.2.2.2.2.1.1 i hi).2.1 hS F.2.2.2.2.1 (F.2.2.2.2.2.1 _ hlk) (fun _ h => h) hd (k H locs ls hH hS hl)
theorem gw_scs (F : sg_F p s m args meth c own cc nL ret G A) {idx : Nat} (hlk : Cond.fieldLink own idx "java/lang/String" "COMPACT_STRINGS" "Z" ∈ sg_W0) (hd : decode cc pc = .ok (.getstatic idx, 3)) (k : sg_W p l e R s m args below meth c Q nL G A Λ σ cells slots (pc + 3) L (sg_i 1 :: S)) : sg_W p l e R s m args below meth c Q nL G A Λ σ cells slots pc L S := by
  intro H locs ls hH hS hl
  exact va_gets F.1 F.2.1 F.2.2.2.2.2.2.2.2.2.2.2.1 hS F.2.2.2.2.1 (F.2.2.2.2.2.1 _ hlk) (fun _ h => h) hd (k H locs ls hH hS hl)
theorem gw_sfm (F : sg_F p s m args meth c own cc nL ret G A) {idx : Nat} (hlk : Cond.fieldLink own idx "jdk/internal/util/Preconditions" "SIOOBE_FORMATTER" "Ljava/util/function/BiFunction;" ∈ sg_W0) (hd : decode cc pc = .ok (.getstatic idx, 3)) (k : ∀ f : sg_V, sg_cat f = 1 → sg_W p l e R s m args below meth c Q nL G A Λ σ cells slots (pc + 3) L (f :: S)) : sg_W p l e R s m args below meth c Q nL G A Λ σ cells slots pc L S := by
  intro H locs ls hH hS hl
  rcases F.2.2.2.2.2.2.2.2.2.2.2.2.1 with hz | ⟨t, hz⟩
  · have h1 := k (sg_r (-1)) rfl H locs ls hH hS hl
    rw [List.map_cons, show sg_cv Λ (sg_r (-1)) = .null from sg_rf_null (by omega)] at h1
    exact va_gets F.1 F.2.1 hz hS F.2.2.2.2.1 (F.2.2.2.2.2.1 _ hlk) (fun _ h => h) hd h1
  · exact va_gets F.1 F.2.1 hz hS F.2.2.2.2.1 (F.2.2.2.2.2.1 _ hlk) (fun _ h => h) hd (k (sg_a t) rfl H locs ls hH hS hl)
theorem gw_slen (F : sg_F p s m args meth c own cc nL ret G A) {i : Nat} (hi : i < 25) (hd : decode cc pc = .ok (.arraylength, 1)) (k : sg_W p l e R s m args below meth c Q nL G A Λ σ cells slots (pc + 1) L (sg_i (sg_sl i) :: S)) : sg_W p l e R s m args below meth c Q nL G A Λ σ cells slots pc L (sg_a (G.2.2.2 i) :: S) := by
  intro H locs ls hH hS hl
  refine va_tlen F.1 F.2.1 (F.2.2.2.2.2.2.2.2.2.2.1.1 i hi).2.2.2 hS (v := Int32.ofInt (sg_sl i)) ?_ hd (k H locs ls hH hS hl)
  exact Int32.ofInt_eq_ofNat.symm
theorem gw_sbyte (F : sg_F p s m args meth c own cc nL ret G A) {i : Nat} (hi : i < 25) {j : Int} (h0 : 0 ≤ j) (hn : j < sg_sl i) (hd : decode cc pc = .ok (.baload, 1)) (k : sg_W p l e R s m args below meth c Q nL G A Λ σ cells slots (pc + 1) L (sg_i (sg_sc i j) :: S)) : sg_W p l e R s m args below meth c Q nL G A Λ σ cells slots pc L (sg_i j :: sg_a (G.2.2.2 i) :: S) := by
  intro H locs ls hH hS hl
  have hb := sg_sl_b i hi
  have hn2 : j < ((sg_slen.getD i 0 : Nat) : Int) := hn
  have rj : sg_R j := ⟨by omega, by omega⟩
  refine va_tb F.1 F.2.1 (F.2.2.2.2.2.2.2.2.2.2.1.1 i hi).2.2.2 hS (sg_in h0 hn2 rj) (v := .int (Int32.ofInt (sg_sc i j))) ?_ hd (k H locs ls hH hS hl)
  rw [sg_nat rj]
  show Value.int _ = Value.int _
  unfold sg_sc
  rw [Int32.ofInt_toInt]
theorem gw_i2c (F : sg_F p s m args meth c own cc nL ret G A) {x : Int} (h0 : 0 ≤ x) (h1 : x < 128) (hd : decode cc pc = .ok (.i2c, 1)) (k : sg_W p l e R s m args below meth c Q nL G A Λ σ cells slots (pc + 1) L (sg_i x :: S)) : sg_W p l e R s m args below meth c Q nL G A Λ σ cells slots pc L (sg_i x :: S) := by
  intro H locs ls hH hS hl
  refine lv_i2c F.1 F.2.1 hd (v := Int32.ofInt x) ?_ (k H locs ls hH hS hl)
  obtain ⟨n, rfl⟩ : ∃ n : Nat, x = (n : Int) := ⟨x.toNat, by omega⟩
  have hn : n < 128 := by omega
  have : ∀ n : Nat, n < 128 → ((Int32.ofInt (n : Int)).toUInt32 % 65536).toInt32 = Int32.ofInt (n : Int) := by decide +kernel
  exact this n hn
theorem sg_and255 {x : Int} (h0 : 0 ≤ x) (h1 : x < 128) : sg_and x 255 = x := by
  obtain ⟨n, rfl⟩ : ∃ n : Nat, x = (n : Int) := ⟨x.toNat, by omega⟩
  have hn : n < 128 := by omega
  have : ∀ n : Nat, n < 128 → sg_and (n : Int) 255 = (n : Int) := by decide +kernel
  exact this n hn
theorem gk_Pt (F : sg_F p s m args meth c own cc nL ret G A) {ty : FieldType} {Qr : Int → Prop} {st : List sg_V} (hr : sg_Rn p l e R s m args below meth c nL G A Λ σ cells slots pc L st S (some ty) 0 0 (sg_PI Λ σ Qr)) (kk : ∀ r : Int, sg_R r → Qr r → sg_W p l e R s m args below meth c Q nL G A Λ σ cells slots (pc + 3) L (sg_i r :: S)) : sg_W p l e R s m args below meth c Q nL G A Λ σ cells slots pc L st := by
  obtain ⟨a, hr⟩ := hr
  refine sg_run F hr (fun v Λ' σ' h _ w _ => by rw [h.1]) (fun v Λ' σ' h _ q _ => by rw [h.1]) (fun v Λ' σ' h _ => ?_)
  obtain ⟨rfl, rfl, r, rfl, h1, h2⟩ := h
  exact kk r h1 h2
theorem gk_Pv (F : sg_F p s m args meth c own cc nL ret G A) {Qr : Prop} {st : List sg_V} (hr : sg_Rn p l e R s m args below meth c nL G A Λ σ cells slots pc L st S none 0 0 (fun _ Λ' σ' => Λ' = Λ ∧ σ' = σ ∧ Qr)) (kk : Qr → sg_W p l e R s m args below meth c Q nL G A Λ σ cells slots (pc + 3) L S) : sg_W p l e R s m args below meth c Q nL G A Λ σ cells slots pc L st := by
  obtain ⟨a, hr⟩ := hr
  refine sg_run F hr (fun v Λ' σ' h _ w _ => by rw [h.1]) (fun v Λ' σ' h _ q _ => by rw [h.1]) (fun v Λ' σ' h _ => ?_)
  obtain ⟨rfl, rfl, h2⟩ := h
  exact kk h2
theorem gr_Pt {Λ0 : sg_L} {ty : FieldType} (F : sg_F p s m args meth c own cc nL (some ty) G (sg_A Λ0 s.heap.size)) {Qr : Int → Prop} {x : Int} (hx : sg_R x) (hn : narrow ty (.int (Int32.ofInt x)) = .int (Int32.ofInt x)) (hq : Qr x) (hd : decode cc pc = .ok (.ireturn, 1)) : sg_W p l e R s m args below meth c (MQ below (sg_Q (some ty) G Λ0 s.heap.size (sg_PI Λ0 σ Qr)) args s 0 0 (sg_A Λ0 s.heap.size)) nL G (sg_A Λ0 s.heap.size) Λ0 σ 0 0 pc L [sg_i x] := by
  intro H locs ls hH hS hl
  exact W.zret (v := Int32.ofInt x) F.1 F.2.1 F.2.2.2.1 hn (fun t ht _ => sg_fin (v := sg_i x) rfl hH hS ⟨rfl, rfl, x, rfl, hx, hq⟩ sg_E.rf ht) hS.2.2 hd F.2.2.2.2.2.2.1
theorem gc_T (F : sg_F p s m args meth c own cc nL ret G A) {y : MethodName} {bytes : ByteArray} {maxL idx n d mc ms i : Nat} (hi : i < 25) {rt : Option FieldType} {As st : List sg_V} {K : sg_V → sg_L → sg_M → Prop} (hC : sg_C l G y bytes maxL rt d mc ms Λ σ (sg_a (G.2.2.1 i) :: As) K) (hcode : Cond.code y bytes maxL rt ∈ sg_W0) (hini : Cond.initialized y.cls ∈ sg_W0) (hlink : Cond.methodLink own idx y ∈ sg_W0) (hin : Cond.instanceMethod y ∈ sg_W0) (hsel : Cond.selects "java/lang/String" y y ∈ sg_W0)
    (hcd : y.cls ≠ "java/lang/invoke/MethodHandle" ∧ y.cls ≠ "java/lang/invoke/VarHandle" ∧ (parseMethodDescriptor y.desc).map (fun d => d.parameters.length) = some n) (hR : d + 1 ≤ R.frames ∧ 8 + (maxL + 11) + 40 * d ≤ R.locals) (hn : As.length = n) (hs : As.reverse ++ (sg_a (G.2.2.1 i) :: S) = st) (hcs : sg_cats S ≤ 8) (hf : cells + mc ≤ R.cells ∧ slots + ms ≤ R.slots) (hd : decode cc pc = .ok (.invokevirtual idx, 3)) : sg_Rn p l e R s m args below meth c nL G A Λ σ cells slots pc L st S rt mc ms K := by
  subst hs
  refine ⟨(Value.ref (G.2.2.1 i) :: As.map (sg_cv Λ)).toArray, fun H locs ls hH hS hl => ?_⟩
  have hpr := sg_pre F (as := sg_a (G.2.2.1 i) :: As) hH hS
  rw [List.map_cons, show sg_cv Λ (sg_a (G.2.2.1 i)) = .ref (G.2.2.1 i) from rfl] at hpr
  exact va_runV (meth := meth) (l := l) (R := R) (e := e) (below := below) (locs := locs) (cells := cells) (slots := slots) (g := F0 m pc ls ((As.reverse ++ (sg_a (G.2.2.1 i) :: S)).map (sg_cv Λ))) (rest := S.map (sg_cv Λ)) ⟨F.1, F.2.1, F.2.2.1, F.2.2.2.2.1, F.2.2.2.2.2.1⟩ (hC H.size) ⟨sg_callB F hcode hini hlink hcd hR, F.2.2.2.2.2.1 _ hin, F.2.2.2.2.2.1 _ hsel⟩ (b := G.2.2.1 i) (As := As.map (sg_cv Λ)) ⟨sg_blind, vk_recv F.2.2.2.2.2.2.2.2.2.2.1 hi hS, hpr⟩ rfl (by rw [List.length_map]; exact hn) hl.1 (by show (As.reverse ++ (sg_a (G.2.2.1 i) :: S)).map (sg_cv Λ) = _; rw [List.map_append, List.map_reverse, List.map_cons]; rfl) (sg_room hcs) hd hf
end SGTX
set_option maxHeartbeats 4000000 in
set_option maxRecDepth 100000 in
theorem CT_coder {l : Launch} {G : sg_G} {La : sg_L} {s0 : sg_M} {i : Nat} (hi : i < 25) {Q : Int → Prop} (hq : Q 0) : sg_C l G yJ0_coder_7d493 cJ0_coder_7d493 1 (some .byte) 1 0 0 La s0 [sg_a (G.2.2.1 i)] (sg_PI La s0 Q) := by
  refine sg_body (by decide +kernel) (Nat.le_of_ble_eq_true rfl) ?_
  intro p e s m args below meth c F hnm
  refine gw_scs F kw_412 dJ0_coder_7d493_0 ?_
  refine gw_if_eq F (tgt := 13) dJ0_coder_7d493_3 (by decide) (by decide) (fun h => absurd h (by decide)) (fun _ => ?_)
  refine gw_aload_na F 0 rfl rfl dJ0_coder_7d493_6 ?_
  refine gw_scod F hi kw_1369 dJ0_coder_7d493_7 ?_
  refine gw_goto F (tgt := 14) dJ0_coder_7d493_10 (by decide) ?_
  exact gr_Pt F (by decide) rfl hq dJ0_coder_7d493_14

set_option maxHeartbeats 4000000 in
set_option maxRecDepth 100000 in
theorem CT_isLatin1 {l : Launch} {G : sg_G} {La : sg_L} {s0 : sg_M} {i : Nat} (hi : i < 25) {Q : Int → Prop} (hq : Q 1) : sg_C l G yJ0_isLatin1_aae02 cJ0_isLatin1_aae02 1 (some .boolean) 1 0 0 La s0 [sg_a (G.2.2.1 i)] (sg_PI La s0 Q) := by
  refine sg_body (by decide +kernel) (Nat.le_of_ble_eq_true rfl) ?_
  intro p e s m args below meth c F hnm
  refine gw_scs F kw_412 dJ0_isLatin1_aae02_0 ?_
  refine gw_if_eq F (tgt := 17) dJ0_isLatin1_aae02_3 (by decide) (by decide) (fun h => absurd h (by decide)) (fun _ => ?_)
  refine gw_aload_na F 0 rfl rfl dJ0_isLatin1_aae02_6 ?_
  refine gw_scod F hi kw_1369 dJ0_isLatin1_aae02_7 ?_
  refine gw_if_ne F (tgt := 17) dJ0_isLatin1_aae02_10 (by decide) (by decide) (fun h => absurd rfl h) (fun _ => ?_)
  refine gw_iconst F dJ0_isLatin1_aae02_13 ?_
  refine gw_goto F (tgt := 18) dJ0_isLatin1_aae02_14 (by decide) ?_
  exact gr_Pt F (by decide) rfl hq dJ0_isLatin1_aae02_18

set_option maxHeartbeats 4000000 in
set_option maxRecDepth 100000 in
theorem CT_length {l : Launch} {G : sg_G} {La : sg_L} {s0 : sg_M} {i : Nat} (hi : i < 25) {Q : Int → Prop} (hq : Q (sg_sl i)) : sg_C l G yJ0_length_8abf5 cJ0_length_8abf5 1 (some .int) 2 0 0 La s0 [sg_a (G.2.2.1 i)] (sg_PI La s0 Q) := by
  refine sg_body (by decide +kernel) (Nat.le_of_ble_eq_true rfl) ?_
  intro p e s m args below meth c F hnm
  refine gw_aload_na F 0 rfl rfl dJ0_length_8abf5_0 ?_
  refine gw_sval F hi kw_1368 dJ0_length_8abf5_1 ?_
  refine gw_slen F hi dJ0_length_8abf5_4 ?_
  refine gw_aload_na F 0 rfl rfl dJ0_length_8abf5_5 ?_
  refine gk_Pt F (gc_T F (S := [sg_i (sg_sl i)]) (As := []) hi (CT_coder hi (Q := fun r => r = 0) rfl) kw_411 kw_104 kw_408 kw_409 kw_410 hc_coder ⟨by decide, by decide⟩ rfl rfl (Nat.le_of_ble_eq_true rfl) ⟨by decide, by decide⟩ dJ0_length_8abf5_6) (fun r hr h => ?_)
  subst h
  refine gw_ishr F (z := sg_sl i) ?_ dJ0_length_8abf5_9 ?_
  · have hb := sg_sl_b i hi
    unfold sg_sl
    generalize sg_slen.getD i 0 = n at hb
    have : ∀ n : Nat, n < 100 → sg_shr (n : Int) 0 = (n : Int) := by decide +kernel
    exact this n hb
  exact gr_PI F (sg_sl_R i) hq (by decide) (by decide) dJ0_length_8abf5_10

set_option maxHeartbeats 4000000 in
set_option maxRecDepth 100000 in
theorem CT_pc {l : Launch} {G : sg_G} {La : sg_L} {s0 : sg_M} {x n : Int} (rx : sg_R x) (rn : sg_R n) (h0 : 0 ≤ x) (h1 : x < n) {f : sg_V} (hf : sg_cat f = 1) {Q : Int → Prop} (hq : Q x) : sg_C l G yJ3_checkIndex_8e157 cJ3_checkIndex_8e157 3 (some .int) 1 0 0 La s0 [sg_i x, sg_i n, f] (sg_PI La s0 Q) := by
  refine sg_body (by decide +kernel) (by unfold sg_len sg_len sg_len sg_len; rw [hf]; exact Nat.le_refl 3) ?_
  intro p e s m args below meth c F hnm
  show sg_W p l e _ s m args below meth c _ _ G _ La s0 0 0 0 [(0, sg_i x), (1, sg_i n), (2, f)] []
  refine gw_iload_n F 0 rfl rfl dJ3_checkIndex_8e157_0 ?_
  refine gw_if_lt F (tgt := 9) dJ3_checkIndex_8e157_1 (by decide) rx (fun h => absurd h (by omega)) (fun _ => ?_)
  refine gw_iload_n F 0 rfl rfl dJ3_checkIndex_8e157_4 ?_
  refine gw_iload_n F 1 rfl rfl dJ3_checkIndex_8e157_5 ?_
  refine gw_icmp_lt F (tgt := 16) dJ3_checkIndex_8e157_6 (by decide) rx rn (fun _ => ?_) (fun h => absurd h1 h)
  refine gw_iload_n F 0 rfl rfl dJ3_checkIndex_8e157_16 ?_
  exact gr_PI F rx hq (by decide) (by decide) dJ3_checkIndex_8e157_17

set_option maxHeartbeats 4000000 in
set_option maxRecDepth 100000 in
theorem CT_ci {l : Launch} {G : sg_G} {La : sg_L} {s0 : sg_M} {x n : Int} (rx : sg_R x) (rn : sg_R n) (h0 : 0 ≤ x) (h1 : x < n) {Q : Prop} (hq : Q) : sg_C l G yJ0_checkIndex_df160 cJ0_checkIndex_df160 2 (none) 2 0 0 La s0 [sg_i x, sg_i n] (fun _ Λ' σ' => Λ' = La ∧ σ' = s0 ∧ Q) := by
  refine sg_body (by decide +kernel) (Nat.le_of_ble_eq_true rfl) ?_
  intro p e s m args below meth c F hnm
  refine gw_iload_n F 0 rfl rfl dJ0_checkIndex_df160_0 ?_
  refine gw_iload_n F 1 rfl rfl dJ0_checkIndex_df160_1 ?_
  refine gw_sfm F kw_427 dJ0_checkIndex_df160_2 (fun f hf => ?_)
  refine gk_PI F (gc_S F (S := []) (As := [sg_i x, sg_i n, f]) (CT_pc rx rn h0 h1 hf (Q := fun _ => True) trivial) kw_430 kw_106 kw_428 kw_429 hc_pc ⟨by decide, by decide⟩ rfl rfl (Nat.le_of_ble_eq_true rfl) ⟨by decide, by decide⟩ dJ0_checkIndex_df160_5) (fun r hr h => ?_)
  refine gw_pop F rfl dJ0_checkIndex_df160_8 ?_
  exact gw_vret F rfl ⟨rfl, rfl, hq⟩ sg_E.rf (by decide) (by decide) dJ0_checkIndex_df160_9

set_option maxHeartbeats 4000000 in
set_option maxRecDepth 100000 in
theorem CT_l1 {l : Launch} {G : sg_G} {La : sg_L} {s0 : sg_M} {i : Nat} (hi : i < 25) {j : Int} (h0 : 0 ≤ j) (h1 : j < sg_sl i) {Q : Int → Prop} (hq : Q (sg_sc i j)) : sg_C l G yJ1_charAt_3b067 cJ1_charAt_3b067 2 (some .char) 3 0 0 La s0 [sg_a (G.2.2.2 i), sg_i j] (sg_PI La s0 Q) := by
  refine sg_body (by decide +kernel) (Nat.le_of_ble_eq_true rfl) ?_
  intro p e s m args below meth c F hnm
  have hb := sg_sl_b i hi
  have h2 : j < ((sg_slen.getD i 0 : Nat) : Int) := h1
  have rj : sg_R j := ⟨by omega, by omega⟩
  have hc := sg_sc_b i j
  refine gw_iload_n F 1 rfl rfl dJ1_charAt_3b067_0 ?_
  refine gw_aload_na F 0 rfl rfl dJ1_charAt_3b067_1 ?_
  refine gw_slen F hi dJ1_charAt_3b067_2 ?_
  refine gk_Pv F (gc_S F (S := []) (As := [sg_i j, sg_i (sg_sl i)]) (CT_ci rj (sg_sl_R i) h0 h1 (Q := True) trivial) kw_426 kw_104 kw_424 kw_425 hc_ci ⟨by decide, by decide⟩ rfl rfl (Nat.le_of_ble_eq_true rfl) ⟨by decide, by decide⟩ dJ1_charAt_3b067_3) (fun _ => ?_)
  refine gw_aload_na F 0 rfl rfl dJ1_charAt_3b067_6 ?_
  refine gw_iload_n F 1 rfl rfl dJ1_charAt_3b067_7 ?_
  refine gw_sbyte F hi h0 h1 dJ1_charAt_3b067_8 ?_
  refine gw_sipush F rfl dJ1_charAt_3b067_9 ?_
  refine gw_iand F (sg_and255 hc.1 hc.2) dJ1_charAt_3b067_12 ?_
  refine gw_i2c F hc.1 hc.2 dJ1_charAt_3b067_13 ?_
  refine gr_Pt F (sg_sc_R i j) ?_ hq dJ1_charAt_3b067_14
  generalize sg_sc i j = x at hc
  obtain ⟨n, rfl⟩ : ∃ n : Nat, x = (n : Int) := ⟨x.toNat, by omega⟩
  have hn : n < 128 := by omega
  have : ∀ n : Nat, n < 128 → narrow .char (.int (Int32.ofInt (n : Int))) = .int (Int32.ofInt (n : Int)) := by decide +kernel
  exact this n hn

set_option maxHeartbeats 4000000 in
set_option maxRecDepth 100000 in
theorem CT_charAt {l : Launch} {G : sg_G} {La : sg_L} {s0 : sg_M} {i : Nat} (hi : i < 25) {j : Int} (h0 : 0 ≤ j) (h1 : j < sg_sl i) {Q : Int → Prop} (hq : Q (sg_sc i j)) : sg_C l G yJ0_charAt_5068e cJ0_charAt_5068e 2 (some .char) 4 0 0 La s0 [sg_a (G.2.2.1 i), sg_i j] (sg_PI La s0 Q) := by
  refine sg_body (by decide +kernel) (Nat.le_of_ble_eq_true rfl) ?_
  intro p e s m args below meth c F hnm
  have hc := sg_sc_b i j
  refine gw_aload_na F 0 rfl rfl dJ0_charAt_5068e_0 ?_
  refine gk_Pt F (gc_T F (S := []) (As := []) hi (CT_isLatin1 hi (Q := fun r => r = 1) rfl) kw_420 kw_104 kw_417 kw_418 kw_419 hc_isLatin1 ⟨by decide, by decide⟩ rfl rfl (Nat.le_of_ble_eq_true rfl) ⟨by decide, by decide⟩ dJ0_charAt_5068e_1) (fun r hr h => ?_)
  subst h
  refine gw_if_eq F (tgt := 16) dJ0_charAt_5068e_4 (by decide) (by decide) (fun h => absurd h (by decide)) (fun _ => ?_)
  refine gw_aload_na F 0 rfl rfl dJ0_charAt_5068e_7 ?_
  refine gw_sval F hi kw_1368 dJ0_charAt_5068e_8 ?_
  refine gw_iload_n F 1 rfl rfl dJ0_charAt_5068e_11 ?_
  refine gk_Pt F (gc_S F (S := []) (As := [sg_a (G.2.2.2 i), sg_i j]) (CT_l1 hi h0 h1 (Q := fun r => r = sg_sc i j) rfl) kw_423 kw_105 kw_421 kw_422 hc_l1 ⟨by decide, by decide⟩ rfl rfl (Nat.le_of_ble_eq_true rfl) ⟨by decide, by decide⟩ dJ0_charAt_5068e_12) (fun r hr h => ?_)
  subst h
  refine gr_Pt F (sg_sc_R i j) ?_ hq dJ0_charAt_5068e_15
  generalize sg_sc i j = x at hc
  obtain ⟨n, rfl⟩ : ∃ n : Nat, x = (n : Int) := ⟨x.toNat, by omega⟩
  have hn : n < 128 := by omega
  have : ∀ n : Nat, n < 128 → narrow .char (.int (Int32.ofInt (n : Int))) = .int (Int32.ofInt (n : Int)) := by decide +kernel
  exact this n hn

section SGTY
variable {p : Program} {l : Launch} {e : Env} {R : Room} {s : State} {m : MethodId} {args : Array Value} {below : List Frame} {meth : Method} {c : Code} {Q : State → Prop} {G : sg_G} {A : Nat → Prop} {Λ : sg_L} {σ σ1 : sg_M} {cells slots : Nat} {own : String} {cc : ByteArray} {nL : Nat} {ret : Option FieldType} {pc : Nat} {L L' : List (Nat × sg_V)} {S : List sg_V}
theorem gw_strlen (F : sg_F p s m args meth c RX9 cc nL ret G A) {i : Nat} (hi : i < 25) (hcs : sg_cats S ≤ 8) (hR : 3 ≤ R.frames ∧ 140 ≤ R.locals) (hf : cells + 0 ≤ R.cells ∧ slots + 0 ≤ R.slots) (hd : decode cc pc = .ok (.invokevirtual 61, 3)) (k : sg_W p l e R s m args below meth c Q nL G A Λ σ cells slots (pc + 3) L (sg_i (sg_sl i) :: S)) : sg_W p l e R s m args below meth c Q nL G A Λ σ cells slots pc L (sg_a (G.2.2.1 i) :: S) := by
  refine gk_PI F (gc_T F (S := S) (As := []) hi (CT_length hi (Q := fun r => r = sg_sl i) rfl) kw_407 kw_104 kw_404 kw_405 kw_406 hc_length ⟨by omega, by omega⟩ rfl rfl hcs hf hd) (fun r hr h => ?_)
  subst h
  exact k
theorem gw_charAt (F : sg_F p s m args meth c RX9 cc nL ret G A) {i : Nat} (hi : i < 25) {j : Int} (h0 : 0 ≤ j) (h1 : j < sg_sl i) (hcs : sg_cats S ≤ 8) (hR : 5 ≤ R.frames ∧ 200 ≤ R.locals) (hf : cells + 0 ≤ R.cells ∧ slots + 0 ≤ R.slots) (hd : decode cc pc = .ok (.invokevirtual 67, 3)) (k : sg_W p l e R s m args below meth c Q nL G A Λ σ cells slots (pc + 3) L (sg_i (sg_sc i j) :: S)) : sg_W p l e R s m args below meth c Q nL G A Λ σ cells slots pc L (sg_i j :: sg_a (G.2.2.1 i) :: S) := by
  refine gk_Pt F (gc_T F (S := S) (As := [sg_i j]) hi (CT_charAt hi h0 h1 (Q := fun r => r = sg_sc i j) rfl) kw_416 kw_104 kw_413 kw_414 kw_415 hc_charAt ⟨by omega, by omega⟩ rfl rfl hcs hf hd) (fun r hr h => ?_)
  subst h
  exact k
end SGTY
