/-! LEVEL 2, voices of the book: hearBook and sing, voice, range, read. -/
noncomputable section SGK5
variable {La : sg_L} {s : sg_M} {z : sp_Z}
theorem sp_vs_rg (W : Int → Int) (n u : Int) (P : List Int) : ∀ (l : List Int) (most : Int) (v : Int × Int × Int × Int), (∀ p, p ∈ l → 0 ≤ p ∧ p < 60) → 0 ≤ v.1 ∧ v.1 ≤ 2000 → 0 ≤ v.2.1 ∧ v.2.1 ≤ 99 → (0 ≤ (sp_vs W n u P l most v).1 ∧ (sp_vs W n u P l most v).1 ≤ 2000) ∧ (0 ≤ (sp_vs W n u P l most v).2.1 ∧ (sp_vs W n u P l most v).2.1 ≤ 99)
  | [], most, v, _, h, h' => ⟨h, h'⟩
  | p :: l, most, v, hp, h, h' => by
    have h1 := hp p List.mem_cons_self
    have ih := fun most' v' => sp_vs_rg W n u P l most' v' (fun x hx => hp x (List.mem_cons_of_mem _ hx))
    rw [sp_vs]
    repeat' split
    · exact ih _ _ h h'
    · exact ih _ _ h h'
    · exact ih _ _ h h'
    · exact ih _ _ (sg_tn_rg W n p u) ⟨h1.1, show p ≤ 99 by omega⟩
theorem sp_vo_rg {B : sg_M} (hok : sp_ok B) (a b : Int) : (0 ≤ (sp_vo B a b).1 ∧ (sp_vo B a b).1 ≤ 2000) ∧ (0 ≤ (sp_vo B a b).2.1 ∧ (sp_vo B a b).2.1 ≤ 99) := by
  unfold sp_vo; split
  · exact ⟨⟨by decide, by decide⟩, ⟨by decide, by decide⟩⟩
  · refine sp_vs_rg _ _ _ _ _ _ _ (fun p hp => ?_) ⟨by decide, by decide⟩ ⟨by decide, by decide⟩
    have := sp_P_mem hok hp
    have := hok.2.1
    omega
theorem sp_cv {a b : Int} {Q : sg_M → Prop} (hst : sg_St La) (h89 : 89 ≤ La.1) (hw : sp_wZ z) (H : sp_RC La s z) (ha : -9999 ≤ a ∧ a ≤ 9999) (hb : -9999 ≤ b ∧ b ≤ 9999)
    (h : ∀ t, sp_G3 s t → sp_RC La t z → sp_cbt (nB (zN z)) a b t → sp_vxc t (sp_vo (nB (zN z)) a b) → Q t) : 0 ≤ s 4 0 ∧ fX11_listenTo La s (s 4 0) a b Q := by
  obtain ⟨b1, b2, b3, b4⟩ := sp_cb_of H hw
  exact ⟨b3, tX11_listenTo hst b1 ha hb b4 b2 (fun t hF hbt hv => h t hF (sp_RC_b H h89 (fun c i q => hF c i (by omega) (by omega))) hbt hv)⟩
theorem sp_mv {t : sg_M} {a b : Int} {Q : Int → sg_M → Prop} (hw : sp_wZ z) (H : sp_R0 t z) (ha : -9999 ≤ a ∧ a ≤ 9999) (hb : -9999 ≤ b ∧ b ≤ 9999)
    (h : ∀ t', sp_F3 t t' → sp_R0 t' z → sp_mbt (nB (zN z)) a b t' → sp_vx t' (sp_vo (nB (zN z)) a b) → Q (sp_vo (nB (zN z)) a b).1 t') : fX12_voiceOf t a b Q := by
  unfold fX12_voiceOf
  refine tX12_voiceBy hw.2.2.1.1 (by omega) (by omega) ha hb (Or.inl rfl) (sp_mT_of H.2.2.1.1) (fun t' hF hbt hv => ?_)
  exact h t' hF (sp_R0_same H (fun c i hr => hF c i (by unfold sp_rdm at hr; omega) (by unfold sp_rdm at hr; omega))) hbt hv
/-! the class hears its book -/
theorem sp_hbL {Q : sg_M → Prop} (hst : sg_St La) (h89 : 89 ≤ La.1) (hw : sp_wZ z) (h : ∀ t, (∀ c i, c < 32 ∨ (36 < c ∧ c < 58) ∨ 61 < c → t c i = s c i) → t 58 2 = 1 → sp_rw t 58 (sp_vq (zN z)) → sp_rw t 60 (sp_vp (zN z)) → Q t) (H : sp_RC La s z) :
    ∀ (A D : List Int) (k : Int) (V U : List Int) (t : sg_M), 0 ≤ k → k + A.length = (nKa (zN z)).length → A.length = D.length → sg_ar (s 22) k A → sg_ar (s 24) k D → sp_bd A → sp_bd D → (∀ c i, c < 32 ∨ (36 < c ∧ c < 58) ∨ 61 < c → t c i = s c i) → t 58 2 = 0 →
      sp_rw t 58 V → sp_rw t 60 U → (V.length : Int) = k → (U.length : Int) = k → V ++ List.zipWith (fun a b => (sp_vo (nB (zN z)) a b).1) A D = sp_vq (zN z) → U ++ List.zipWith (fun a b => (sp_vo (nB (zN z)) a b).2.1) A D = sp_vp (zN z) → fX11_hearBook_L27 La Q (A.length + 1) t k
  | [], D, k, V, U, t, hk, hkl, hAD, h22, h24, hA, hD, hF, hfr, rV, rU, lV, lU, eV, eU => by
    have H' := H
    rw [sp_RC_eq] at H'
    obtain ⟨-, -, ⟨-, -, -, ⟨-, -, hK, -, -⟩, -⟩, -⟩ := H'
    simp only [List.length_nil] at hkl
    rw [List.length_nil, fX11_hearBook_L27]
    refine ⟨fun _ s13 h13 => ?_, fun hh => absurd (show t 20 2 ≤ k by rw [hF 20 2 (by omega)]; omega) hh⟩
    simp only [List.zipWith_nil_left, List.append_nil] at eV eU
    rw [← eV, ← eU] at h
    refine h s13 (fun c i q => by rw [h13, sg_upN _ (by omega)]; exact hF c i q) (by rw [h13, sg_upS]) (sp_rw_same rV ?_ (fun i => ?_)) (sp_rw_same rU ?_ (fun i => ?_))
    · rw [h13, sg_upN _ (by omega)]
    · rw [h13, sg_upN _ (by omega)]
    · rw [h13, sg_upN _ (by omega)]
    · rw [h13, sg_upN _ (by omega)]
  | a :: A, [], k, V, U, t, hk, hkl, hAD, h22, h24, hA, hD, hF, hfr, rV, rU, lV, lU, eV, eU => by simp at hAD
  | a :: A, d :: D, k, V, U, t, hk, hkl, hAD, h22, h24, hA, hD, hF, hfr, rV, rU, lV, lU, eV, eU => by
    have H' := H
    rw [sp_RC_eq] at H'
    obtain ⟨hT, hFa, hN, hI, hL, hG, hW, hR, hDd, hE, hU, hQ, hKt⟩ := H'
    obtain ⟨-, -, -, ⟨-, -, hK, hKa, hKb⟩, -⟩ := hN
    have hlen := hw.2.2.1.2.2.2.2.2.2.1
    have hlen2 := hw.2.2.1.2.2.2.2.2.1
    simp only [List.length_cons] at hkl hAD
    have ha := hA a List.mem_cons_self
    have hd := hD d List.mem_cons_self
    -- the state while hearing
    have HR : sp_RC La t z := by
      rw [sp_RC_eq]
      have f : ∀ c i, c < 32 ∨ (36 < c ∧ c < 58) ∨ 61 < c → t c i = s c i := hF
      rw [sp_RC_eq] at H
      obtain ⟨hT, hFa, hN, hI, hL, hG, hW, hR, hDd, hE, hU, hQ, hKt⟩ := H
      exact ⟨sp_kT hT (fun c i q => f c i (by omega)), by rw [f 0 16 (by omega)]; exact hFa, sp_kN hN (sp_X_refl La) h89 (fun c i q => f c i (by omega)), sp_kI hI (sp_X_refl La) h89 (fun c i q => f c i (by omega)), sp_kL hL (fun i => f 37 i (by omega)),
        sp_kR hG (fun c i _ _ => f c i (by omega)), by rw [f 0 17 (by omega)]; exact hW, by rw [f 0 18 (by omega)]; exact hR, sp_kR hDd (fun c i _ _ => f c i (by omega)), sp_kR hE (fun c i _ _ => f c i (by omega)), sp_kR hU (fun c i _ _ => f c i (by omega)),
        fun h58 => absurd hfr h58, sp_kK hKt (fun c i _ _ => f c i (by omega))⟩
    rw [List.length_cons, fX11_hearBook_L27]
    refine ⟨fun hh => absurd hh (by rw [hF 20 2 (by omega)]; omega), fun _ => ?_⟩
    refine tX4_at (l := nKa (zN z)) (c := 40) (sp_ln hst 22 10040 rfl) (by omega) (by rw [hF 21 1 (by omega)]; exact hKa.1) (by omega) (sg_ar_congr _ 0 (fun i _ _ => (hF _ i (by omega)).symm) hKa.2) ?_
    refine tX4_at (l := nKb (zN z)) (c := 40) (sp_ln hst 24 10040 rfl) (by omega) (by rw [hF 23 1 (by omega)]; exact hKb.1) (by omega) (sg_ar_congr _ 0 (fun i _ _ => (hF _ i (by omega)).symm) hKb.2) ?_
    have ea : sp_at (nKa (zN z)) k = a := by rw [← sp_at_in hKa.2 hk (by omega)]; exact h22.1
    have eb : sp_at (nKb (zN z)) k = d := by rw [← sp_at_in hKb.2 hk (by omega)]; exact h24.1
    rw [ea, eb]
    refine sp_cv hst h89 hw HR ha hd (fun u hFu HRu hbt hv => ?_)
    have f2 : ∀ c i, c < 32 ∨ 36 < c → u c i = t c i := fun c i q => hFu c i (by omega) (by omega)
    have rVu : sp_rw u 58 V := sp_kR rV (fun c i q1 q2 => f2 c i (by omega))
    have rUu : sp_rw u 60 U := sp_kR rU (fun c i q1 q2 => f2 c i (by omega))
    have hV1 := rVu.1
    have hU1 := rUu.1
    rw [hv.1]
    refine tX4_add (c := 40) (sp_ln hst 59 10040 rfl) (by omega) (by omega) (by omega) ?_
    have rV2 := sp_rw_snoc (x := (sp_vo (nB (zN z)) a d).1) rVu
    generalize hu2 : sg_up (sg_up u (58 + 1) (u 58 1) (sp_vo (nB (zN z)) a d).1) 58 1 (u 58 1 + 1) = u2 at *
    have f3 : ∀ c i, c ≠ 58 + 1 → (c = 58 → i ≠ 1) → u2 c i = u c i := fun c i q1 q2 => by rw [← hu2, sg_upN _ (by omega), sg_upN _ (by omega)]
    have e8 : u2 32 8 = (sp_vo (nB (zN z)) a d).2.1 := by rw [f3 32 8 (by omega) (by omega)]; exact hv.2.1
    rw [e8]
    have rU2 : sp_rw u2 60 U := sp_kR rUu (fun c i q1 q2 => f3 c i (by omega) (by omega))
    have hU2 := rU2.1
    refine tX4_add (c := 40) (sp_ln hst 61 10040 rfl) (by omega) (by omega) (by omega) ?_
    have rU3 := sp_rw_snoc (x := (sp_vo (nB (zN z)) a d).2.1) rU2
    generalize hu3 : sg_up (sg_up u2 (60 + 1) (u2 60 1) (sp_vo (nB (zN z)) a d).2.1) 60 1 (u2 60 1 + 1) = u3 at *
    have f4 : ∀ c i, c ≠ 60 + 1 → (c = 60 → i ≠ 1) → u3 c i = u2 c i := fun c i q1 q2 => by rw [← hu3, sg_upN _ (by omega), sg_upN _ (by omega)]
    refine ⟨by omega, ?_⟩
    refine sp_hbL hst h89 hw h H A D (k + 1) (V ++ [(sp_vo (nB (zN z)) a d).1]) (U ++ [(sp_vo (nB (zN z)) a d).2.1]) u3 (by omega) (by omega) (by omega) h22.2 h24.2 (fun x hx => hA x (List.mem_cons_of_mem _ hx)) (fun x hx => hD x (List.mem_cons_of_mem _ hx))
      (fun c i q => ?_) ?_ (sp_kR rV2 (fun c i q1 q2 => f4 c i (by omega) (by omega))) rU3 (by simp only [List.length_append, List.length_cons, List.length_nil]; omega) (by simp only [List.length_append, List.length_cons, List.length_nil]; omega) ?_ ?_
    · rw [f4 c i (by omega) (by omega), f3 c i (by omega) (by omega), f2 c i (by omega)]; exact hF c i q
    · rw [f4 58 2 (by omega) (by omega), f3 58 2 (by omega) (by omega), f2 58 2 (by omega)]; exact hfr
    · rw [List.append_assoc]; exact eV
    · rw [List.append_assoc]; exact eU
theorem sp_hb {Q : sg_M → Prop} (hst : sg_St La) (h89 : 89 ≤ La.1) (hw : sp_wZ z) (H : sp_RC La s z) (h : ∀ t, (∀ c i, c < 32 ∨ (36 < c ∧ c < 58) ∨ 61 < c → t c i = s c i) → sp_RC La t z → sp_rw t 58 (sp_vq (zN z)) → sp_rw t 60 (sp_vp (zN z)) → Q t) : fX11_hearBook La s Q := by
  have H' := H
  rw [sp_RC_eq] at H'
  obtain ⟨hT, hFa, hN, hI, hL, hG, hW, hR, hDd, hE, hU, hQ, hKt⟩ := H'
  have hN' := hN
  obtain ⟨-, -, -, ⟨-, -, hK, hKa, hKb⟩, -⟩ := hN
  have hlen := hw.2.2.1.2.2.2.2.2.1
  refine ⟨fun h0 => tX4_clear (tX4_clear ⟨(nKa (zN z)).length + 1, ?_⟩), fun h1 => h s (fun _ _ _ => rfl) H (hQ h1).1 (hQ h1).2⟩
  refine sp_hbL hst h89 hw (fun t hF hfr rV rU => h t hF ?_ rV rU) H (nKa (zN z)) (nKb (zN z)) 0 [] [] _ (by omega) (by omega) hlen hKa.2 hKb.2 hw.2.2.1.2.2.2.2.2.2.2.1 hw.2.2.1.2.2.2.2.2.2.2.2.1 (fun c i q => ?_) ?_ ?_ (sp_rw_nil _ _) rfl rfl rfl rfl
  · rw [sp_RC_eq]
    have f := hF
    exact ⟨sp_kT hT (fun c i q => f c i (by omega)), by rw [f 0 16 (by omega)]; exact hFa, sp_kN hN' (sp_X_refl La) h89 (fun c i q => f c i (by omega)), sp_kI hI (sp_X_refl La) h89 (fun c i q => f c i (by omega)), sp_kL hL (fun i => f 37 i (by omega)),
      sp_kR hG (fun c i _ _ => f c i (by omega)), by rw [f 0 17 (by omega)]; exact hW, by rw [f 0 18 (by omega)]; exact hR, sp_kR hDd (fun c i _ _ => f c i (by omega)), sp_kR hE (fun c i _ _ => f c i (by omega)), sp_kR hU (fun c i _ _ => f c i (by omega)),
      fun _ => ⟨rV, rU⟩, sp_kK hKt (fun c i _ _ => f c i (by omega))⟩
  · rw [sg_upN _ (by omega), sg_upN _ (by omega)]
  · rw [sg_upN _ (by omega), sg_upN _ (by omega)]; exact h0
  · exact sp_rw_same (sp_rw_nil s 58) (sg_upN _ (by omega)) (fun i => sg_upN _ (by omega))
/-! the reference sings -/
theorem sp_siL {Q : sg_M → Prop} (hw : sp_wZ z) (h : ∀ t, (∀ c i, (c = 64 → i < 27 ∨ 42 < i ∨ (33 < i ∧ i < 39)) → c < 72 ∨ (76 < c ∧ c ≠ 80) → t c i = s c i) → sp_R0 t z → sg_ar (t 80) 0 (sp_vq (zN z)) → Q t) (hN : sp_mN (s 66) (zN z)) :
    ∀ (A D : List Int) (k : Int) (V : List Int) (t : sg_M), 0 ≤ k → k + A.length = (nKa (zN z)).length → A.length = D.length → sg_ar (fun i => s 66 (1702 + 2 * i)) k A → sg_ar (fun i => s 66 (1702 + 2 * i + 1)) k D → sp_bd A → sp_bd D →
      (∀ c i, (c = 64 → i < 27 ∨ 42 < i ∨ (33 < i ∧ i < 39)) → c < 72 ∨ (76 < c ∧ c ≠ 80) → t c i = s c i) → sp_R0 t z → sg_ar (t 80) 0 V → (V.length : Int) = k → V ++ List.zipWith (fun a b => (sp_vo (nB (zN z)) a b).1) A D = sp_vq (zN z) → fX12_sing_L2 Q (A.length + 1) t k
  | [], D, k, V, t, hk, hkl, hAD, h22, h24, hA, hD, hF, HR, rV, lV, eV => by
    simp only [List.length_nil] at hkl
    rw [List.length_nil, fX12_sing_L2]
    simp only [List.zipWith_nil_left, List.append_nil] at eV
    rw [eV] at rV
    unfold fX12_bends
    exact ⟨fun _ => h t hF HR rV, fun hh => absurd (show t 66 1701 ≤ k by rw [hF 66 1701 (by omega) (by omega), hN.2.2.2.1.1]; omega) hh⟩
  | a :: A, [], k, V, t, hk, hkl, hAD, h22, h24, hA, hD, hF, HR, rV, lV, eV => by simp at hAD
  | a :: A, d :: D, k, V, t, hk, hkl, hAD, h22, h24, hA, hD, hF, HR, rV, lV, eV => by
    have hlen := hw.2.2.1.2.2.2.2.2.2.1
    simp only [List.length_cons] at hkl hAD
    have ea : t 66 (1702 + 2 * k) = a := by rw [hF 66 _ (by omega) (by omega)]; exact h22.1
    have eb : t 66 (1702 + 2 * k + 1) = d := by rw [hF 66 _ (by omega) (by omega)]; exact h24.1
    rw [List.length_cons, fX12_sing_L2]
    unfold fX12_bends fX12_aOf fX12_bOf
    rw [ea, eb]
    refine ⟨fun hh => absurd hh (by rw [hF 66 1701 (by omega) (by omega), hN.2.2.2.1.1]; omega), fun _ => ⟨by omega, by omega, ?_⟩⟩
    refine sp_mv hw HR (hA a List.mem_cons_self) (hD d List.mem_cons_self) (fun u hFu HRu _ _ => ⟨by omega, fun s13 h13 => ⟨by omega, ?_⟩⟩)
    refine sp_siL hw h hN A D (k + 1) (V ++ [(sp_vo (nB (zN z)) a d).1]) s13 (by omega) (by omega) (by omega) h22.2 h24.2 (fun x hx => hA x (List.mem_cons_of_mem _ hx)) (fun x hx => hD x (List.mem_cons_of_mem _ hx)) (fun c i q1 q2 => ?_)
      (sp_R0_same HRu (fun c i hr => by rw [h13]; exact sg_upN _ (by unfold sp_rdm at hr; omega))) (sg_ar_snoc _ 0 (sg_ar_congr _ 0 (fun i q1 q2 => ?_) rV) ?_) (by simp only [List.length_append, List.length_cons, List.length_nil]; omega) (by rw [List.append_assoc]; exact eV)
    · rw [h13, sg_upN _ (by omega), hFu c i (by omega) (by omega)]; exact hF c i q1 q2
    · rw [h13, sg_upN _ (by omega), hFu 80 i (by omega) (by omega)]
    · rw [h13, lV, Int.zero_add, sg_upS]
theorem sp_si {Q : sg_M → Prop} (hw : sp_wZ z) (HR : sp_R0 s z) (h : ∀ t, (∀ c i, (c = 64 → i < 27 ∨ 42 < i ∨ (33 < i ∧ i < 39)) → c < 72 ∨ (76 < c ∧ c ≠ 80) → t c i = s c i) → sp_R0 t z → sg_ar (t 80) 0 (sp_vq (zN z)) → Q t) : fX12_sing s Q := by
  have hN := HR.2.2.1
  refine ⟨(nKa (zN z)).length + 1, ?_⟩
  exact sp_siL hw h hN (nKa (zN z)) (nKb (zN z)) 0 [] s (by omega) (by omega) hw.2.2.1.2.2.2.2.2.1 hN.2.2.2.1.2.1 hN.2.2.2.1.2.2 hw.2.2.1.2.2.2.2.2.2.2.1 hw.2.2.1.2.2.2.2.2.2.2.2.1 (fun _ _ _ _ => rfl) HR trivial rfl rfl
theorem sp_at_zip (f : Int → Int → Int) : ∀ (A D : List Int) (i : Int), A.length = D.length → 0 ≤ i → i < A.length → sp_at (List.zipWith f A D) i = f (sp_at A i) (sp_at D i) := by
  intro A D i hl h0 h1
  unfold sp_at
  rw [if_neg (by omega), if_neg (by omega), if_neg (by omega), List.getD_eq_getElem?_getD, List.getD_eq_getElem?_getD, List.getD_eq_getElem?_getD, List.getElem?_zipWith, List.getElem?_eq_getElem (show i.toNat < A.length by omega), List.getElem?_eq_getElem (show i.toNat < D.length by omega)]
  rfl
theorem sp_vq_len (hw : sp_wZ z) : (sp_vq (zN z)).length = (nKa (zN z)).length := by
  have := hw.2.2.1.2.2.2.2.2.1
  unfold sp_vq; rw [List.length_zipWith]; omega
theorem sp_vp_len (hw : sp_wZ z) : (sp_vp (zN z)).length = (nKa (zN z)).length := by
  have := hw.2.2.1.2.2.2.2.2.1
  unfold sp_vp; rw [List.length_zipWith]; omega
theorem sp_zip_mem {f : Int → Int → Int} {P : Int → Prop} (hf : ∀ a b, P (f a b)) : ∀ (A D : List Int) (x : Int), x ∈ List.zipWith f A D → P x
  | [], _, x, h => by simp at h
  | _ :: _, [], x, h => by simp at h
  | a :: A, d :: D, x, h => by
    rw [List.zipWith_cons_cons] at h
    rcases List.mem_cons.mp h with h | h
    · rw [h]; exact hf a d
    · exact sp_zip_mem hf A D x h
theorem sp_vq_rg (hw : sp_wZ z) (x : Int) (h : x ∈ sp_vq (zN z)) : 0 ≤ x ∧ x ≤ 2000 := sp_zip_mem (P := fun x => 0 ≤ x ∧ x ≤ 2000) (fun a b => (sp_vo_rg hw.2.2.1.1 a b).1) _ _ x h
def aVoice (z : sp_Z) (k w : Int) : Int := if 0 ≤ w ∧ w ≤ 1 then (if w = 0 then sp_at (sp_vq (zN z)) k else sp_at (sp_vp (zN z)) k) else -1
theorem k1Voice {k w : Int} {Q : Int → sg_M → Prop} (hst : sg_St La) (h89 : 89 ≤ La.1) (hw : sp_wZ z) (H : sp_RC La s z) (h : ∀ s', sp_FM s s' → sp_RC La s' z → Q (aVoice z k w) s') : fX11_voice La s k w Q := by
  have hlen := hw.2.2.1.2.2.2.2.2.2.1
  have l1 := sp_vq_len hw
  have l2 := sp_vp_len hw
  unfold aVoice at h
  refine ⟨fun g => ?_, fun g => ⟨fun g2 => ?_, fun g2 => ?_⟩⟩
  · rw [if_neg (by omega)] at h; exact h s (fun _ _ _ _ => rfl) H
  · rw [if_pos (by omega)] at h
    refine sp_hb hst h89 hw H (fun t hF HR rV rU => ?_)
    have h := h t (fun c i q1 q2 => hF c i (by omega)) HR
    refine ⟨fun q => ?_, fun q => ?_⟩
    · rw [if_neg q] at h
      exact tX4_at (c := 40) (sp_ln hst 61 10040 rfl) (by omega) rU.1 (by omega) rU.2 h
    · rw [if_pos q] at h
      exact tX4_at (c := 40) (sp_ln hst 59 10040 rfl) (by omega) rV.1 (by omega) rV.2 h
  · rw [if_neg (by omega)] at h; exact h s (fun _ _ _ _ => rfl) H
theorem sp_ar_sub {f : Int → Int} {l : List Int} (h : sg_ar f 0 l) {i : Int} (h0 : 0 ≤ i) (h1 : i < l.length) : f i = sp_at l i := sp_at_in h h0 h1
theorem sp_bd_at {l : List Int} (h : sp_bd l) {i : Int} (h0 : 0 ≤ i) (h1 : i < l.length) : -9999 ≤ sp_at l i ∧ sp_at l i ≤ 9999 := h _ (sp_at_mem h0 h1)
theorem tX12_isWritten {t : sg_M} {k : Int} {Q : Int → Prop} (HR : sp_R0 t z) (h : Q (if 0 ≤ k ∧ k < (nKa (zN z)).length then 1 else 0)) : fX12_isWritten t k Q := by
  unfold fX12_isWritten fX12_bends
  rw [HR.2.2.1.2.2.2.1.1]
  refine ⟨fun g => ?_, fun g => ⟨fun g2 => ?_, fun g2 => ?_⟩⟩
  · rw [if_neg (by omega)] at h; exact h
  · rw [if_neg (by omega)] at h; exact h
  · rw [if_pos (by omega)] at h; exact h
theorem tX12_aOf {t : sg_M} {k : Int} {Q : Int → Prop} (hw : sp_wZ z) (HR : sp_R0 t z) (h0 : 0 ≤ k) (h1 : k < (nKa (zN z)).length) (h : Q (sp_at (nKa (zN z)) k)) : fX12_aOf t k Q := by
  have hlen := hw.2.2.1.2.2.2.2.2.2.1
  have e := sp_at_in HR.2.2.1.2.2.2.1.2.1 h0 h1
  exact ⟨by omega, by rw [e]; exact h⟩
theorem tX12_bOf {t : sg_M} {k : Int} {Q : Int → Prop} (hw : sp_wZ z) (HR : sp_R0 t z) (h0 : 0 ≤ k) (h1 : k < (nKa (zN z)).length) (h : Q (sp_at (nKb (zN z)) k)) : fX12_bOf t k Q := by
  have hlen := hw.2.2.1.2.2.2.2.2.2.1
  have hlen2 := hw.2.2.1.2.2.2.2.2.1
  have e := sp_at_in HR.2.2.1.2.2.2.1.2.2 h0 (by omega)
  exact ⟨by omega, by rw [e]; exact h⟩
theorem k2Voice {k w : Int} {Q : Int → sg_M → Prop} (hw : sp_wZ z) (H : sp_RM s z) (h : ∀ s', sp_FC s s' → sp_RM s' z → Q (aVoice z k w) s') : fX12_voice s k w Q := by
  obtain ⟨H0, h20, F0, -⟩ := sp_go H
  intro s1 h1
  rw [← h1] at H0 F0 h20
  have hlen2 := hw.2.2.1.2.2.2.2.2.1
  have l1 := sp_vq_len hw
  have l2 := sp_vp_len hw
  unfold aVoice at h
  refine tX12_lay (tX12_isWritten H0 ?_)
  split
  · rename_i g
    refine ⟨fun hh => absurd hh (by omega), fun _ => tX12_isIn ?_⟩
    split
    · rename_i g2
      rw [if_pos g2] at h
      refine ⟨fun _ => tX12_aOf hw H0 g.1 g.2 (tX12_bOf hw H0 g.1 g.2 ?_), fun hh => absurd hh (by omega)⟩
      refine sp_mv hw H0 (sp_bd_at hw.2.2.1.2.2.2.2.2.2.2.1 g.1 g.2) (sp_bd_at hw.2.2.1.2.2.2.2.2.2.2.2.1 g.1 (by omega)) (fun t hF HR _ hv => ?_)
      have h := h t (fun c i q => by rw [hF c i (by omega) (by omega)]; exact F0 c i q) (sp_RM_of HR (by rw [hF 64 20 (by omega) (by omega)]; exact h20))
      unfold sp_vq sp_vp at h
      rw [sp_at_zip _ _ _ _ hlen2 g.1 g.2, sp_at_zip _ _ _ _ hlen2 g.1 g.2] at h
      refine ⟨fun q => ?_, fun q => ?_⟩
      · rw [if_neg q] at h; rw [hv.2.1]; exact h
      · rw [if_pos q] at h; rw [hv.1]; exact h
    · rename_i g2
      rw [if_neg g2] at h
      exact ⟨fun hh => absurd rfl hh, fun _ => h _ F0 (sp_RM_of H0 h20)⟩
  · rename_i g
    refine ⟨fun _ => ?_, fun hh => absurd rfl hh⟩
    have h := h _ F0 (sp_RM_of H0 h20)
    rw [sp_at_out (by omega), sp_at_out (by omega)] at h
    split at h
    · split at h <;> exact h
    · exact h
end SGK5
