/-! LEVEL 2, what is left alone: the parts of the state stand in a heap that holds the same where they are read; lay. -/
noncomputable section SGFr
theorem sp_ly_20 (s : sg_M) : sp_ly s 64 20 ≠ 0 := by
  unfold sp_ly; split
  · simp
  · assumption
theorem sp_ly_id {s : sg_M} (h : s 64 20 ≠ 0) : sp_ly s = s := by
  funext c i; unfold sp_ly; rw [if_neg h]
theorem sp_ly_o {s : sg_M} {c i : Int} (h1 : c ≠ 66) (h2 : c = 64 → i ≠ 20) : sp_ly s c i = s c i := by
  have h3 : ¬ (c = 64 ∧ i = 20) := by omega
  simp [sp_ly, h3, h1]
theorem tX12_lay {s : sg_M} {Q : sg_M → Prop} (h : Q (sp_ly s)) : fX12_lay s Q := by
  unfold fX12_lay
  refine ⟨fun h0 s3 h3 s6 h6 s9 h9 s12 h12 => ⟨4, ?_⟩, fun h0 => by rw [sp_ly_id h0] at h; exact h⟩
  simp only [fX12_lay_L40]
  refine ⟨fun g => absurd g (by omega), fun _ => ⟨by omega, fun a1 b1 => ⟨by omega, fun a2 b2 => ⟨by omega, ?_⟩⟩⟩⟩
  refine ⟨fun g => absurd g (by omega), fun _ => ⟨by omega, fun a3 b3 => ⟨by omega, fun a4 b4 => ⟨by omega, ?_⟩⟩⟩⟩
  refine ⟨fun g => absurd g (by omega), fun _ => ⟨by omega, fun a5 b5 => ⟨by omega, fun a6 b6 => ⟨by omega, ?_⟩⟩⟩⟩
  refine ⟨fun _ => ?_, fun g => absurd (show (3 : Int) ≤ 0 + 1 + 1 + 1 by omega) g⟩
  have e : a6 = sp_ly s := by
    rw [b6, b5, b4, b3, b2, b1, h12, h9, h6, h3]
    funext c i
    unfold sp_ly sg_up
    rw [if_pos h0]
    by_cases hc : c = 66
    · subst hc
      simp only [true_and, if_true, false_and, if_false, Int.reduceEq]
      repeat' split
      all_goals omega
    · simp only [hc, false_and, if_false]
  rw [e]; exact h
/-- where what a reference's field says stands -/
def sp_rdm (c i : Int) : Prop := (c = 64 ∧ (i = 2 ∨ i = 10 ∨ i = 37 ∨ i = 38 ∨ i = 50 ∨ i = 52 ∨ i = 55 ∨ i = 56)) ∨ c = 65 ∨ c = 66 ∨ c = 68 ∨ c = 71 ∨ c = 77 ∨ c = 78 ∨ c = 83 ∨ c = 84 ∨ c = 86
theorem sp_R0_same {m m' : sg_M} {z : sp_Z} (h : sp_R0 m z) (e : ∀ c i, sp_rdm c i → m' c i = m c i) : sp_R0 m' z := by
  obtain ⟨⟨t1, t2⟩, f, n, im, l, ⟨g1, g2⟩, w, r, ⟨d1, d2⟩, ⟨e1, e2⟩, u1, u2⟩ := h
  have e66 : m' 66 = m 66 := by funext i; exact e 66 i (by unfold sp_rdm; omega)
  have e68 : m' 68 = m 68 := by funext i; exact e 68 i (by unfold sp_rdm; omega)
  refine ⟨⟨by rw [e 64 2 (by unfold sp_rdm; omega)]; exact t1, sg_ar_congr _ 0 (fun i _ _ => (e 65 i (by unfold sp_rdm; omega)).symm) t2⟩, by rw [e 64 10 (by unfold sp_rdm; omega)]; exact f, by rw [e66]; exact n, fun k h1 h2 => ?_, fun k h1 h2 => ?_,
    ⟨by rw [e 64 37 (by unfold sp_rdm; omega)]; exact g1, sg_ar_congr _ 0 (fun i _ _ => (e 78 i (by unfold sp_rdm; omega)).symm) g2⟩, by rw [e 64 38 (by unfold sp_rdm; omega)]; exact w, by rw [e 64 56 (by unfold sp_rdm; omega)]; exact r,
    ⟨by rw [e 64 52 (by unfold sp_rdm; omega)]; exact d1, sg_ar_congr _ 0 (fun i _ _ => (e 84 i (by unfold sp_rdm; omega)).symm) d2⟩, ⟨by rw [e 64 55 (by unfold sp_rdm; omega)]; exact e1, sg_ar_congr _ 0 (fun i _ _ => (e 86 i (by unfold sp_rdm; omega)).symm) e2⟩,
    by rw [e 64 50 (by unfold sp_rdm; omega)]; exact u1, sg_ar_congr _ 0 (fun i _ _ => (e 83 i (by unfold sp_rdm; omega)).symm) u2⟩
  · rw [e 71 k (by unfold sp_rdm; omega), e68]; exact im k h1 h2
  · rw [e 77 k (by unfold sp_rdm; omega)]; exact l k h1 h2
theorem sp_RM_of {t : sg_M} {z : sp_Z} (h : sp_R0 t z) (h20 : t 64 20 ≠ 0) : sp_RM t z := by
  unfold sp_RM; rw [sp_ly_id h20]; exact h
/-- a call of the reference begins -/
theorem sp_go {s : sg_M} {z : sp_Z} (h : sp_RM s z) : sp_R0 (sp_ly (sg_up s 64 0 0)) z ∧ sp_ly (sg_up s 64 0 0) 64 20 ≠ 0 ∧ sp_FC s (sp_ly (sg_up s 64 0 0)) ∧ sp_ly (sg_up s 64 0 0) 64 0 = 0 := by
  refine ⟨sp_R0_same h (fun c i hr => ?_), sp_ly_20 _, fun c i hc => ?_, ?_⟩
  · have e20 : sg_up s 64 0 0 64 20 = s 64 20 := sg_upN _ (by omega)
    have eo : sg_up s 64 0 0 c i = s c i := sg_upN _ (by unfold sp_rdm at hr; omega)
    unfold sp_ly
    rw [e20, eo]
  · rw [sp_ly_o (by omega) (by omega), sg_upN _ (by omega)]
  · rw [sp_ly_o (by omega) (by omega), sg_upS]
theorem sp_go0 {s : sg_M} {z : sp_Z} (h : sp_RM s z) : sp_RM (sg_up s 64 0 0) z ∧ sp_FC s (sg_up s 64 0 0) :=
  ⟨(sp_go h).1, fun c i hc => sg_upN _ (by omega)⟩
theorem sp_FC_trans {s t u : sg_M} (h : sp_FC s t) (h' : sp_FC t u) : sp_FC s u := fun c i hc => (h' c i hc).trans (h c i hc)
theorem sp_FM_trans {s t u : sg_M} (h : sp_FM s t) (h' : sp_FM t u) : sp_FM s u := fun c i h1 h2 => (h' c i h1 h2).trans (h c i h1 h2)
theorem sp_RM_same {s s' : sg_M} {z : sp_Z} (h : sp_RM s z) (hF : sp_FM s s') : sp_RM s' z := by
  refine sp_R0_same h (fun c i hr => ?_)
  have hc : 64 ≤ c ∧ c ≤ 87 := by unfold sp_rdm at hr; omega
  unfold sp_ly
  rw [hF 64 20 (by omega) (by omega), hF c i hc.1 hc.2]
/-! the class -/
theorem sp_X_ln {La La' : sg_L} (hX : sg_X La La') {a : Int} (h0 : 0 ≤ a) (h1 : a < La.1) : sg_ln La' a = sg_ln La a := by
  unfold sg_ln
  rw [hX.2.2 a.toNat (by omega)]
/-- a heap holds the same where what was read stands; images may come -/
def sp_kp (La : sg_L) (s s' : sg_M) : Prop := (∀ c i : Int, (5 ≤ c ∧ c ≤ 19) ∨ (89 ≤ c ∧ c < La.1 ∧ ∀ k, 0 ≤ k → k < 2 → 0 ≤ s 26 k → ¬ (s 26 k ≤ c ∧ c < s 26 k + 7)) → s' c i = s c i) ∧ ∀ k, 0 ≤ k → k < 2 → s' 26 k = s 26 k ∨ (La.1 : Int) ≤ s' 26 k
theorem sp_rg_same {La La' : sg_L} {s s' : sg_M} {r c w : Int} {kd : Nat} (h : sp_rg La s r c w kd) (hX : sg_X La La') (h89 : 89 ≤ La.1) (hc : 0 ≤ c ∧ c < 20 ∧ 0 < w) (hk : sp_kp La s s') : sp_rg La' s' r c w kd := by
  obtain ⟨h0, h⟩ := h
  have hx := hX.1
  refine ⟨?_, ?_⟩
  · rw [hX.2.2 r.toNat (by omega)]; exact h0
  · rcases h with h | ⟨h1, h2, h3⟩
    · exact Or.inl h
    · refine Or.inr ⟨h1, by omega, fun k k0 k1 => ?_⟩
      rcases hk.2 k k0 k1 with e | e
      · rw [e]; exact h3 k k0 k1
      · intro _; left; omega
theorem sp_rg_eq {La : sg_L} {s s' : sg_M} {r c w : Int} {kd : Nat} (h : sp_rg La s r c w kd) (hk : sp_kp La s s') (hc : (5 ≤ c ∧ c + w ≤ 20)) : ∀ x i, r ≤ x → x < r + w → s' x i = s x i := by
  intro x i h1 h2
  rcases h.2 with h | ⟨g1, g2, g3⟩
  · exact hk.1 x i (Or.inl (by omega))
  · refine hk.1 x i (Or.inr ⟨by omega, by omega, fun k k0 k1 h26 hh => ?_⟩)
    have := g3 k k0 k1 h26
    omega
theorem sp_cBl_same {La La' : sg_L} {s s' : sg_M} {r : Int} {B : sg_M} (h : sp_cBl La s r B) (hX : sg_X La La') (h89 : 89 ≤ La.1) (hk : sp_kp La s s') : sp_cBl La' s' r B := by
  have e := sp_rg_eq h.1 hk (by omega)
  exact ⟨sp_rg_same h.1 hX h89 (by omega) hk, sp_cB_same h.2 (fun i => e _ i (by omega) (by omega)) (fun i => e _ i (by omega) (by omega)) (fun i => e _ i (by omega) (by omega)) (fun i => e _ i (by omega) (by omega)) (fun i => e _ i (by omega) (by omega))⟩
theorem sp_cH_same {La La' : sg_L} {s s' : sg_M} {r : Int} {A D : List Int} (h : sp_cH La s r A D) (hX : sg_X La La') (h89 : 89 ≤ La.1) (hk : sp_kp La s s') : sp_cH La' s' r A D := by
  have e := sp_rg_eq h.1 hk (by omega)
  exact ⟨sp_rg_same h.1 hX h89 (by omega) hk, by rw [e r 2 (by omega) (by omega)]; exact h.2.1, sg_ar_congr _ 0 (fun i _ _ => (e _ i (by omega) (by omega)).symm) h.2.2.1, sg_ar_congr _ 0 (fun i _ _ => (e _ i (by omega) (by omega)).symm) h.2.2.2⟩
theorem sp_cS_same {La La' : sg_L} {s s' : sg_M} {r : Int} {C : Option ((Int → Int) → Bool)} (h : sp_cS La s r C) (hX : sg_X La La') (h89 : 89 ≤ La.1) (hk : sp_kp La s s') : sp_cS La' s' r C := by
  have e := sp_rg_eq h.1 hk (by omega)
  have hr : 0 ≤ r ∧ r + 7 ≤ La.1 := by
    rcases h.1.2 with g | g <;> omega
  obtain ⟨g1, l1, l2, l3, hh⟩ := h
  refine ⟨sp_rg_same g1 hX h89 (by omega) hk, by rw [sp_X_ln hX (by omega) (by omega)]; exact l1, by rw [sp_X_ln hX (by omega) (by omega)]; exact l2, by rw [sp_X_ln hX (by omega) (by omega)]; exact l3, ?_⟩
  rw [e r 3 (by omega) (by omega)]
  rcases hh with hh | ⟨h1, S, K, G, M, q1, q2, q3, q4, w1, w2, w3, q5⟩
  · exact Or.inl hh
  · exact Or.inr ⟨h1, S, K, G, M, q1, q2, q3, q4, sp_rw_same w1 (e _ 1 (by omega) (by omega)) (fun i => e _ i (by omega) (by omega)), sp_rw_same w2 (e _ 1 (by omega) (by omega)) (fun i => e _ i (by omega) (by omega)),
      sp_rw_same w3 (e _ 1 (by omega) (by omega)) (fun i => e _ i (by omega) (by omega)), q5⟩
theorem sp_cK_same {La La' : sg_L} {s s' : sg_M} {b : Int} {A D : List Int} (h : sp_cK La s b A D) (hX : sg_X La La') (hb0 : 0 ≤ b) (hb : b + 4 < La.1) (e : ∀ c i, b ≤ c → c ≤ b + 4 → s' c i = s c i) : sp_cK La' s' b A D := by
  obtain ⟨l1, l2, h1, h2, h3⟩ := h
  exact ⟨by rw [sp_X_ln hX (by omega) (by omega)]; exact l1, by rw [sp_X_ln hX (by omega) (by omega)]; exact l2, by rw [e b 2 (by omega) (by omega)]; exact h1, sp_rw_same h2 (e _ 1 (by omega) (by omega)) (fun i => e _ i (by omega) (by omega)),
    sp_rw_same h3 (e _ 1 (by omega) (by omega)) (fun i => e _ i (by omega) (by omega))⟩
theorem sp_cF_same {La La' : sg_L} {s s' : sg_M} {h : Int} {S : Int → Option sg_M} (H : sp_cF La s h S) (hX : sg_X La La') (h89 : 89 ≤ La.1) (hk : sp_kp La s s') (e : ∀ i, s' h i = s h i) : sp_cF La' s' h S := by
  intro k k0 k1
  rw [e k]
  rcases H k k0 k1 with g | ⟨g, B, g1, g2⟩
  · exact Or.inl g
  · exact Or.inr ⟨g, B, g1, sp_cBl_same g2 hX h89 hk⟩
theorem sp_cN_same {La La' : sg_L} {s s' : sg_M} {o b h : Int} {N : sp_N} (H : sp_cN La s o b h N) (hX : sg_X La La') (h89 : 89 ≤ La.1) (hb0 : 0 ≤ b) (hb : b + 4 < La.1) (hk : sp_kp La s s') (eo : ∀ i, s' o i = s o i) (eb : ∀ c i, b ≤ c → c ≤ b + 4 → s' c i = s c i) (eh : ∀ i, s' h i = s h i) : sp_cN La' s' o b h N := by
  obtain ⟨h1, h2, h3, h4, h5⟩ := H
  refine ⟨?_, ?_, ?_, sp_cK_same h4 hX hb0 hb eb, sp_cF_same h5 hX h89 hk eh⟩
  · rw [eo]; exact sp_cBl_same h1 hX h89 hk
  · rw [eo]; exact sp_cH_same h2 hX h89 hk
  · rw [eo]; exact sp_cS_same h3 hX h89 hk
/-- the images -/
def sp_cI (La : sg_L) (s : sg_M) (I : Int → Option sp_N) : Prop := (∀ k, 0 ≤ k → k < 2 → (I k = none ∧ s 26 k < 0) ∨ (0 ≤ s 26 k ∧ 89 ≤ s 26 k ∧ s 26 k + 7 ≤ La.1 ∧ ∃ M, I k = some M ∧ sp_cN La s (s 26 k) (s 26 k + 1) (s 26 k + 6) M)) ∧ (0 ≤ s 26 0 → 0 ≤ s 26 1 → s 26 0 + 7 ≤ s 26 1 ∨ s 26 1 + 7 ≤ s 26 0)
theorem sp_cI_same {La La' : sg_L} {s s' : sg_M} {I : Int → Option sp_N} (H : sp_cI La s I) (hX : sg_X La La') (h89 : 89 ≤ La.1) (e : ∀ c i : Int, (5 ≤ c ∧ c ≤ 19) ∨ c = 26 ∨ (89 ≤ c ∧ c < La.1) → s' c i = s c i) : sp_cI La' s' I := by
  have e26 : ∀ k, s' 26 k = s 26 k := fun k => e 26 k (by omega)
  refine ⟨fun k k0 k1 => ?_, by rw [e26, e26]; exact H.2⟩
  rw [e26]
  rcases H.1 k k0 k1 with g | ⟨g1, g2, g3, M, g4, g5⟩
  · exact Or.inl g
  · have := hX.1
    refine Or.inr ⟨g1, g2, by omega, M, g4, sp_cN_same g5 hX h89 (by omega) (by omega) ⟨fun c i hc => e c i (by omega), fun k _ _ => Or.inl (e26 k)⟩ (fun i => e _ i (by omega)) (fun c i _ _ => e c i (by omega)) (fun i => e _ i (by omega))⟩
def sp_cL (s : sg_M) (L : Int → Int) : Prop := (s 37 1 = 0 ∧ ∀ w, 0 ≤ w → w < 5 → L w = -1) ∨ (s 37 1 ≠ 0 ∧ s 37 2 = L 0 ∧ s 37 3 = L 1 ∧ s 37 5 = L 2 ∧ s 37 6 = L 3 ∧ s 37 4 = L 4 ∧ (L 2 = 0 ∨ L 2 = 1) ∧ (L 3 = 0 ∨ L 3 = 1))
def sp_cQ (s : sg_M) (N : sp_N) : Prop := s 58 2 ≠ 0 → sp_rw s 58 (sp_vq N) ∧ sp_rw s 60 (sp_vp N)
def sp_cW (s : sg_M) (N : sp_N) : Prop := s 62 2 ≠ 0 → ∀ S, nC N = some S → sp_rw s 62 (sp_tk (nB N) S (nHa N) (nHb N) 1)
theorem sp_RC_eq (La : sg_L) (s : sg_M) (z : sp_Z) : sp_RC La s z = ((s 1 1 = (zT z).length ∧ sg_ar (s 2) 0 (zT z)) ∧ s 0 16 = zF z ∧ sp_cN La s 4 20 25 (zN z) ∧ sp_cI La s (zI z) ∧ sp_cL s (zL z) ∧
  sp_rw s 38 (zG z) ∧ s 0 17 = zW z ∧ s 0 18 = zR z ∧ sp_rw s 52 (zD z) ∧ sp_rw s 54 (zE z) ∧ sp_rw s 50 (zU z) ∧ sp_cQ s (zN z) ∧ sp_cW s (zN z)) := rfl
/-- where what a field of the class says stands -/
def sp_rdc (La : sg_L) (c i : Int) : Prop := (c = 0 ∧ 16 ≤ i) ∨ (c = 1 ∧ i = 1) ∨ c = 2 ∨ (4 ≤ c ∧ c ≤ 26) ∨ (37 ≤ c ∧ c ≤ 39) ∨ (50 ≤ c ∧ c ≤ 55) ∨ (58 ≤ c ∧ c ≤ 63) ∨ (89 ≤ c ∧ c < La.1)
theorem sp_RC_same {La La' : sg_L} {s s' : sg_M} {z : sp_Z} (H : sp_RC La s z) (hX : sg_X La La') (h89 : 89 ≤ La.1) (e : ∀ c i, sp_rdc La c i → s' c i = s c i) : sp_RC La' s' z := by
  rw [sp_RC_eq] at H ⊢
  obtain ⟨⟨hT1, hT2⟩, hF, hN, hI, hL, hG, hW, hR, hD, hE, hU, hQ, hK⟩ := H
  have e1 : ∀ c i : Int, (4 ≤ c ∧ c ≤ 26) ∨ (37 ≤ c ∧ c ≤ 39) ∨ (50 ≤ c ∧ c ≤ 55) ∨ (58 ≤ c ∧ c ≤ 63) ∨ (89 ≤ c ∧ c < La.1) → s' c i = s c i := fun c i h => e c i (by unfold sp_rdc; omega)
  refine ⟨⟨by rw [e 1 1 (by unfold sp_rdc; omega)]; exact hT1, sg_ar_congr _ 0 (fun i _ _ => (e 2 i (by unfold sp_rdc; omega)).symm) hT2⟩, by rw [e 0 16 (by unfold sp_rdc; omega)]; exact hF,
    sp_cN_same hN hX h89 (by omega) (by omega) ⟨fun c i hc => e1 c i (by omega), fun k _ _ => Or.inl (e1 26 k (by omega))⟩ (fun i => e1 4 i (by omega)) (fun c i _ _ => e1 c i (by omega)) (fun i => e1 25 i (by omega)),
    sp_cI_same hI hX h89 (fun c i hc => e1 c i (by omega)), ?_, sp_rw_same hG (e1 38 1 (by omega)) (fun i => e1 39 i (by omega)), by rw [e 0 17 (by unfold sp_rdc; omega)]; exact hW, by rw [e 0 18 (by unfold sp_rdc; omega)]; exact hR,
    sp_rw_same hD (e1 52 1 (by omega)) (fun i => e1 53 i (by omega)), sp_rw_same hE (e1 54 1 (by omega)) (fun i => e1 55 i (by omega)), sp_rw_same hU (e1 50 1 (by omega)) (fun i => e1 51 i (by omega)), ?_, ?_⟩
  · unfold sp_cL at hL ⊢
    rw [e1 37 1 (by omega), e1 37 2 (by omega), e1 37 3 (by omega), e1 37 4 (by omega), e1 37 5 (by omega), e1 37 6 (by omega)]; exact hL
  · intro h58
    rw [e1 58 2 (by omega)] at h58
    have := hQ h58
    exact ⟨sp_rw_same this.1 (e1 58 1 (by omega)) (fun i => e1 59 i (by omega)), sp_rw_same this.2 (e1 60 1 (by omega)) (fun i => e1 61 i (by omega))⟩
  · intro h62 S hS
    rw [e1 62 2 (by omega)] at h62
    exact sp_rw_same (hK h62 S hS) (e1 62 1 (by omega)) (fun i => e1 63 i (by omega))
theorem sp_X_refl (La : sg_L) : sg_X La La := ⟨Nat.le_refl _, fun _ _ => rfl, fun _ _ => rfl⟩
theorem sp_RC_FC {La : sg_L} {s s' : sg_M} {z : sp_Z} (H : sp_RC La s z) (h89 : 89 ≤ La.1) (hF : sp_FC s s') : sp_RC La s' z :=
  sp_RC_same H (sp_X_refl La) h89 (fun c i hr => hF c i (by unfold sp_rdc at hr; omega))
end SGFr
noncomputable section SGFs
theorem sp_kT {s s' : sg_M} {T : List Int} (h : s 1 1 = T.length ∧ sg_ar (s 2) 0 T) (e : ∀ c i, (c = 1 ∧ i = 1) ∨ c = 2 → s' c i = s c i) : s' 1 1 = T.length ∧ sg_ar (s' 2) 0 T :=
  ⟨by rw [e 1 1 (by omega)]; exact h.1, sg_ar_congr _ 0 (fun i _ _ => (e 2 i (by omega)).symm) h.2⟩
theorem sp_kN {La La' : sg_L} {s s' : sg_M} {N : sp_N} (h : sp_cN La s 4 20 25 N) (hX : sg_X La La') (h89 : 89 ≤ La.1) (e : ∀ c i : Int, (4 ≤ c ∧ c ≤ 26) ∨ (89 ≤ c ∧ c < La.1) → s' c i = s c i) : sp_cN La' s' 4 20 25 N :=
  sp_cN_same h hX h89 (by omega) (by omega) ⟨fun c i _ => e c i (by omega), fun k _ _ => Or.inl (e 26 k (by omega))⟩ (fun i => e 4 i (by omega)) (fun c i _ _ => e c i (by omega)) (fun i => e 25 i (by omega))
theorem sp_kI {La La' : sg_L} {s s' : sg_M} {I : Int → Option sp_N} (h : sp_cI La s I) (hX : sg_X La La') (h89 : 89 ≤ La.1) (e : ∀ c i : Int, (5 ≤ c ∧ c ≤ 19) ∨ c = 26 ∨ (89 ≤ c ∧ c < La.1) → s' c i = s c i) : sp_cI La' s' I := sp_cI_same h hX h89 e
theorem sp_kL {s s' : sg_M} {L : Int → Int} (h : sp_cL s L) (e : ∀ i, s' 37 i = s 37 i) : sp_cL s' L := by
  unfold sp_cL at *; rw [e, e, e, e, e, e]; exact h
theorem sp_kR {s s' : sg_M} {o : Int} {l : List Int} (h : sp_rw s o l) (e : ∀ c i, o ≤ c → c ≤ o + 1 → s' c i = s c i) : sp_rw s' o l := sp_rw_same h (e _ _ (by omega) (by omega)) (fun i => e _ _ (by omega) (by omega))
theorem sp_kQ {s s' : sg_M} {N : sp_N} (h : sp_cQ s N) (e : ∀ c i, 58 ≤ c → c ≤ 61 → s' c i = s c i) : sp_cQ s' N := fun h58 => by
  rw [e 58 2 (by omega) (by omega)] at h58
  have := h h58
  exact ⟨sp_kR this.1 (fun c i _ _ => e c i (by omega) (by omega)), sp_kR this.2 (fun c i _ _ => e c i (by omega) (by omega))⟩
theorem sp_kK {s s' : sg_M} {N : sp_N} (h : sp_cW s N) (e : ∀ c i, 62 ≤ c → c ≤ 63 → s' c i = s c i) : sp_cW s' N := fun h62 S hS => by
  rw [e 62 2 (by omega) (by omega)] at h62
  exact sp_kR (h h62 S hS) (fun c i _ _ => e c i (by omega) (by omega))
/-- fields of the reference -/
theorem sp_mT0 {m m' : sg_M} {T : List Int} (h : m 64 2 = T.length ∧ sg_ar (m 65) 0 T) (e2 : m' 64 2 = m 64 2) (e : ∀ i, m' 65 i = m 65 i) : m' 64 2 = T.length ∧ sg_ar (m' 65) 0 T :=
  ⟨by rw [e2]; exact h.1, sg_ar_congr _ 0 (fun i _ _ => (e i).symm) h.2⟩
theorem sp_m2 {m m' : sg_M} {k c : Int} {l : List Int} (h : m 64 k = l.length ∧ sg_ar (m c) 0 l) (e2 : m' 64 k = m 64 k) (e : ∀ i, m' c i = m c i) : m' 64 k = l.length ∧ sg_ar (m' c) 0 l :=
  ⟨by rw [e2]; exact h.1, sg_ar_congr _ 0 (fun i _ _ => (e i).symm) h.2⟩
theorem sp_mN0 {m m' : sg_M} {N : sp_N} (h : sp_mN (m 66) N) (e : ∀ i, m' 66 i = m 66 i) : sp_mN (m' 66) N := by
  rw [show m' 66 = m 66 from funext e]; exact h
theorem sp_mI0 {m m' : sg_M} {I : Int → Option sp_N} (h : ∀ k, 0 ≤ k → k < 2 → (I k = none ∧ m 71 k = 0) ∨ (m 71 k ≠ 0 ∧ ∃ M, I k = some M ∧ sp_mN (fun i => m 68 (2040 * k + i)) M)) (e1 : ∀ i, m' 71 i = m 71 i) (e : ∀ i, m' 68 i = m 68 i) :
    ∀ k, 0 ≤ k → k < 2 → (I k = none ∧ m' 71 k = 0) ∨ (m' 71 k ≠ 0 ∧ ∃ M, I k = some M ∧ sp_mN (fun i => m' 68 (2040 * k + i)) M) := by
  rw [show m' 68 = m 68 from funext e, show m' 71 = m 71 from funext e1]; exact h
end SGFs
