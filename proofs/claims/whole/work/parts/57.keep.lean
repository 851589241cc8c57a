/-! LEVEL 2: tremble, write, keep, take; what a change of now does to the state. -/
noncomputable section SGK7
variable {La : sg_L} {s : sg_M} {z : sp_Z}
def sp_wi (x : Int) : Int := sg_max (-9999) (sg_min 9999 x)
theorem sp_wi_rg (x : Int) : -9999 ≤ sp_wi x ∧ sp_wi x ≤ 9999 := by unfold sp_wi sg_max sg_min; split <;> split <;> omega
theorem sp_wi_id {x : Int} (h : -9999 ≤ x ∧ x ≤ 9999) : sp_wi x = x := by unfold sp_wi sg_max sg_min; split <;> split <;> omega
def sp_tv (z : sp_Z) (a b : Int) : Int := (sp_vo (nB (zN z)) a b).1
def aTremble (z : sp_Z) (a b j : Int) : Int := if sp_b2 a b ∧ 0 ≤ j ∧ j ≤ 999 then (if sp_tv z a (sp_wi (b - j)) = 0 ∨ sp_tv z a b = 0 ∨ sp_tv z a (sp_wi (b + j)) = 0 then -1
  else sg_max (sg_max (sg_max 0 (sp_tv z a (sp_wi (b - j)))) (sp_tv z a b)) (sp_tv z a (sp_wi (b + j))) - sg_min (sg_min (sg_min 2000 (sp_tv z a (sp_wi (b - j)))) (sp_tv z a b)) (sp_tv z a (sp_wi (b + j)))) else -1
theorem sp_trL {a b j x y i v : Int} {n : Nat} {Q : Int → sg_M → Prop} (hst : sg_St La) (h89 : 89 ≤ La.1) (hw : sp_wZ z) (H : sp_RC La s z) (hb : sp_b2 a b) (hj : 0 ≤ j ∧ j ≤ 999) (hi : -1 ≤ i ∧ i ≤ 1) (hv : v = sp_wi (b + i * j)) (hx : 0 ≤ x ∧ x ≤ 2000) (hy : 0 ≤ y ∧ y ≤ 2000)
    (h0 : sp_tv z a v = 0 → ∀ t, sp_FM s t → sp_RC La t z → Q (-1) t) (h1 : sp_tv z a v ≠ 0 → ∀ t, sp_FM s t → sp_RC La t z → fX11_tremble_L32 La a b j Q n t (sg_min x (sp_tv z a v)) (sg_max y (sp_tv z a v)) (i + 1)) : fX11_tremble_L32 La a b j Q (n + 1) s x y i := by
  have hij : -999 ≤ i * j ∧ i * j ≤ 999 := by
    have : i = -1 ∨ i = 0 ∨ i = 1 := by omega
    rcases this with rfl | rfl | rfl <;> omega
  rw [fX11_tremble_L32]
  refine ⟨fun g => absurd g (by omega), fun _ => ⟨by omega, by omega, ?_⟩⟩
  change 0 ≤ s 4 0 ∧ fX11_listenTo La s (s 4 0) a (sp_wi (b + i * j)) _
  rw [← hv]
  have hvr := sp_wi_rg (b + i * j)
  rw [← hv] at hvr
  refine sp_cv hst h89 hw H ⟨hb.1, hb.2.1⟩ hvr (fun t hF HR hbt hvc => ?_)
  have hFM : sp_FM s t := fun c i q1 q2 => hF c i (by omega) (by omega)
  rw [hvc.1]
  exact ⟨fun q => ⟨by omega, h1 q t hFM HR⟩, fun q => h0 q t hFM HR⟩
theorem k1Tremble {a b j : Int} {Q : Int → sg_M → Prop} (hst : sg_St La) (h89 : 89 ≤ La.1) (hw : sp_wZ z) (H : sp_RC La s z) (h : ∀ s', sp_FM s s' → sp_RC La s' z → Q (aTremble z a b j) s') : fX11_tremble La s a b j Q := by
  refine tX11_isBend ?_
  unfold aTremble at h
  split
  · rename_i g
    refine ⟨fun hh => absurd hh (by omega), fun _ => ⟨fun g2 => ?_, fun g2 => ⟨fun g3 => ⟨4, ?_⟩, fun g3 => ?_⟩⟩⟩
    · rw [if_neg (fun hh => by have := hh.2.1; omega)] at h; exact h s (fun _ _ _ _ => rfl) H
    · rw [if_pos ⟨g, by omega, g3⟩] at h
      have no : (sp_tv z a (sp_wi (b - j)) = 0 ∨ sp_tv z a b = 0 ∨ sp_tv z a (sp_wi (b + j)) = 0) → ∀ t, sp_FM s t → sp_RC La t z → Q (-1) t := fun e t q1 q2 => by
        rw [if_pos e] at h; exact h t q1 q2
      have rg : ∀ v, 0 ≤ sp_tv z a v ∧ sp_tv z a v ≤ 2000 := fun v => (sp_vo_rg hw.2.2.1.1 a v).1
      have r1 := rg (sp_wi (b - j))
      have r2 := rg b
      have r3 := rg (sp_wi (b + j))
      refine sp_trL (v := sp_wi (b - j)) hst h89 hw H g (by omega) (by omega) (by congr 1; omega) (by omega) (by omega) (fun q t e1 e2 => no (Or.inl q) t e1 e2) (fun q1 t1 e1 H1 => ?_)
      refine sp_trL (v := b) hst h89 hw H1 g (by omega) (by omega) (by rw [sp_wi_id (by omega)]; omega) (by unfold sg_min; split <;> omega) (by unfold sg_max; split <;> omega) (fun q t e2 e3 => no (Or.inr (Or.inl q)) t (sp_FM_trans e1 e2) e3) (fun q2 t2 e2 H2 => ?_)
      refine sp_trL (v := sp_wi (b + j)) hst h89 hw H2 g (by omega) (by omega) (by congr 1; omega) (by unfold sg_min; (repeat' split) <;> omega) (by unfold sg_max; (repeat' split) <;> omega) (fun q t e3 e4 => no (Or.inr (Or.inr q)) t (sp_FM_trans e1 (sp_FM_trans e2 e3)) e4) (fun q3 t3 e3 H3 => ?_)
      rw [fX11_tremble_L32]
      rw [if_neg (by omega)] at h
      have h := h t3 (sp_FM_trans e1 (sp_FM_trans e2 e3)) H3
      refine ⟨fun _ => ⟨?_, h⟩, fun hh => absurd (show (1 : Int) < -1 + 1 + 1 + 1 by omega) hh⟩
      unfold sg_max sg_min
      repeat' split
      all_goals omega
    · rw [if_neg (fun hh => by have := hh.2.2; omega)] at h; exact h s (fun _ _ _ _ => rfl) H
  · rename_i g
    refine ⟨fun _ => ?_, fun hh => absurd rfl hh⟩
    rw [if_neg (fun hh => g hh.1)] at h; exact h s (fun _ _ _ _ => rfl) H
theorem tX12_cut {x : Int} {Q : Int → Prop} (h : Q (sp_wi x)) : fX12_cut x Q := by
  unfold sp_wi sg_max sg_min at h
  refine ⟨fun g => ⟨fun g2 => ?_, fun g2 => ?_⟩, fun g => ?_⟩
  · have e : (if (-9999 : Int) < (if x < 9999 then x else 9999) then (if x < 9999 then x else 9999) else -9999) = x := by (repeat' split) <;> omega
    rw [e] at h; exact h
  · have e : (if (-9999 : Int) < (if x < 9999 then x else 9999) then (if x < 9999 then x else 9999) else -9999) = -9999 := by (repeat' split) <;> omega
    rw [e] at h; exact h
  · have e : (if (-9999 : Int) < (if x < 9999 then x else 9999) then (if x < 9999 then x else 9999) else -9999) = 9999 := by (repeat' split) <;> omega
    rw [e] at h; exact h
theorem k2Tremble {a b j : Int} {Q : Int → sg_M → Prop} (hw : sp_wZ z) (H : sp_RM s z) (h : ∀ s', sp_FC s s' → sp_RM s' z → Q (aTremble z a b j) s') : fX12_tremble s a b j Q := by
  obtain ⟨H0, h20, F0, -⟩ := sp_go H
  intro s1 h1
  rw [← h1] at H0 F0 h20
  unfold aTremble at h
  refine tX12_lay (tX12_isBend ?_)
  split
  · rename_i g
    refine ⟨fun hh => absurd hh (by omega), fun _ => tX12_isIn ?_⟩
    split
    · rename_i g2
      rw [if_pos ⟨g, g2⟩] at h
      have rg : ∀ v, 0 ≤ sp_tv z a v ∧ sp_tv z a v ≤ 2000 := fun v => (sp_vo_rg hw.2.2.1.1 a v).1
      have r1 := rg (sp_wi (b - j))
      have r2 := rg b
      have r3 := rg (sp_wi (b + j))
      refine ⟨fun _ => ⟨by omega, tX12_cut ?_⟩, fun hh => absurd hh (by omega)⟩
      refine sp_mv hw H0 ⟨g.1, g.2.1⟩ (sp_wi_rg _) (fun t1 F1 R1 _ _ => ?_)
      refine sp_mv hw R1 ⟨g.1, g.2.1⟩ ⟨g.2.2.1, g.2.2.2⟩ (fun t2 F2 R2 _ _ => ⟨by omega, tX12_cut ?_⟩)
      refine sp_mv hw R2 ⟨g.1, g.2.1⟩ (sp_wi_rg _) (fun t3 F3 R3 _ _ => ?_)
      have h := h t3 (fun c i q => by rw [F3 c i (by omega) (by omega), F2 c i (by omega) (by omega), F1 c i (by omega) (by omega)]; exact F0 c i q)
        (sp_RM_of R3 (by rw [F3 64 20 (by omega) (by omega), F2 64 20 (by omega) (by omega), F1 64 20 (by omega) (by omega)]; exact h20))
      change (sp_tv z a (sp_wi (b - j)) = 0 → _) ∧ (¬ sp_tv z a (sp_wi (b - j)) = 0 → (sp_tv z a b = 0 → _) ∧ (¬ sp_tv z a b = 0 → (sp_tv z a (sp_wi (b + j)) ≠ 0 → (sp_tv z a b ≤ sp_tv z a (sp_wi (b - j)) → fX12_tremble_j95 (sp_tv z a (sp_wi (b - j))) (sp_tv z a b) (sp_tv z a (sp_wi (b + j))) t3 Q (sp_tv z a b)) ∧ (¬ sp_tv z a b ≤ sp_tv z a (sp_wi (b - j)) → fX12_tremble_j95 (sp_tv z a (sp_wi (b - j))) (sp_tv z a b) (sp_tv z a (sp_wi (b + j))) t3 Q (sp_tv z a (sp_wi (b - j))))) ∧ (sp_tv z a (sp_wi (b + j)) = 0 → _)))
      generalize sp_tv z a (sp_wi (b - j)) = x at *
      generalize sp_tv z a b = y at *
      generalize sp_tv z a (sp_wi (b + j)) = w at *
      refine ⟨fun q => by rw [if_pos (Or.inl q)] at h; exact h, fun q => ⟨fun q2 => by rw [if_pos (Or.inr (Or.inl q2))] at h; exact h, fun q2 => ⟨fun q3 => ?_, fun q3 => by rw [if_pos (Or.inr (Or.inr q3))] at h; exact h⟩⟩⟩
      rw [if_neg (by omega)] at h
      unfold fX12_tremble_j95 fX12_tremble_j111 fX12_tremble_j124
      have fin : ∀ r, r = sg_max (sg_max (sg_max 0 x) y) w - sg_min (sg_min (sg_min 2000 x) y) w → Q r t3 := fun r hr => by rw [hr]; exact h
      refine ⟨fun p1 => ⟨fun p2 => ⟨fun p3 => ⟨fun p4 => ⟨by omega, fin _ ?_⟩, fun p4 => ⟨by omega, fin _ ?_⟩⟩, fun p3 => ⟨fun p4 => ⟨by omega, fin _ ?_⟩, fun p4 => ⟨by omega, fin _ ?_⟩⟩⟩, fun p2 => ⟨fun p3 => ⟨fun p4 => ⟨by omega, fin _ ?_⟩, fun p4 => ⟨by omega, fin _ ?_⟩⟩, fun p3 => ⟨fun p4 => ⟨by omega, fin _ ?_⟩, fun p4 => ⟨by omega, fin _ ?_⟩⟩⟩⟩,
        fun p1 => ⟨fun p2 => ⟨fun p3 => ⟨fun p4 => ⟨by omega, fin _ ?_⟩, fun p4 => ⟨by omega, fin _ ?_⟩⟩, fun p3 => ⟨fun p4 => ⟨by omega, fin _ ?_⟩, fun p4 => ⟨by omega, fin _ ?_⟩⟩⟩, fun p2 => ⟨fun p3 => ⟨fun p4 => ⟨by omega, fin _ ?_⟩, fun p4 => ⟨by omega, fin _ ?_⟩⟩, fun p3 => ⟨fun p4 => ⟨by omega, fin _ ?_⟩, fun p4 => ⟨by omega, fin _ ?_⟩⟩⟩⟩⟩
      all_goals
        unfold sg_max sg_min
        repeat' split
        all_goals omega
    · rename_i g2
      refine ⟨fun hh => absurd rfl hh, fun _ => ?_⟩
      rw [if_neg (fun hh => g2 hh.2)] at h; exact h _ F0 (sp_RM_of H0 h20)
  · rename_i g
    refine ⟨fun _ => ?_, fun hh => absurd rfl hh⟩
    rw [if_neg (fun hh => g hh.1)] at h; exact h _ F0 (sp_RM_of H0 h20)
/-! now is changed -/
def zN' (z : sp_Z) (N : sp_N) : sp_Z := (zT z, zF z, N, zI z, zL z, zG z, zW z, zR z, zD z, zE z, zU z)
/-- what was kept between calls is forgotten -/
theorem sp_RC_N {La' : sg_L} {s' : sg_M} {N : sp_N} (H : sp_RC La s z) (hX : sg_X La La') (h89 : 89 ≤ La.1) (e : ∀ c i : Int, c ≠ 4 → (c < 20 ∨ 25 < c) → (c = 58 → i ≠ 2) → (c = 62 → i ≠ 2) → (c < 27 ∨ 36 < c) → c < La.1 → s' c i = s c i) (h58 : s' 58 2 = 0) (h62 : s' 62 2 = 0) (hN : sp_cN La' s' 4 20 25 N) : sp_RC La' s' (zN' z N) := by
  rw [sp_RC_eq] at H ⊢
  obtain ⟨hT, hF, -, hI, hL, hG, hW, hR, hD, hE, hU, -, -⟩ := H
  have hx := hX.1
  exact ⟨sp_kT hT (fun c i q => e c i (by omega) (by omega) (by omega) (by omega) (by omega) (by omega)), by rw [e 0 16 (by omega) (by omega) (by omega) (by omega) (by omega) (by omega)]; exact hF, hN, sp_kI hI hX h89 (fun c i q => e c i (by omega) (by omega) (by omega) (by omega) (by omega) (by omega)), sp_kL hL (fun i => e 37 i (by omega) (by omega) (by omega) (by omega) (by omega) (by omega)),
    sp_kR hG (fun c i _ _ => e c i (by omega) (by omega) (by omega) (by omega) (by omega) (by omega)), by rw [e 0 17 (by omega) (by omega) (by omega) (by omega) (by omega) (by omega)]; exact hW, by rw [e 0 18 (by omega) (by omega) (by omega) (by omega) (by omega) (by omega)]; exact hR,
    sp_kR hD (fun c i _ _ => e c i (by omega) (by omega) (by omega) (by omega) (by omega) (by omega)), sp_kR hE (fun c i _ _ => e c i (by omega) (by omega) (by omega) (by omega) (by omega) (by omega)), sp_kR hU (fun c i _ _ => e c i (by omega) (by omega) (by omega) (by omega) (by omega) (by omega)), fun q => absurd h58 q, fun q => absurd h62 q⟩
theorem tX11_forgetAnswers {Q : sg_M → Prop} (h : ∀ t, (∀ c i, (c = 58 → i ≠ 2) → (c = 62 → i ≠ 2) → t c i = s c i) → t 58 2 = 0 → t 62 2 = 0 → Q t) : fX11_forgetAnswers s Q := by
  intro s2 h2 s5 h5
  refine h s5 (fun c i q1 q2 => ?_) ?_ ?_
  · rw [h5, sg_upN _ (by omega), h2, sg_upN _ (by omega)]
  · rw [h5, sg_upN _ (by omega), h2, sg_upS]
  · rw [h5, sg_upS]
theorem sp_R0_N {t t' : sg_M} {N : sp_N} (H : sp_R0 t z) (e : ∀ c i, c = 64 → 0 ≤ i → (i < 27 ∨ 42 < i ∨ (33 < i ∧ i < 39)) → t' c i = t c i) (e2 : ∀ c i, c ≠ 64 → c ≠ 66 → (c < 72 ∨ 76 < c) → t' c i = t c i) (hN : sp_mN (t' 66) N) : sp_R0 t' (zN' z N) := by
  obtain ⟨hT, hF, -, hI, hL, hG, hW, hR, hD, hE, hU⟩ := H
  exact ⟨sp_m2 hT (e 64 2 rfl (by omega) (by omega)) (fun i => e2 65 i (by omega) (by omega) (by omega)), by rw [e 64 10 rfl (by omega) (by omega)]; exact hF, hN,
    sp_mI0 hI (fun i => e2 71 i (by omega) (by omega) (by omega)) (fun i => e2 68 i (by omega) (by omega) (by omega)), fun w h1 h2 => by rw [e2 77 w (by omega) (by omega) (by omega)]; exact hL w h1 h2, sp_m2 hG (e 64 37 rfl (by omega) (by omega)) (fun i => e2 78 i (by omega) (by omega) (by omega)), by rw [e 64 38 rfl (by omega) (by omega)]; exact hW, by rw [e 64 56 rfl (by omega) (by omega)]; exact hR,
    sp_m2 hD (e 64 52 rfl (by omega) (by omega)) (fun i => e2 84 i (by omega) (by omega) (by omega)), sp_m2 hE (e 64 55 rfl (by omega) (by omega)) (fun i => e2 86 i (by omega) (by omega) (by omega)), sp_m2 hU (e 64 50 rfl (by omega) (by omega)) (fun i => e2 83 i (by omega) (by omega) (by omega))⟩
/-! the parts of now in the reference's array -/
theorem sp_mBl_eq {f g : Int → Int} {b : Int} {B : sg_M} (hok : sp_ok B) (h : sp_mBl f b B) (e : ∀ i, b ≤ i → i < b + 260 → g i = f i) : sp_mBl g b B := by
  obtain ⟨h0, h1, h2, h3⟩ := h
  have hn := hok.2.1
  refine ⟨by rw [e b (by omega) (by omega)]; exact h0, by rw [e _ (by omega) (by omega)]; exact h1, by rw [e _ (by omega) (by omega)]; exact h2, fun i q1 q2 => ?_⟩
  rw [e _ (by omega) (by omega), e _ (by omega) (by omega), e _ (by omega) (by omega)]
  show _ ∧ g (b + 10 + 4 * i + 1) = B 1 i ∧ _
  rw [e _ (by omega) (by omega)]
  exact h3 i q1 q2
theorem sp_ev_eq {f g : Int → Int} (e : ∀ i, 1800 ≤ i → i < 2040 → g i = f i) : ∀ (d : Nat) (k : Int) (x : Int → Int), sp_ev g d k x = sp_ev f d k x
  | 0, _, _ => rfl
  | d + 1, k, x => by
    unfold sp_ev
    by_cases hk : k < 0 ∨ 60 ≤ k
    · rw [if_pos hk, if_pos hk]
    · rw [if_neg hk, if_neg hk, e (1800 + 4 * k) (by omega) (by omega), e (1800 + 4 * k + 1) (by omega) (by omega), e (1800 + 4 * k + 2) (by omega) (by omega), e (1800 + 4 * k + 3) (by omega) (by omega)]
      rw [sp_ev_eq e d, sp_ev_eq e d]
theorem sp_mS_eq {f g : Int → Int} {C : Option ((Int → Int) → Bool)} (h : sp_mS f C) (e : ∀ i, 1790 ≤ i → i < 2040 → g i = f i) : sp_mS g C := by
  unfold sp_mS at *
  rw [e 1790 (by omega) (by omega), e 1791 (by omega) (by omega)]
  rcases h with h | ⟨h1, S, h2, h3⟩
  · exact Or.inl h
  · exact Or.inr ⟨h1, S, h2, fun x => by rw [sp_ev_eq (fun i q1 q2 => e i (by omega) q2)]; exact h3 x⟩
/-- hand, book and shelf -/
def sp_mH (f : Int → Int) (A D : List Int) : Prop := f 1300 = A.length ∧ sg_ar (fun i => f (1301 + i)) 0 A ∧ sg_ar (fun i => f (1501 + i)) 0 D
def sp_mK (f : Int → Int) (A D : List Int) : Prop := f 1701 = A.length ∧ sg_ar (fun i => f (1702 + 2 * i)) 0 A ∧ sg_ar (fun i => f (1702 + 2 * i + 1)) 0 D
def sp_mF (f : Int → Int) (S : Int → Option sg_M) : Prop := ∀ k, 0 ≤ k → k < 4 → (S k = none ∧ f (260 + 260 * k) = 0) ∨ ∃ B, S k = some B ∧ sp_mBl f (260 + 260 * k) B
theorem sp_mH_eq {f g : Int → Int} {A D : List Int} (h : sp_mH f A D) (hl : A.length = D.length) (h200 : A.length ≤ 200) (e : ∀ i, 1300 ≤ i → i < 1701 → g i = f i) : sp_mH g A D :=
  ⟨by rw [e 1300 (by omega) (by omega)]; exact h.1, sg_ar_congr _ 0 (fun i q1 q2 => (e _ (by omega) (by omega)).symm) h.2.1, sg_ar_congr _ 0 (fun i q1 q2 => (e _ (by omega) (by omega)).symm) h.2.2⟩
theorem sp_mK_eq {f g : Int → Int} {A D : List Int} (h : sp_mK f A D) (hl : A.length = D.length) (h40 : A.length ≤ 40) (e : ∀ i, 1701 ≤ i → i < 1782 → g i = f i) : sp_mK g A D :=
  ⟨by rw [e 1701 (by omega) (by omega)]; exact h.1, sg_ar_congr _ 0 (fun i q1 q2 => (e _ (by omega) (by omega)).symm) h.2.1, sg_ar_congr _ 0 (fun i q1 q2 => (e _ (by omega) (by omega)).symm) h.2.2⟩
theorem sp_mF_eq {f g : Int → Int} {S : Int → Option sg_M} (hS : ∀ k B, S k = some B → sp_ok B) (h : sp_mF f S) (e : ∀ i, 260 ≤ i → i < 1300 → g i = f i) : sp_mF g S := by
  intro k k0 k1
  rcases h k k0 k1 with ⟨h1, h2⟩ | ⟨B, h1, h2⟩
  · exact Or.inl ⟨h1, by rw [e _ (by omega) (by omega)]; exact h2⟩
  · exact Or.inr ⟨B, h1, sp_mBl_eq (hS k B h1) h2 (fun i q1 q2 => e i (by omega) (by omega))⟩
theorem sp_mN_eq2 (f : Int → Int) (N : sp_N) : sp_mN f N = (sp_mBl f 0 (nB N) ∧ sp_mH f (nHa N) (nHb N) ∧ sp_mS f (nC N) ∧ sp_mK f (nKa N) (nKb N) ∧ sp_mF f (nS N)) := rfl
/-! write -/
def sp_yw (N : sp_N) (a b : Int) : sp_N := (nB N, (nHa N, nHb N), (nKa N ++ [a], nKb N ++ [b]), nS N, nC N)
def aWrite (z : sp_Z) (a b : Int) : Int := if sp_b2 a b ∧ (nKa (zN z)).length < 40 then (nKa (zN z)).length else -1
def yWrite (z : sp_Z) (a b : Int) : sp_Z := if sp_b2 a b ∧ (nKa (zN z)).length < 40 then zN' z (sp_yw (zN z) a b) else z
theorem k1Write {a b : Int} {Q : Int → sg_M → Prop} (hst : sg_St La) (h89 : 89 ≤ La.1) (hw : sp_wZ z) (H : sp_RC La s z) (h : ∀ s', sp_FM s s' → sp_RC La s' (yWrite z a b) → Q (aWrite z a b) s') : fX11_write La s a b Q := by
  have H' := H
  rw [sp_RC_eq] at H'
  obtain ⟨-, -, hN, -⟩ := H'
  obtain ⟨n1, n2, n3, ⟨l1, l2, hK, hKa, hKb⟩, n5⟩ := hN
  have hl := hw.2.2.1.2.2.2.2.2.1
  unfold aWrite yWrite at h
  refine tX11_isBend ?_
  split
  · rename_i g
    refine ⟨fun hh => absurd hh (by omega), fun _ => ⟨fun g2 => ?_, fun g2 => ?_⟩⟩
    · rw [if_pos ⟨g, by omega⟩, if_pos ⟨g, by omega⟩] at h
      have k1 := hKa.1
      have k2 := hKb.1
      refine ⟨fun hh => absurd hh (by omega), fun _ => ?_⟩
      refine tX4_add (c := 40) (sp_ln hst 22 10040 rfl) (by omega) (by omega) (by omega) ?_
      have r1 := sp_rw_snoc (x := a) hKa
      generalize hu : sg_up (sg_up s (20 + 1 + 1) (s (20 + 1) 1) a) (20 + 1) 1 (s (20 + 1) 1 + 1) = u at *
      have f1 : ∀ c i, c ≠ 21 → c ≠ 22 → u c i = s c i := fun c i q1 q2 => by rw [← hu, sg_upN _ (by omega), sg_upN _ (by omega)]
      have r2 : sp_rw u (20 + 3) (nKb (zN z)) := sp_kR hKb (fun c i q1 q2 => f1 c i (by omega) (by omega))
      have k3 := r2.1
      refine tX4_add (c := 40) (sp_ln hst 24 10040 rfl) (by omega) (by omega) (by omega) ?_
      have r3 := sp_rw_snoc (x := b) r2
      generalize hv : sg_up (sg_up u (20 + 3 + 1) (u (20 + 3) 1) b) (20 + 3) 1 (u (20 + 3) 1 + 1) = v at *
      have f2 : ∀ c i, c ≠ 23 → c ≠ 24 → v c i = u c i := fun c i q1 q2 => by rw [← hv, sg_upN _ (by omega), sg_upN _ (by omega)]
      have e2 : v 20 2 = (nKa (zN z)).length := by rw [f2 20 2 (by omega) (by omega), f1 20 2 (by omega) (by omega)]; exact hK
      rw [e2]
      refine ⟨by omega, fun s9 h9 => tX11_forgetAnswers (fun t hF h58 h62 => ?_)⟩
      have et : t 20 2 = (nKa (zN z)).length + 1 := by rw [hF 20 2 (by omega) (by omega), h9, sg_upS]
      rw [et]
      have f3 : ∀ c i, (c < 20 ∨ 24 < c) → (c = 58 → i ≠ 2) → (c = 62 → i ≠ 2) → t c i = s c i := fun c i q1 q2 q3 => by
        rw [hF c i q2 q3, h9, sg_upN _ (by omega), f2 c i (by omega) (by omega), f1 c i (by omega) (by omega)]
      refine ⟨by omega, ?_⟩
      have er : ((nKa (zN z)).length : Int) + 1 - 1 = (nKa (zN z)).length := by omega
      rw [er]
      refine h t (fun c i q1 q2 => f3 c i (by omega) (by omega) (by omega)) (sp_RC_N H (sp_X_refl La) h89 (fun c i q1 q2 q3 q4 q5 q6 => f3 c i (by omega) q3 q4) h58 h62 ?_)
      have hk : sp_kp La s t := ⟨fun c i hc => f3 c i (by omega) (by omega) (by omega), fun k _ _ => Or.inl (f3 26 k (by omega) (by omega) (by omega))⟩
      refine ⟨?_, ?_, ?_, ⟨l1, l2, ?_, ?_, ?_⟩, sp_cF_same n5 (sp_X_refl La) h89 hk (fun i => f3 25 i (by omega) (by omega) (by omega))⟩
      · rw [f3 4 0 (by omega) (by omega) (by omega)]; exact sp_cBl_same n1 (sp_X_refl La) h89 hk
      · rw [f3 4 1 (by omega) (by omega) (by omega)]; exact sp_cH_same n2 (sp_X_refl La) h89 hk
      · rw [f3 4 2 (by omega) (by omega) (by omega)]; exact sp_cS_same n3 (sp_X_refl La) h89 hk
      · rw [et]; show _ = (((nKa (zN z) ++ [a]).length : Nat) : Int); simp
      · refine sp_kR r1 (fun c i q1 q2 => ?_)
        rw [hF c i (by omega) (by omega), h9, sg_upN _ (by omega), f2 c i (by omega) (by omega)]
      · refine sp_kR r3 (fun c i q1 q2 => ?_)
        rw [hF c i (by omega) (by omega), h9, sg_upN _ (by omega)]
    · rw [if_neg (fun hh => by have := hh.2; omega), if_neg (fun hh => by have := hh.2; omega)] at h; exact h s (fun _ _ _ _ => rfl) H
  · rename_i g
    refine ⟨fun _ => ?_, fun hh => absurd rfl hh⟩
    rw [if_neg (fun hh => g hh.1), if_neg (fun hh => g hh.1)] at h; exact h s (fun _ _ _ _ => rfl) H
theorem k2Write {a b : Int} {Q : Int → sg_M → Prop} (hw : sp_wZ z) (H : sp_RM s z) (h : ∀ s', sp_FC s s' → sp_RM s' (yWrite z a b) → Q (aWrite z a b) s') : fX12_write s a b Q := by
  obtain ⟨H0, h20, F0, -⟩ := sp_go H
  intro s1 h1
  rw [← h1] at H0 F0 h20
  have hl := hw.2.2.1.2.2.2.2.2.1
  have h40 := hw.2.2.1.2.2.2.2.2.2.1
  have hN := H0.2.2.1
  rw [sp_mN_eq2] at hN
  obtain ⟨n1, n2, n3, ⟨hK, hKa, hKb⟩, n5⟩ := hN
  unfold aWrite yWrite at h
  refine tX12_lay (tX12_isBend ?_)
  unfold fX12_bends
  rw [hK]
  split
  · rename_i g
    refine ⟨fun hh => absurd hh (by omega), fun _ => ⟨fun g2 => ⟨by omega, fun s14 h14 => ?_⟩, fun g2 => ?_⟩⟩
    · rw [if_pos ⟨g, by omega⟩, if_pos ⟨g, by omega⟩] at h
      have e14 : s14 66 1701 = (nKa (zN z)).length := by rw [h14, sg_upN _ (by omega)]; exact hK
      rw [e14]
      refine ⟨by omega, fun s20 hs20 => ?_⟩
      have e20 : s20 66 1701 = (nKa (zN z)).length := by rw [hs20, sg_upN _ (by omega)]; exact e14
      rw [e20]
      refine ⟨by omega, fun s25 h25 => ?_⟩
      have e25 : s25 66 1701 = (nKa (zN z)).length + 1 := by rw [h25, sg_upS]
      rw [e25]
      refine ⟨by omega, ?_⟩
      have er : ((nKa (zN z)).length : Int) + 1 - 1 = (nKa (zN z)).length := by omega
      rw [er]
      have f : ∀ c i, (c = 66 → i < 1701 ∨ (1701 < i ∧ i < 1702 + 2 * ((nKa (zN z)).length : Int)) ∨ 1702 + 2 * ((nKa (zN z)).length : Int) + 1 < i) → s25 c i = sp_ly s1 c i := fun c i q => by
        rw [h25, sg_upN _ (by omega), hs20, sg_upN _ (by omega), h14, sg_upN _ (by omega)]
      refine h s25 (fun c i q => by rw [f c i (by omega)]; exact F0 c i q) (sp_RM_of (sp_R0_N H0 (fun c i q1 q2 q3 => f c i (by omega)) (fun c i q1 q2 q3 => f c i (by omega)) ?_) (by rw [f 64 20 (by omega)]; exact h20))
      rw [sp_mN_eq2]
      refine ⟨sp_mBl_eq hw.2.2.1.1 n1 (fun i q1 q2 => f 66 i (by omega)), sp_mH_eq n2 hw.2.2.1.2.1 hw.2.2.1.2.2.1 (fun i q1 q2 => f 66 i (by omega)), sp_mS_eq n3 (fun i q1 q2 => f 66 i (by omega)), ⟨?_, ?_, ?_⟩, sp_mF_eq hw.2.2.1.2.2.2.2.2.2.2.2.2 n5 (fun i q1 q2 => f 66 i (by omega))⟩
      · rw [e25]; show _ = (((nKa (zN z) ++ [a]).length : Nat) : Int); simp
      · refine sg_ar_snoc _ 0 (sg_ar_congr _ 0 (fun i q1 q2 => (f 66 _ (by omega)).symm) hKa) ?_
        rw [Int.zero_add, h25, sg_upN _ (by omega), hs20, sg_upN _ (by omega), h14, sg_upS]
      · refine sg_ar_snoc _ 0 (sg_ar_congr _ 0 (fun i q1 q2 => (f 66 _ (by omega)).symm) hKb) ?_
        rw [Int.zero_add, ← hl, h25, sg_upN _ (by omega), hs20, sg_upS]
    · rw [if_neg (fun hh => by have := hh.2; omega), if_neg (fun hh => by have := hh.2; omega)] at h; exact h _ F0 (sp_RM_of H0 h20)
  · rename_i g
    refine ⟨fun _ => ?_, fun hh => absurd rfl hh⟩
    rw [if_neg (fun hh => g hh.1), if_neg (fun hh => g hh.1)] at h; exact h _ F0 (sp_RM_of H0 h20)
theorem sp_wN' {N : sp_N} (hw : sp_wZ z) (hN : sp_wN N) : sp_wZ (zN' z N) := by
  obtain ⟨h1, h2, h3, h4, h5, h6, h7, h8⟩ := hw
  exact ⟨h1, h2, hN, h4, h5, h6, h7, h8⟩
theorem sp_bd_snoc {l : List Int} {x : Int} (h : sp_bd l) (hx : -9999 ≤ x ∧ x ≤ 9999) : sp_bd (l ++ [x]) := by
  intro y hy
  rcases List.mem_append.mp hy with hy | hy
  · exact h y hy
  · rw [List.mem_singleton.mp hy]; exact hx
theorem wWrite {a b : Int} (hw : sp_wZ z) : sp_wZ (yWrite z a b) := by
  unfold yWrite; split
  · rename_i g
    obtain ⟨a1, a2, a3, a4, a5, a6, a7, a8, a9, a10⟩ := hw.2.2.1
    refine sp_wN' hw ⟨a1, a2, a3, a4, a5, ?_, ?_, sp_bd_snoc a8 ⟨g.1.1, g.1.2.1⟩, sp_bd_snoc a9 ⟨g.1.2.2.1, g.1.2.2.2⟩, a10⟩
    · show (nKa (zN z) ++ [a]).length = (nKb (zN z) ++ [b]).length
      simp only [List.length_append, List.length_cons, List.length_nil]; omega
    · show (nKa (zN z) ++ [a]).length ≤ 40
      simp only [List.length_append, List.length_cons, List.length_nil]; omega
  · exact hw
end SGK7
