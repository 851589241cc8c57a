/-! LEVEL 2: form. -/
noncomputable section SGKc
variable {La : sg_L} {s : sg_M} {z : sp_Z}
/-- the range of blade B over a book -/
def sp_rv (B : sg_M) : List Int → List Int → Int → Int → Int
  | a :: A, d :: D, lo, hi => if sp_bk B a d (B 4 0).toNat ≠ -1 then -2 else if 0 < (sp_vo B a d).1 then sp_rv B A D (sg_min lo (sp_vo B a d).1) (sg_max hi (sp_vo B a d).1) else sp_rv B A D lo hi
  | _, _, lo, hi => if hi = 0 then -1 else hi - lo
def sp_rf (z : sp_Z) (a b : Int) : Int := sp_rv (sp_th (nB (zN z)) a b) (nKa (zN z)) (nKb (zN z)) 2000 0
theorem sp_rv_rg {B : sg_M} (hok : sp_ok B) : ∀ (A D : List Int) (lo hi : Int), 0 ≤ lo → lo ≤ 2000 → 0 ≤ hi → hi ≤ 2000 → (hi = 0 ∨ lo ≤ hi) → -2 ≤ sp_rv B A D lo hi ∧ sp_rv B A D lo hi ≤ 2000
  | [], _, lo, hi, h0, h1, h2, h3, h4 => by unfold sp_rv; split <;> omega
  | _ :: _, [], lo, hi, h0, h1, h2, h3, h4 => by unfold sp_rv; split <;> omega
  | a :: A, d :: D, lo, hi, h0, h1, h2, h3, h4 => by
    have hv := (sp_vo_rg hok a d).1
    rw [sp_rv]
    split
    · omega
    · split
      · exact sp_rv_rg hok A D _ _ (by unfold sg_min; split <;> omega) (by unfold sg_min; split <;> omega) (by unfold sg_max; split <;> omega) (by unfold sg_max; split <;> omega) (by unfold sg_max sg_min; split <;> split <;> omega)
      · exact sp_rv_rg hok A D _ _ h0 h1 h2 h3 h4
/-- the class with its trial blade -/
theorem sp_rtL {B : sg_M} {Q : Int → sg_M → Prop} {K : sg_M → Int → Int → Prop} (hst : sg_St La) (h89 : 89 ≤ La.1) (hw : sp_wZ z) (hok : sp_ok B) (H : sp_RC La s z) (hB : sp_cB s 27 B)
    (hQ : ∀ t r, (∀ c i, c < 32 ∨ 36 < c → t c i = s c i) → r = -2 → r = sp_rv B (nKa (zN z)) (nKb (zN z)) 2000 0 → Q r t) (hK : ∀ t lo hi, (∀ c i, c < 32 ∨ 36 < c → t c i = s c i) → 0 ≤ lo → lo ≤ 2000 → 0 ≤ hi → hi ≤ 2000 → (if hi = 0 then -1 else hi - lo) = sp_rv B (nKa (zN z)) (nKb (zN z)) 2000 0 → K t lo hi) :
    ∀ (A D : List Int) (k lo hi : Int) (t : sg_M), 0 ≤ k → k + A.length = (nKa (zN z)).length → A.length = D.length → sg_ar (s 22) k A → sg_ar (s 24) k D → sp_bd A → sp_bd D → (∀ c i, c < 32 ∨ 36 < c → t c i = s c i) → 0 ≤ lo → lo ≤ 2000 → 0 ≤ hi → hi ≤ 2000 → sp_rv B A D lo hi = sp_rv B (nKa (zN z)) (nKb (zN z)) 2000 0 → fX11_rangeOfTrial_L8 La Q K (A.length + 1) t lo hi k
  | [], D, k, lo, hi, t, hk, hkl, hAD, h22, h24, hA, hD, hF, l0, l1, i0, i1, he => by
    have H' := H
    rw [sp_RC_eq] at H'
    obtain ⟨-, -, ⟨-, -, -, ⟨-, -, hKn, -, -⟩, -⟩, -⟩ := H'
    simp only [List.length_nil] at hkl
    rw [List.length_nil, fX11_rangeOfTrial_L8]
    rw [sp_rv] at he
    · exact ⟨fun _ => hK t lo hi hF l0 l1 i0 i1 he, fun hh => absurd (show t 20 2 ≤ k by rw [hF 20 2 (by omega)]; omega) hh⟩
    · intro a A' d D' h1; cases h1
  | a :: A, [], k, lo, hi, t, hk, hkl, hAD, h22, h24, hA, hD, hF, l0, l1, i0, i1, he => by simp at hAD
  | a :: A, d :: D, k, lo, hi, t, hk, hkl, hAD, h22, h24, hA, hD, hF, l0, l1, i0, i1, he => by
    have H' := H
    rw [sp_RC_eq] at H'
    obtain ⟨-, -, ⟨-, -, -, ⟨-, -, hKn, hKa, hKb⟩, -⟩, -⟩ := H'
    have hlen := hw.2.2.1.2.2.2.2.2.2.1
    have hlen2 := hw.2.2.1.2.2.2.2.2.1
    simp only [List.length_cons] at hkl hAD
    have hv := (sp_vo_rg hok a d).1
    have ih := fun lo' hi' t' q1 q2 q3 q4 q5 q6 => sp_rtL (Q := Q) hst h89 hw hok H hB hQ hK A D (k + 1) lo' hi' t' (by omega) (by omega) (by omega) h22.2 h24.2 (fun x hx => hA x (List.mem_cons_of_mem _ hx)) (fun x hx => hD x (List.mem_cons_of_mem _ hx)) q1 q2 q3 q4 q5 q6
    rw [List.length_cons, fX11_rangeOfTrial_L8]
    simp only [fX11_rangeOfTrial_j106]
    refine ⟨fun hh => absurd hh (by rw [hF 20 2 (by omega)]; omega), fun _ => ?_⟩
    refine tX4_at (l := nKa (zN z)) (c := 40) (sp_ln hst 22 10040 rfl) (by omega) (by rw [hF 21 1 (by omega)]; exact hKa.1) (by omega) (sg_ar_congr _ 0 (fun i _ _ => (hF _ i (by omega)).symm) hKa.2) ?_
    refine tX4_at (l := nKb (zN z)) (c := 40) (sp_ln hst 24 10040 rfl) (by omega) (by rw [hF 23 1 (by omega)]; exact hKb.1) (by omega) (sg_ar_congr _ 0 (fun i _ _ => (hF _ i (by omega)).symm) hKb.2) ?_
    have ea : sp_at (nKa (zN z)) k = a := by rw [← sp_at_in hKa.2 hk (by omega)]; exact h22.1
    have eb : sp_at (nKb (zN z)) k = d := by rw [← sp_at_in hKb.2 hk (by omega)]; exact h24.1
    rw [ea, eb]
    refine tX11_listenTo hst hok (hA a List.mem_cons_self) (hD d List.mem_cons_self) (by omega) (sp_cB_same hB (fun i => hF _ _ (by omega)) (fun i => hF _ _ (by omega)) (fun i => hF _ _ (by omega)) (fun i => hF _ _ (by omega)) (fun i => hF _ _ (by omega))) (fun u hFu hbt hvc => ?_)
    have fu : ∀ c i, c < 32 ∨ 36 < c → u c i = s c i := fun c i q => by rw [hFu c i (by omega) (by omega)]; exact hF c i q
    rw [sp_rv] at he
    rw [hbt.2.2.1, hvc.1]
    refine ⟨fun g => ⟨fun g2 => ⟨by omega, ?_⟩, fun g2 => ⟨by omega, ?_⟩⟩, fun g => ?_⟩
    · rw [if_neg (by omega), if_neg (by omega)] at he; exact ih lo hi u fu l0 l1 i0 i1 he
    · rw [if_neg (by omega), if_pos (by omega)] at he
      exact ih _ _ u fu (by unfold sg_min; split <;> omega) (by unfold sg_min; split <;> omega) (by unfold sg_max; split <;> omega) (by unfold sg_max; split <;> omega) he
    · rw [if_pos g] at he; exact hQ u (-2) fu rfl he
theorem tX11_rangeOfTrial {B : sg_M} {Q : Int → sg_M → Prop} (hst : sg_St La) (h89 : 89 ≤ La.1) (hw : sp_wZ z) (hok : sp_ok B) (H : sp_RC La s z) (hB : sp_cB s 27 B) (hQ : ∀ t, (∀ c i, c < 32 ∨ 36 < c → t c i = s c i) → Q (sp_rv B (nKa (zN z)) (nKb (zN z)) 2000 0) t) : fX11_rangeOfTrial La s Q := by
  have H' := H
  rw [sp_RC_eq] at H'
  obtain ⟨-, -, ⟨-, -, -, ⟨-, -, hKn, hKa, hKb⟩, -⟩, -⟩ := H'
  refine ⟨(nKa (zN z)).length + 1, sp_rtL hst h89 hw hok H hB (fun t r hF _ hr => by rw [hr]; exact hQ t hF) (fun t lo hi hF l0 l1 i0 i1 he => ?_) (nKa (zN z)) (nKb (zN z)) 0 2000 0 s (by omega) (by omega) hw.2.2.1.2.2.2.2.2.1 hKa.2 hKb.2 hw.2.2.1.2.2.2.2.2.2.2.1 hw.2.2.1.2.2.2.2.2.2.2.2.1 (fun _ _ _ => rfl) (by omega) (by omega) (by omega) (by omega) rfl⟩
  have h := hQ t hF
  rw [← he] at h
  refine ⟨fun g => ⟨by omega, ?_⟩, fun g => ?_⟩
  · rw [if_neg g] at h; exact h
  · rw [if_pos g] at h; exact h
/-- over the thicknesses at the tip, from e on -/
def sp_f2 (g : Int → Int) (p e : Int) : Nat → Int × Int → Int × Int
  | 0, v => v
  | r + 1, v => sp_f2 g p (e + 1) r (if g e ≤ v.2 then v else (100 * p + e, g e))
def sp_f1 (g : Int → Int → Int) (low : Int) (k : Nat) (p : Int) : Nat → Int × Int → Int × Int
  | 0, v => v
  | r + 1, v => sp_f1 g low k (p + 1) r (sp_f2 (g p) p low k v)
def sp_fz (z : sp_Z) (low high : Int) : Int × Int := sp_f1 (sp_rf z) low (high + 1 - low).toNat low (high + 1 - low).toNat (-1, -2)
abbrev sp_fc (z : sp_Z) (low high : Int) : Prop := 1 ≤ low ∧ low ≤ high ∧ high ≤ 20 ∧ high - low ≤ 5 ∧ (nKa (zN z)).length ≠ 0
def zR' (z : sp_Z) (r : Int) : sp_Z := (zT z, zF z, zN z, zI z, zL z, zG z, zW z, r, zD z, zE z, zU z)
def aForm (z : sp_Z) (low high : Int) : Int := if sp_fc z low high then (sp_fz z low high).1 else -2
def yForm (z : sp_Z) (low high : Int) : sp_Z := if sp_fc z low high ∧ (sp_fz z low high).1 ≠ -1 then zR' z (sp_fz z low high).2 else z
/-- best: none yet, or one -/
def sp_vb (v : Int × Int) : Prop := (v.1 = -1 ∨ (101 ≤ v.1 ∧ v.1 ≤ 3000)) ∧ -2 ≤ v.2 ∧ v.2 ≤ 2000
theorem sp_f2_b {g : Int → Int} {p : Int} (hp : 1 ≤ p ∧ p ≤ 20) (hg : ∀ e, 1 ≤ e → e ≤ 20 → -2 ≤ g e ∧ g e ≤ 2000) : ∀ (r : Nat) (e : Int) (v : Int × Int), 1 ≤ e → e + r ≤ 21 → sp_vb v → sp_vb (sp_f2 g p e r v)
  | 0, e, v, h1, h2, h => h
  | r + 1, e, v, h1, h2, h => by
    have hge := hg e h1 (by omega)
    rw [sp_f2]
    refine sp_f2_b hp hg r (e + 1) _ (by omega) (by omega) ?_
    split
    · exact h
    · exact ⟨Or.inr ⟨by show 101 ≤ 100 * p + e; omega, by show 100 * p + e ≤ 3000; omega⟩, hge⟩
theorem sp_th_th (B : sg_M) (a b c d : Int) : sp_th (sp_th B a b) c d = sp_th B c d := by
  funext k i; unfold sp_th
  by_cases hk : k = 1
  · rw [if_pos hk, if_pos hk]; rfl
  · rw [if_neg hk, if_neg hk, if_neg hk]
theorem sp_f2L {p low high : Int} {K : sg_M → Int → Int → Prop} (hst : sg_St La) (h89 : 89 ≤ La.1) (hw : sp_wZ z) (H : sp_RC La s z) (hp : 1 ≤ p ∧ p ≤ 20) (hl : 1 ≤ low) (hh : high ≤ 20) {v0 : Int × Int}
    (hK : ∀ t B', sp_RC La t z → sp_FM s t → sp_cB t 27 B' → sp_ok B' → (∀ c d, sp_th B' c d = sp_th (nB (zN z)) c d) → sp_vb v0 → K t v0.1 v0.2) :
    ∀ (r : Nat) (e : Int) (v : Int × Int) (t : sg_M) (B' : sg_M), e + r = high + 1 → 1 ≤ e → sp_vb v → sp_RC La t z → sp_FM s t → sp_cB t 27 B' → sp_ok B' → (∀ c d, sp_th B' c d = sp_th (nB (zN z)) c d) → sp_f2 (sp_rf z p) p e r v = v0 → fX11_form_L71 La high p K (r + 1) t v.1 v.2 e
  | 0, e, v, t, B', he, h1, hv, HR, hFM, hB, hok, hth, h0 => by
    rw [fX11_form_L71]
    rw [sp_f2] at h0
    exact ⟨fun _ => by rw [h0]; exact hK t B' HR hFM hB hok hth (by rw [← h0]; exact hv), fun hh => absurd (show high < e by omega) hh⟩
  | r + 1, e, v, t, B', he, h1, hv, HR, hFM, hB, hok, hth, h0 => by
    rw [fX11_form_L71]
    simp only [fX11_form_j114]
    refine ⟨fun hh => absurd hh (by omega), fun _ => ?_⟩
    refine tX1_thicken hok hB hp (by omega) (fun u fu hu => ?_)
    rw [hth] at hu
    have hok2 : sp_ok (sp_th (nB (zN z)) p e) := sp_th_ok hw.2.2.1.1 hp (by omega)
    have HRu : sp_RC La u z := sp_RC_b HR h89 (fun c i q => fu c i (by omega))
    refine tX11_rangeOfTrial hst h89 hw hok2 HRu hu (fun w fw => ?_)
    change (sp_rf z p e ≤ v.2 → _) ∧ _
    have hb := sp_rv_rg hok2 (nKa (zN z)) (nKb (zN z)) 2000 0 (by omega) (by omega) (by omega) (by omega) (Or.inl rfl)
    change -2 ≤ sp_rf z p e ∧ sp_rf z p e ≤ 2000 at hb
    have HRw : sp_RC La w z := sp_RC_b HRu h89 (fun c i q => fw c i (by omega))
    have hFw : sp_FM s w := fun c i q1 q2 => by rw [fw c i (by omega), fu c i (by omega)]; exact hFM c i q1 q2
    have hBw : sp_cB w 27 (sp_th (nB (zN z)) p e) := sp_cB_same hu (fun i => fw _ _ (by omega)) (fun i => fw _ _ (by omega)) (fun i => fw _ _ (by omega)) (fun i => fw _ _ (by omega)) (fun i => fw _ _ (by omega))
    have hth2 : ∀ c d, sp_th (sp_th (nB (zN z)) p e) c d = sp_th (nB (zN z)) c d := fun c d => sp_th_th _ _ _ _ _
    rw [sp_f2] at h0
    refine ⟨fun g => ⟨by omega, ?_⟩, fun g => ⟨by omega, by omega, ?_⟩⟩
    · rw [if_pos g] at h0
      exact sp_f2L hst h89 hw H hp hl hh hK r (e + 1) v w _ (by omega) (by omega) hv HRw hFw hBw hok2 hth2 h0
    · rw [if_neg (show ¬ sp_rf z p e ≤ v.2 from g)] at h0
      exact sp_f2L hst h89 hw H hp hl hh hK r (e + 1) (100 * p + e, sp_rf z p e) w _ (by omega) (by omega) ⟨Or.inr ⟨by show 101 ≤ 100 * p + e; omega, by show 100 * p + e ≤ 3000; omega⟩, hb⟩ HRw hFw hBw hok2 hth2 h0
theorem sp_f1L {low high : Int} {K : sg_M → Int → Int → Prop} (hst : sg_St La) (h89 : 89 ≤ La.1) (hw : sp_wZ z) (H : sp_RC La s z) (hl : 1 ≤ low) (hlh : low ≤ high) (hh : high ≤ 20) {v0 : Int × Int} (hK : ∀ t, sp_RC La t z → sp_FM s t → sp_vb v0 → K t v0.1 v0.2) :
    ∀ (r : Nat) (p : Int) (v : Int × Int) (t : sg_M) (B' : sg_M), p + r = high + 1 → 1 ≤ p → sp_vb v → sp_RC La t z → sp_FM s t → sp_cB t 27 B' → sp_ok B' → (∀ c d, sp_th B' c d = sp_th (nB (zN z)) c d) → sp_f1 (sp_rf z) low (high + 1 - low).toNat p r v = v0 → fX11_form_L62 La low high K (r + 1) t v.1 v.2 p
  | 0, p, v, t, B', he, h1, hv, HR, hFM, hB, hok, hth, h0 => by
    rw [fX11_form_L62]
    rw [sp_f1] at h0
    exact ⟨fun _ => by rw [h0]; exact hK t HR hFM (by rw [← h0]; exact hv), fun hh => absurd (show high < p by omega) hh⟩
  | r + 1, p, v, t, B', he, h1, hv, HR, hFM, hB, hok, hth, h0 => by
    rw [fX11_form_L62]
    refine ⟨fun hh => absurd hh (by omega), fun _ => ⟨(high + 1 - low).toNat + 1, ?_⟩⟩
    rw [sp_f1] at h0
    refine sp_f2L (v0 := sp_f2 (sp_rf z p) p low (high + 1 - low).toNat v) hst h89 hw HR (by omega) hl hh (fun u B2 HRu hFu hBu hoku hthu hvb => ⟨by omega, ?_⟩) (high + 1 - low).toNat low v t B' (by omega) hl hv HR (fun _ _ _ _ => rfl) hB hok hth rfl
    exact sp_f1L hst h89 hw H hl hlh hh hK r (p + 1) _ u B2 (by omega) (by omega) hvb HRu (sp_FM_trans hFM hFu) hBu hoku hthu h0
theorem sp_RC_R {s' : sg_M} {r : Int} (H : sp_RC La s z) (h89 : 89 ≤ La.1) (e : ∀ c i, (c = 0 → i ≠ 18) → s' c i = s c i) (hR : s' 0 18 = r) : sp_RC La s' (zR' z r) := by
  rw [sp_RC_eq] at H ⊢
  obtain ⟨hT, hF, hN, hI, hL, hG, hW, -, hD, hE, hU, hQ, hK⟩ := H
  exact ⟨sp_kT hT (fun c i q => e c i (by omega)), by rw [e 0 16 (by omega)]; exact hF, sp_kN hN (sp_X_refl La) h89 (fun c i q => e c i (by omega)), sp_kI hI (sp_X_refl La) h89 (fun c i q => e c i (by omega)), sp_kL hL (fun i => e 37 i (by omega)),
    sp_kR hG (fun c i _ _ => e c i (by omega)), by rw [e 0 17 (by omega)]; exact hW, hR, sp_kR hD (fun c i _ _ => e c i (by omega)), sp_kR hE (fun c i _ _ => e c i (by omega)), sp_kR hU (fun c i _ _ => e c i (by omega)), sp_kQ hQ (fun c i _ _ => e c i (by omega)), sp_kK hK (fun c i _ _ => e c i (by omega))⟩
theorem k1Form {low high : Int} {Q : Int → sg_M → Prop} (hst : sg_St La) (h89 : 89 ≤ La.1) (hw : sp_wZ z) (H : sp_RC La s z) (h : ∀ s', sp_FM s s' → sp_RC La s' (yForm z low high) → Q (aForm z low high) s') : fX11_form La s low high Q := by
  have no : ¬ sp_fc z low high → Q (-2) s := fun g => by
    unfold aForm yForm at h; rw [if_neg g, if_neg (fun hh => g hh.1)] at h; exact h s (fun _ _ _ _ => rfl) H
  have H' := H
  rw [sp_RC_eq] at H'
  obtain ⟨-, -, ⟨⟨hrg, hB⟩, -, -, ⟨-, -, hKn, -, -⟩, -⟩, -⟩ := H'
  have r0 := sp_rg0 hrg (by omega)
  have hok := hw.2.2.1.1
  refine ⟨fun g => no (by omega), fun g1 => ⟨fun g => no (by omega), fun g2 => ⟨fun g => no (by omega), fun g3 => ⟨by omega, fun g => no (by omega), fun g4 => ⟨fun g5 => ⟨r0, ?_⟩, fun g => no (by omega)⟩⟩⟩⟩⟩
  have hc : sp_fc z low high := by omega
  unfold aForm yForm at h
  rw [if_pos hc] at h
  refine tX1_copyFrom hok (by rcases hrg.2 with q | q <;> omega) hB (fun u fu hu => ⟨(high + 1 - low).toNat + 1, ?_⟩)
  have HRu : sp_RC La u z := sp_RC_b H h89 (fun c i q => fu c i (by omega) (by omega))
  have hFu : sp_FM s u := fun c i q1 q2 => fu c i (by omega) (by omega)
  refine sp_f1L (v0 := sp_fz z low high) hst h89 hw HRu hc.1 hc.2.1 hc.2.2.1 (fun t HRt hFt hvb => ?_) (high + 1 - low).toNat low (-1, -2) u (nB (zN z)) (by omega) hc.1 ⟨Or.inl rfl, by decide, by decide⟩ HRu (fun _ _ _ _ => rfl) hu hok (fun _ _ => rfl) rfl
  obtain ⟨hv1, -⟩ := hvb
  refine ⟨fun g => ?_, fun g => fun s30 h30 => ?_⟩
  · rw [if_neg (fun hh => hh.2 (by omega))] at h; exact h t (sp_FM_trans hFu hFt) HRt
  · rw [if_pos ⟨hc, by omega⟩] at h
    refine h s30 (fun c i q1 q2 => by rw [h30, sg_upN _ (by omega), hFt c i q1 q2]; exact hFu c i q1 q2) (sp_RC_R HRt h89 (fun c i q => by rw [h30, sg_upN _ (by omega)]) (by rw [h30, sg_upS]))
/-! the reference -/
theorem sp_mB_th {f : Int → Int} {B : sg_M} {a b : Int} (hok : sp_ok B) (h : sp_mBl f 0 B) (ha : 1 ≤ a) : sp_mB f 0 (sp_th B a b) (sp_mT f 0 a b) := by
  obtain ⟨b0, b1, b2, b3⟩ := h
  refine ⟨b0, b1, b2, fun i q1 q2 => ?_⟩
  change i < B 4 0 at q2
  obtain ⟨c0, c1, c2, c3⟩ := b3 i q1 q2
  refine ⟨c0, ?_, c2, c3⟩
  unfold sp_mT sp_th
  rw [if_neg (by omega), if_pos rfl, if_pos ⟨q1, q2⟩, b0]
theorem sp_rbL {a b : Int} {Q : Int → sg_M → Prop} {K : sg_M → Int → Int → Prop} (hw : sp_wZ z) (ha : 1 ≤ a ∧ a ≤ 20) (hb : 1 ≤ b ∧ b ≤ 20)
    (hQ : ∀ t r, sp_F3 s t → sp_R0 t z → r = -2 → r = sp_rf z a b → Q r t) (hK : ∀ t lo hi r, sp_F3 s t → sp_R0 t z → (hi = -1 ∧ r = -1 ∨ 1 ≤ hi ∧ hi ≤ 2000 ∧ 0 ≤ lo ∧ lo ≤ 2000 ∧ r = hi - lo) → r = sp_rf z a b → K t lo hi) :
    ∀ (A D : List Int) (k lo hi lo1 hi1 : Int) (t : sg_M), 0 ≤ k → k + A.length = (nKa (zN z)).length → A.length = D.length → (∀ j : Nat, j < A.length → sp_at (nKa (zN z)) (k + j) = sp_at A j ∧ sp_at (nKb (zN z)) (k + j) = sp_at D j) → sp_bd A → sp_bd D → sp_F3 s t → sp_R0 t z →
      (hi = -1 ∧ hi1 = 0 ∧ lo1 = 2000 ∨ 1 ≤ hi ∧ hi ≤ 2000 ∧ 0 ≤ lo ∧ lo ≤ 2000 ∧ hi = hi1 ∧ lo = lo1) → sp_rv (sp_th (nB (zN z)) a b) A D lo1 hi1 = sp_rf z a b → fX12_rangeBy_L8 a b Q K (A.length + 1) t lo hi k
  | [], D, k, lo, hi, lo1, hi1, t, hk, hkl, hAD, hat, hA, hD, hF, HR, hlh, he => by
    simp only [List.length_nil] at hkl
    rw [List.length_nil, fX12_rangeBy_L8]
    unfold fX12_bends
    rw [HR.2.2.1.2.2.2.1.1]
    rw [sp_rv] at he
    · refine ⟨fun _ => hK t lo hi _ hF HR ?_ he, fun hh => absurd (show ((nKa (zN z)).length : Int) ≤ k by omega) hh⟩
      rcases hlh with ⟨q1, q2, q3⟩ | ⟨q1, q2, q3, q4, q5, q6⟩
      · left; exact ⟨q1, by rw [if_pos q2]⟩
      · right; exact ⟨q1, q2, q3, q4, by rw [if_neg (by omega), q5, q6]⟩
    · intro a' A' d' D' h1; cases h1
  | a' :: A, [], k, lo, hi, lo1, hi1, t, hk, hkl, hAD, hat, hA, hD, hF, HR, hlh, he => by simp at hAD
  | a' :: A, d :: D, k, lo, hi, lo1, hi1, t, hk, hkl, hAD, hat, hA, hD, hF, HR, hlh, he => by
    have hok := sp_th_ok hw.2.2.1.1 ha hb
    have hv := (sp_vo_rg hok a' d).1
    have hlen := hw.2.2.1.2.2.2.2.2.2.1
    simp only [List.length_cons] at hkl hAD
    have h0 := hat 0 (by simp)
    have hat' : ∀ j : Nat, j < A.length → sp_at (nKa (zN z)) (k + 1 + j) = sp_at A j ∧ sp_at (nKb (zN z)) (k + 1 + j) = sp_at D j := fun j hj => by
      have := hat (j + 1) (by simp only [List.length_cons]; omega)
      rw [show k + ((j + 1 : Nat) : Int) = k + 1 + j by omega] at this
      refine ⟨this.1.trans ?_, this.2.trans ?_⟩ <;> (unfold sp_at; rw [if_neg (by omega), if_neg (by omega), show ((j + 1 : Nat) : Int).toNat = j + 1 by omega, Int.toNat_natCast]; rfl)
    have ih := fun lo' hi' lo1' hi1' t' q1 q2 q3 q4 => sp_rbL (Q := Q) hw ha hb hQ hK A D (k + 1) lo' hi' lo1' hi1' t' (by omega) (by omega) (by omega) hat' (fun x hx => hA x (List.mem_cons_of_mem _ hx)) (fun x hx => hD x (List.mem_cons_of_mem _ hx)) q1 q2 q3 q4
    rw [List.length_cons, fX12_rangeBy_L8]
    unfold fX12_bends
    rw [HR.2.2.1.2.2.2.1.1]
    simp only [fX12_rangeBy_j83, fX12_rangeBy_j72, fX12_rangeBy_j69]
    refine ⟨fun hh => absurd hh (by omega), fun _ => tX12_aOf hw HR hk (by omega) (tX12_bOf hw HR hk (by omega) ?_)⟩
    have ea : sp_at (nKa (zN z)) k = a' := by have := h0.1; rw [show k + ((0 : Nat) : Int) = k by omega] at this; rw [this]; rfl
    have eb : sp_at (nKb (zN z)) k = d := by have := h0.2; rw [show k + ((0 : Nat) : Int) = k by omega] at this; rw [this]; rfl
    rw [ea, eb]
    refine tX12_voiceBy (B := sp_th (nB (zN z)) a b) hok (by omega) (by omega) (hA a' List.mem_cons_self) (hD d List.mem_cons_self) (Or.inr ⟨ha.1, ha.2, hb.1, hb.2⟩) (sp_mB_th hw.2.2.1.1 HR.2.2.1.1 ha.1) (fun u hFu hbt hvx => ?_)
    have HRu : sp_R0 u z := sp_R0_same HR (fun c i hr => hFu c i (by unfold sp_rdm at hr; omega) (by unfold sp_rdm at hr; omega))
    have hF' : sp_F3 s u := fun c i q1 q2 => by rw [hFu c i q1 q2]; exact hF c i q1 q2
    rw [sp_rv] at he
    rw [hbt.2.2.2.1]
    generalize hvv : (sp_vo (sp_th (nB (zN z)) a b) a' d).1 = v at *
    refine ⟨fun g => ⟨fun g2 => ?_, fun g2 => ⟨by omega, ?_⟩⟩, fun g => ?_⟩
    · rw [if_neg (by omega), if_pos (by omega)] at he
      rcases hlh with ⟨q1, q2, q3⟩ | ⟨q1, q2, q3, q4, q5, q6⟩
      · have e1 : sg_min lo1 v = v := by unfold sg_min; split <;> omega
        have e2 : sg_max hi1 v = v := by unfold sg_max; split <;> omega
        rw [e1, e2] at he
        refine ⟨fun _ => ⟨fun hh => absurd hh (by omega), fun _ => ⟨by omega, ih v v v v u hF' HRu (by omega) he⟩⟩, fun hh => absurd q1 hh⟩
      · refine ⟨fun hh => absurd hh (by omega), fun _ => ⟨fun g3 => ⟨fun g4 => ⟨by omega, ?_⟩, fun g4 => ⟨by omega, ?_⟩⟩, fun g3 => ⟨fun g4 => ⟨by omega, ?_⟩, fun g4 => ⟨by omega, ?_⟩⟩⟩⟩
        all_goals refine ih _ _ (sg_min lo1 v) (sg_max hi1 v) u hF' HRu ?_ he
        all_goals right
        · unfold sg_min sg_max; split <;> split <;> omega
        · unfold sg_min sg_max; split <;> split <;> omega
        · unfold sg_min sg_max; split <;> split <;> omega
        · unfold sg_min sg_max; split <;> split <;> omega
    · rw [if_neg (by omega), if_neg (by omega)] at he
      exact ih lo hi lo1 hi1 u hF' HRu hlh he
    · rw [if_pos g] at he; exact hQ u (-2) hF' HRu rfl he
theorem tX12_rangeBy {a b : Int} {Q : Int → sg_M → Prop} (hw : sp_wZ z) (HR : sp_R0 s z) (ha : 1 ≤ a ∧ a ≤ 20) (hb : 1 ≤ b ∧ b ≤ 20) (hQ : ∀ t, sp_F3 s t → sp_R0 t z → Q (sp_rf z a b) t) : fX12_rangeBy s a b Q := by
  refine ⟨(nKa (zN z)).length + 1, sp_rbL hw ha hb (fun t r hF HRt _ hr => by rw [hr]; exact hQ t hF HRt) (fun t lo hi r hF HRt hlh hr => ?_) (nKa (zN z)) (nKb (zN z)) 0 0 (-1) 2000 0 s (by omega) (by omega) hw.2.2.1.2.2.2.2.2.1 (fun j _ => by rw [Int.zero_add]; exact ⟨rfl, rfl⟩) hw.2.2.1.2.2.2.2.2.2.2.1 hw.2.2.1.2.2.2.2.2.2.2.2.1 (fun _ _ _ _ => rfl) HR (Or.inl ⟨rfl, rfl, rfl⟩) rfl⟩
  have h := hQ t hF HRt
  rw [← hr] at h
  rcases hlh with ⟨q1, q2⟩ | ⟨q1, q2, q3, q4, q5⟩
  · rw [q2] at h; exact ⟨fun hh => absurd q1 hh, fun _ => h⟩
  · rw [q5] at h; exact ⟨fun _ => ⟨by omega, h⟩, fun hh => absurd hh (by omega)⟩
theorem sp_g2L {p low high : Int} {K : sg_M → Int → Int → Prop} (hw : sp_wZ z) (hp : 1 ≤ p ∧ p ≤ 20) (hl : 1 ≤ low) (hh : high ≤ 20) {v0 : Int × Int} (hK : ∀ t, sp_R0 t z → sp_F3 s t → sp_vb v0 → K t v0.1 v0.2) :
    ∀ (r : Nat) (e : Int) (v : Int × Int) (t : sg_M), e + r = high + 1 → 1 ≤ e → sp_vb v → sp_R0 t z → sp_F3 s t → sp_f2 (sp_rf z p) p e r v = v0 → fX12_form_L64 high p K (r + 1) t v.1 v.2 e
  | 0, e, v, t, he, h1, hv, HR, hF, h0 => by
    rw [fX12_form_L64]
    rw [sp_f2] at h0
    exact ⟨fun _ => by rw [h0]; exact hK t HR hF (by rw [← h0]; exact hv), fun hh => absurd (show high < e by omega) hh⟩
  | r + 1, e, v, t, he, h1, hv, HR, hF, h0 => by
    rw [fX12_form_L64]
    simp only [fX12_form_j103]
    refine ⟨fun hh => absurd hh (by omega), fun _ => ?_⟩
    refine tX12_rangeBy hw HR hp (by omega) (fun u hFu HRu => ?_)
    have hok2 : sp_ok (sp_th (nB (zN z)) p e) := sp_th_ok hw.2.2.1.1 hp (by omega)
    have hb := sp_rv_rg hok2 (nKa (zN z)) (nKb (zN z)) 2000 0 (by omega) (by omega) (by omega) (by omega) (Or.inl rfl)
    change -2 ≤ sp_rf z p e ∧ sp_rf z p e ≤ 2000 at hb
    have hF' : sp_F3 s u := fun c i q1 q2 => by rw [hFu c i q1 q2]; exact hF c i q1 q2
    rw [sp_f2] at h0
    refine ⟨fun g => ⟨by omega, by omega, ?_⟩, fun g => ⟨by omega, ?_⟩⟩
    · rw [if_neg (by omega)] at h0
      exact sp_g2L hw hp hl hh hK r (e + 1) (100 * p + e, sp_rf z p e) u (by omega) (by omega) ⟨Or.inr ⟨by show 101 ≤ 100 * p + e; omega, by show 100 * p + e ≤ 3000; omega⟩, hb⟩ HRu hF' h0
    · rw [if_pos (by omega)] at h0
      exact sp_g2L hw hp hl hh hK r (e + 1) v u (by omega) (by omega) hv HRu hF' h0
theorem sp_g1L {low high : Int} {K : sg_M → Int → Int → Prop} (hw : sp_wZ z) (hl : 1 ≤ low) (hlh : low ≤ high) (hh : high ≤ 20) {v0 : Int × Int} (hK : ∀ t, sp_R0 t z → sp_F3 s t → sp_vb v0 → K t v0.1 v0.2) :
    ∀ (r : Nat) (p : Int) (v : Int × Int) (t : sg_M), p + r = high + 1 → 1 ≤ p → sp_vb v → sp_R0 t z → sp_F3 s t → sp_f1 (sp_rf z) low (high + 1 - low).toNat p r v = v0 → fX12_form_L55 low high K (r + 1) t v.1 v.2 p
  | 0, p, v, t, he, h1, hv, HR, hF, h0 => by
    rw [fX12_form_L55]
    rw [sp_f1] at h0
    exact ⟨fun _ => by rw [h0]; exact hK t HR hF (by rw [← h0]; exact hv), fun hh => absurd (show high < p by omega) hh⟩
  | r + 1, p, v, t, he, h1, hv, HR, hF, h0 => by
    rw [fX12_form_L55]
    refine ⟨fun hh => absurd hh (by omega), fun _ => ⟨(high + 1 - low).toNat + 1, ?_⟩⟩
    rw [sp_f1] at h0
    refine sp_g2L (s := s) (v0 := sp_f2 (sp_rf z p) p low (high + 1 - low).toNat v) hw (by omega) hl hh (fun u HRu hFu hvb => ⟨by omega, ?_⟩) (high + 1 - low).toNat low v t (by omega) hl hv HR hF rfl
    exact sp_g1L hw hl hlh hh hK r (p + 1) _ u (by omega) (by omega) hvb HRu hFu h0
theorem k2Form {low high : Int} {Q : Int → sg_M → Prop} (hw : sp_wZ z) (H : sp_RM s z) (h : ∀ s', sp_FC s s' → sp_RM s' (yForm z low high) → Q (aForm z low high) s') : fX12_form s low high Q := by
  obtain ⟨H0, h20, F0, -⟩ := sp_go H
  intro s1 h1
  rw [← h1] at H0 F0 h20
  have no : ¬ sp_fc z low high → Q (-2) (sp_ly s1) := fun g => by
    unfold aForm yForm at h; rw [if_neg g, if_neg (fun hh => g hh.1)] at h; exact h _ F0 (sp_RM_of H0 h20)
  refine tX12_lay (tX12_isIn ?_)
  split
  · rename_i g
    refine ⟨fun hh => absurd hh (by omega), fun _ => tX12_isIn ?_⟩
    split
    · rename_i g2
      refine ⟨fun hh => absurd hh (by omega), fun _ => ⟨by omega, fun g3 => no (by omega), fun g3 => ?_⟩⟩
      unfold fX12_bends
      rw [H0.2.2.1.2.2.2.1.1]
      refine ⟨fun g4 => ⟨(high + 1 - low).toNat + 1, ?_⟩, fun g4 => no (by omega)⟩
      have hc : sp_fc z low high := by omega
      unfold aForm yForm at h
      rw [if_pos hc] at h
      refine sp_g1L (s := sp_ly s1) (v0 := sp_fz z low high) hw hc.1 hc.2.1 hc.2.2.1 (fun t HRt hFt hvb => ?_) (high + 1 - low).toNat low (-1, -2) (sp_ly s1) (by omega) hc.1 ⟨Or.inl rfl, by decide, by decide⟩ H0 (fun _ _ _ _ => rfl) rfl
      have hFC : sp_FC s t := fun c i q => by rw [hFt c i (by omega) (by omega)]; exact F0 c i q
      have ht20 : t 64 20 ≠ 0 := by rw [hFt 64 20 (by omega) (by omega)]; exact h20
      refine ⟨fun g5 => ?_, fun g5 => fun s27 h27 => ?_⟩
      · rw [if_neg (fun hh => hh.2 g5)] at h; exact h t hFC (sp_RM_of HRt ht20)
      · rw [if_pos ⟨hc, g5⟩] at h
        have e : ∀ c i, (c = 64 → i ≠ 56) → s27 c i = t c i := fun c i q => by rw [h27, sg_upN _ (by omega)]
        refine h s27 (fun c i q => by rw [e c i (by omega)]; exact hFC c i q) (sp_RM_of ?_ (by rw [e 64 20 (by omega)]; exact ht20))
        obtain ⟨hT, hFa, hN, hI, hL, hG, hW, -, hD, hE, hU⟩ := HRt
        exact ⟨sp_m2 hT (e 64 2 (by omega)) (fun i => e 65 i (by omega)), by rw [e 64 10 (by omega)]; exact hFa, sp_mN0 hN (fun i => e 66 i (by omega)), sp_mI0 hI (fun i => e 71 i (by omega)) (fun i => e 68 i (by omega)), fun w h1 h2 => by rw [e 77 w (by omega)]; exact hL w h1 h2,
          sp_m2 hG (e 64 37 (by omega)) (fun i => e 78 i (by omega)), by rw [e 64 38 (by omega)]; exact hW, by rw [h27, sg_upS]; rfl, sp_m2 hD (e 64 52 (by omega)) (fun i => e 84 i (by omega)), sp_m2 hE (e 64 55 (by omega)) (fun i => e 86 i (by omega)), sp_m2 hU (e 64 50 (by omega)) (fun i => e 83 i (by omega))⟩
    · rename_i g2
      exact ⟨fun _ => no (by omega), fun hh => absurd rfl hh⟩
  · rename_i g
    exact ⟨fun _ => no (by omega), fun hh => absurd rfl hh⟩
theorem wForm {low high : Int} (hw : sp_wZ z) : sp_wZ (yForm z low high) := by
  unfold yForm; split
  · exact hw
  · exact hw
end SGKc
