/-! LEVEL 2: where. -/
noncomputable section SGK4
variable {La : sg_L} {s : sg_M} {z : sp_Z}
def zW' (z : sp_Z) (w : Int) : sp_Z := (zT z, zF z, zN z, zI z, zL z, zG z, w, zR z, zD z, zE z, zU z)
/-- the first of 0..m where d is most -/
def sp_bs (d : Int → Int) : Nat → Int
  | 0 => 0
  | m + 1 => if d ((m : Int) + 1) ≤ d (sp_bs d m) then sp_bs d m else (m : Int) + 1
theorem sp_bs_rg (d : Int → Int) : ∀ m : Nat, 0 ≤ sp_bs d m ∧ sp_bs d m ≤ m
  | 0 => by simp [sp_bs]
  | m + 1 => by
    have := sp_bs_rg d m
    unfold sp_bs; split <;> omega
theorem sp_sg_get (W : Int → Int) (n u p f : Int) : ∀ (m : Nat) (i : Int), 0 ≤ i → i < m → sp_at (sp_sg W n u p f m) i = sg_st W u f (sg_rf1 W p f) (sg_rl1 W n p f) i
  | 0, i, h0, h1 => by omega
  | m + 1, i, h0, h1 => by
    unfold sp_at
    rw [if_neg (by omega), sp_sg, List.getD_eq_getElem?_getD]
    by_cases hi : i < m
    · have ih := sp_sg_get W n u p f m i h0 hi
      unfold sp_at at ih
      rw [if_neg (by omega), List.getD_eq_getElem?_getD] at ih
      rw [List.getElem?_append_left (by rw [sp_sg_len]; omega)]; exact ih
    · have e : i = m := by omega
      rw [e, List.getElem?_append_right (by rw [sp_sg_len]; omega), sp_sg_len, show ((m : Int).toNat - m) = 0 by omega]; rfl
def sp_wd (B : sg_M) (a b p f g : Int) (i : Int) : Int := sg_st (sp_W B a b) (B 4 1) f (sg_rf1 (sp_W B a b) p f) (sg_rl1 (sp_W B a b) (B 4 0) p f) i - sg_st (sp_W B a b) (B 4 1) g (sg_rf1 (sp_W B a b) p g) (sg_rl1 (sp_W B a b) (B 4 0) p g) i
def sp_wb (z : sp_Z) (a b k m o : Int) : Int := sp_bs (sp_wd (nB (zN z)) a b (sp_at (sp_P (nB (zN z)) a b) k) (sp_tf z a b k m) (sp_tf z a b k o)) (nB (zN z) 4 0 - 1).toNat
def aWhere (z : sp_Z) (a b k m o : Int) : Int := if sp_tf z a b k m = 0 ∨ sp_tf z a b k o = 0 then -1 else sp_wb z a b k m o
def yWhere (z : sp_Z) (a b k m o : Int) : sp_Z := if sp_tf z a b k m = 0 ∨ sp_tf z a b k o = 0 then z else zW' z (sp_wd (nB (zN z)) a b (sp_at (sp_P (nB (zN z)) a b) k) (sp_tf z a b k m) (sp_tf z a b k o) (sp_wb z a b k m o))
theorem sp_RC_W {s' : sg_M} {w : Int} (H : sp_RC La s z) (h89 : 89 ≤ La.1) (e : ∀ c i, (c = 0 → i ≠ 17) → c < 27 ∨ (36 < c ∧ c < 40) ∨ (49 < c ∧ c < 56) ∨ 57 < c → s' c i = s c i) (hW : s' 0 17 = w) : sp_RC La s' (zW' z w) := by
  rw [sp_RC_eq] at H ⊢
  obtain ⟨hT, hF, hN, hI, hL, hG, -, hR, hD, hE, hU, hQ, hK⟩ := H
  exact ⟨sp_kT hT (fun c i q => e c i (by omega) (by omega)), by rw [e 0 16 (by omega) (by omega)]; exact hF, sp_kN hN (sp_X_refl La) h89 (fun c i q => e c i (by omega) (by omega)), sp_kI hI (sp_X_refl La) h89 (fun c i q => e c i (by omega) (by omega)), sp_kL hL (fun i => e 37 i (by omega) (by omega)),
    sp_kR hG (fun c i _ _ => e c i (by omega) (by omega)), hW, by rw [e 0 18 (by omega) (by omega)]; exact hR,
    sp_kR hD (fun c i _ _ => e c i (by omega) (by omega)), sp_kR hE (fun c i _ _ => e c i (by omega) (by omega)), sp_kR hU (fun c i _ _ => e c i (by omega) (by omega)), sp_kQ hQ (fun c i _ _ => e c i (by omega) (by omega)), sp_kK hK (fun c i _ _ => e c i (by omega) (by omega))⟩
theorem sp_R0_W {t t' : sg_M} {w : Int} (H : sp_R0 t z) (e : ∀ c i, (c = 64 → i < 27 ∨ 42 < i ∨ i = 37) → c ≠ 79 → (c < 72 ∨ 76 < c) → t' c i = t c i) (hW : t' 64 38 = w) : sp_R0 t' (zW' z w) := by
  obtain ⟨hT, hF, hN, hI, hL, hG, -, hR, hD, hE, hU⟩ := H
  exact ⟨sp_m2 hT (e 64 2 (by omega) (by omega) (by omega)) (fun i => e 65 i (by omega) (by omega) (by omega)), by rw [e 64 10 (by omega) (by omega) (by omega)]; exact hF, sp_mN0 hN (fun i => e 66 i (by omega) (by omega) (by omega)),
    sp_mI0 hI (fun i => e 71 i (by omega) (by omega) (by omega)) (fun i => e 68 i (by omega) (by omega) (by omega)), fun w h1 h2 => by rw [e 77 w (by omega) (by omega) (by omega)]; exact hL w h1 h2, sp_m2 hG (e 64 37 (by omega) (by omega) (by omega)) (fun i => e 78 i (by omega) (by omega) (by omega)),
    hW, by rw [e 64 56 (by omega) (by omega) (by omega)]; exact hR,
    sp_m2 hD (e 64 52 (by omega) (by omega) (by omega)) (fun i => e 84 i (by omega) (by omega) (by omega)), sp_m2 hE (e 64 55 (by omega) (by omega) (by omega)) (fun i => e 86 i (by omega) (by omega) (by omega)),
    sp_m2 hU (e 64 50 (by omega) (by omega) (by omega)) (fun i => e 83 i (by omega) (by omega) (by omega))⟩
theorem sp_w1L {B : sg_M} {a b p f g : Int} {Q : Int → sg_M → Prop} (hst : sg_St La) (hok : sp_ok B) (h41 : sp_rw s 41 (sp_sg (sp_W B a b) (B 4 0) (B 4 1) p f (B 4 0).toNat)) (h44 : sp_rw s 44 (sp_sg (sp_W B a b) (B 4 0) (B 4 1) p g (B 4 0).toNat))
    (h : Q (sp_bs (sp_wd B a b p f g) (B 4 0 - 1).toNat) (sg_up s 0 17 (sp_wd B a b p f g (sp_bs (sp_wd B a b p f g) (B 4 0 - 1).toNat)))) :
    ∀ (r m : Nat), (m : Int) + 1 + r = B 4 0 → fX11_where_L93 La s Q (r + 1) (sp_bs (sp_wd B a b p f g) m) (sp_wd B a b p f g (sp_bs (sp_wd B a b p f g) m)) ((m : Int) + 1)
  | 0, m, hm => by
    have hn3 := hok.1
    rw [fX11_where_L93]
    have e : (B 4 0 - 1).toNat = m := by omega
    rw [e] at h
    have h1 := h41.1
    rw [sp_sg_len] at h1
    refine ⟨fun _ => fun s34 h34 => by rw [h34]; exact h, fun hh => absurd (show s 41 1 ≤ (m : Int) + 1 by omega) hh⟩
  | r + 1, m, hm => by
    have hn60 := hok.2.1
    have h1 := h41.1
    rw [sp_sg_len] at h1
    have hb := sp_bs_rg (sp_wd B a b p f g) m
    have ih := sp_w1L (p := p) (f := f) (g := g) hst hok h41 h44 h r (m + 1) (by omega)
    have z1 := sg_st_rg (W := sp_W B a b) (f := f) (a := sg_rf1 (sp_W B a b) p f) (b := sg_rl1 (sp_W B a b) (B 4 0) p f) (i := (m : Int) + 1) hok.2.2.1
    have z2 := sg_st_rg (W := sp_W B a b) (f := g) (a := sg_rf1 (sp_W B a b) p g) (b := sg_rl1 (sp_W B a b) (B 4 0) p g) (i := (m : Int) + 1) hok.2.2.1
    have hu1 := hok.2.2.2.1
    rw [fX11_where_L93]
    simp only [fX11_where_j150]
    refine ⟨fun hh => absurd hh (by omega), fun _ => ?_⟩
    refine tX4_at (c := 60) (sp_ln hst 42 10060 rfl) (by omega) h41.1 (by rw [sp_sg_len]; omega) h41.2 ?_
    refine tX4_at (c := 60) (sp_ln hst 45 10060 rfl) (by omega) h44.1 (by rw [sp_sg_len]; omega) h44.2 ?_
    rw [sp_sg_get _ _ _ _ _ _ _ (by omega) (by omega), sp_sg_get _ _ _ _ _ _ _ (by omega) (by omega)]
    have ed : sg_st (sp_W B a b) (B 4 1) f (sg_rf1 (sp_W B a b) p f) (sg_rl1 (sp_W B a b) (B 4 0) p f) ((m : Int) + 1) - sg_st (sp_W B a b) (B 4 1) g (sg_rf1 (sp_W B a b) p g) (sg_rl1 (sp_W B a b) (B 4 0) p g) ((m : Int) + 1) = sp_wd B a b p f g ((m : Int) + 1) := rfl
    rw [sp_bs, show ((m + 1 : Nat) : Int) = (m : Int) + 1 by omega] at ih
    refine ⟨by omega, ?_⟩
    rw [ed]
    refine ⟨fun q => ⟨by omega, ?_⟩, fun q => ⟨by omega, ?_⟩⟩
    · rw [if_pos q] at ih; exact ih
    · rw [if_neg q] at ih; exact ih
theorem k1Where {a b k m o : Int} {Q : Int → sg_M → Prop} (hst : sg_St La) (h89 : 89 ≤ La.1) (hw : sp_wZ z) (H : sp_RC La s z) (h : ∀ s', sp_FM s s' → sp_RC La s' (yWhere z a b k m o) → Q (aWhere z a b k m o) s') : fX11_where La s a b k m o Q := by
  obtain ⟨b1, b2, b3, b4⟩ := sp_cb_of H hw
  have no : ∀ t, (sp_tf z a b k m = 0 ∨ sp_tf z a b k o = 0) → sp_FM s t → sp_RC La t z → Q (-1) t := by
    intro t e q1 q2
    unfold yWhere aWhere at h
    rw [if_pos e, if_pos e] at h
    exact h t q1 q2
  refine tX11_isBend ?_
  split
  · rename_i g
    have etf : ∀ m, ¬ (0 ≤ m ∧ m ≤ 5 ∧ 0 ≤ k ∧ k < (sp_P (nB (zN z)) a b).length ∧ sp_bk (nB (zN z)) a b (nB (zN z) 4 0).toNat = -1 ∧ sg_tn (sp_W (nB (zN z)) a b) (nB (zN z) 4 0) (sp_at (sp_P (nB (zN z)) a b) k) ((2 * m + 1) * nB (zN z) 4 1) ≠ 0) → sp_tf z a b k m = 0 := by
      intro m hn
      unfold sp_tf; split
      · rename_i g2
        rcases Decidable.em (sg_tn (sp_W (nB (zN z)) a b) (nB (zN z) 4 0) (sp_at (sp_P (nB (zN z)) a b) k) ((2 * m + 1) * nB (zN z) 4 1) = 0) with h0 | h0
        · exact h0
        · exact absurd ⟨g2.2.1, g2.2.2.1, g2.2.2.2.1, g2.2.2.2.2.1, g2.2.2.2.2.2, h0⟩ hn
      · rfl
    refine ⟨fun _ => ⟨b3, tX0_bendTo hst b1 ⟨g.1, g.2.1⟩ ⟨g.2.2.1, g.2.2.2⟩ b4 b2 (fun t hF hbt => ?_)⟩, fun hh => absurd hh (by omega)⟩
    have hRC : ∀ t', (∀ c i, c < 40 ∨ 45 < c → t' c i = t c i) → sp_RC La t' z := fun t' e' => sp_RC_b H h89 (fun c i q => by rw [e' c i (by omega)]; exact hF c i (by omega) (by omega))
    have hFM : ∀ t', (∀ c i, c < 40 ∨ 45 < c → t' c i = t c i) → sp_FM s t' := fun t' e' c i q1 q2 => by rw [e' c i (by omega)]; exact hF c i (by omega) (by omega)
    refine tX0_sound hst b1 hbt (by omega) (by omega) (sp_ln hst 42 10060 rfl) (fun hn => ?_) (fun f hc hf t' hF' ht' => ?_)
    · exact ⟨fun _ => no t (Or.inl (etf m hn)) (hFM t (fun _ _ _ => rfl)) (hRC t (fun _ _ _ => rfl)), fun hh => absurd rfl hh⟩
    · refine ⟨fun hh => absurd hh (by omega), fun _ => ?_⟩
      have em : sp_tf z a b k m = f := by
        unfold sp_tf; rw [if_pos ⟨g, hc.1, hc.2.1, hc.2.2.1, hc.2.2.2.1, hc.2.2.2.2.1⟩]; exact hf.symm
      have hbt' : sp_cbt (nB (zN z)) a b t' := sp_cbt_F hbt (fun c i _ _ _ => hF' c i (by omega))
      refine tX0_sound hst b1 hbt' (by omega) (by omega) (sp_ln hst 45 10060 rfl) (fun hn => ?_) (fun f2 hc2 hf2 t2 hF2 ht2 => ?_)
      · refine ⟨fun hh => absurd rfl hh, fun _ => no t' (Or.inr (etf o hn)) (hFM t' (fun c i q => hF' c i (by omega))) (hRC t' (fun c i q => hF' c i (by omega)))⟩
      · have eo : sp_tf z a b k o = f2 := by
          unfold sp_tf; rw [if_pos ⟨g, hc2.1, hc2.2.1, hc2.2.2.1, hc2.2.2.2.1, hc2.2.2.2.2.1⟩]; exact hf2.symm
        refine ⟨fun _ => ?_, fun hh => absurd hh (by omega)⟩
        have hno : ¬ (sp_tf z a b k m = 0 ∨ sp_tf z a b k o = 0) := by
          rw [em, eo]; intro hh; rcases hh with hh | hh
          · exact hc.2.2.2.2.2 hh
          · exact hc2.2.2.2.2.2 hh
        unfold yWhere aWhere sp_wb at h
        rw [if_neg hno, if_neg hno, em, eo] at h
        generalize hp' : sp_at (sp_P (nB (zN z)) a b) k = p at *
        generalize hB : nB (zN z) = B at *
        have h41 : sp_rw t2 41 (sp_sg (sp_W B a b) (B 4 0) (B 4 1) p f (B 4 0).toNat) := sp_kR ht'.2.2.2.2.2.2 (fun c i q1 q2 => hF2 c i (by omega))
        have h44 := ht2.2.2.2.2.2.2
        have hn3 := b1.1
        have hn60 := b1.2.1
        have hu1 := b1.2.2.2.1
        have z1 := sg_st_rg (W := sp_W B a b) (f := f) (a := sg_rf1 (sp_W B a b) p f) (b := sg_rl1 (sp_W B a b) (B 4 0) p f) (i := 0) b1.2.2.1
        have z2 := sg_st_rg (W := sp_W B a b) (f := f2) (a := sg_rf1 (sp_W B a b) p f2) (b := sg_rl1 (sp_W B a b) (B 4 0) p f2) (i := 0) b1.2.2.1
        refine tX4_at (c := 60) (sp_ln hst 42 10060 rfl) (by omega) h41.1 (by rw [sp_sg_len]; omega) h41.2 ?_
        refine tX4_at (c := 60) (sp_ln hst 45 10060 rfl) (by omega) h44.1 (by rw [sp_sg_len]; omega) h44.2 ?_
        rw [sp_sg_get _ _ _ _ _ _ _ (by omega) (by omega), sp_sg_get _ _ _ _ _ _ _ (by omega) (by omega)]
        refine ⟨by omega, (B 4 0 - 1).toNat + 1, ?_⟩
        have key := sp_w1L (La := La) (s := t2) (B := B) (a := a) (b := b) (p := p) (f := f) (g := f2) (Q := Q) hst b1 h41 h44 ?_ (B 4 0 - 1).toNat 0 (by omega)
        · exact key
        · have r2 : ∀ c i, c < 40 ∨ 45 < c → t2 c i = t c i := fun c i q => by rw [hF2 c i (by omega), hF' c i (by omega)]
          refine h _ (fun c i q1 q2 => by rw [sg_upN _ (by omega)]; exact hFM t2 r2 c i q1 q2) (sp_RC_W H h89 (fun c i q1 q2 => ?_) (sg_upS _ _ _ _))
          rw [sg_upN _ (by omega), r2 c i (by omega)]; exact hF c i (by omega) (by omega)
  · rename_i g
    exact ⟨fun hh => absurd rfl hh, fun _ => no s (Or.inl (by unfold sp_tf; rw [if_neg (fun hh => g hh.1)])) (fun _ _ _ _ => rfl) H⟩
/-! the reference -/
theorem sp_w2L {B : sg_M} {a b p g : Int} {K : sg_M → Prop} {s0 : sg_M} (hok : sp_ok B) (hf0 : 0 ≤ g) (hf : g ≤ 2000) (hp0 : 0 ≤ p) (hp : p < B 4 0) (e27 : s0 64 27 = B 4 0) (e28 : s0 64 28 = B 4 1)
    (hW : ∀ i, 0 ≤ i → i < B 4 0 → s0 73 i = sp_W B a b i) (ha : s0 64 32 = sg_rf1 (sp_W B a b) p g) (hl : s0 64 33 = sg_rl1 (sp_W B a b) (B 4 0) p g)
    (h : ∀ t, (∀ c i, c ≠ 79 → t c i = s0 c i) → (∀ i, 0 ≤ i → i < B 4 0 → t 79 i = sg_st (sp_W B a b) (B 4 1) g (sg_rf1 (sp_W B a b) p g) (sg_rl1 (sp_W B a b) (B 4 0) p g) i) → K t) :
    ∀ (r m : Nat) (t : sg_M), (m : Int) + r = B 4 0 → (∀ c i, c ≠ 79 → t c i = s0 c i) → (∀ i : Int, 0 ≤ i → i < m → t 79 i = sg_st (sp_W B a b) (B 4 1) g (sg_rf1 (sp_W B a b) p g) (sg_rl1 (sp_W B a b) (B 4 0) p g) i) → fX12_where_L87 g K (r + 1) t m
  | 0, m, t, hm, hF, hr => by
    rw [fX12_where_L87]
    exact ⟨fun _ => h t hF (fun i q1 q2 => hr i q1 (by omega)), fun hh => absurd (show t 64 27 ≤ m by rw [hF 64 27 (by omega)]; omega) hh⟩
  | r + 1, m, t, hm, hF, hr => by
    have hn60 := hok.2.1
    rw [fX12_where_L87, hF 64 27 (by omega), e27]
    refine ⟨fun hh => absurd hh (by omega), fun _ => ?_⟩
    refine tX12_strengthAt (W := sp_W B a b) (n := B 4 0) (p := p) (u := B 4 1) hf0 hf hn60 (fun i q1 q2 => by rw [hF 73 i (by omega)]; exact hW i q1 q2) (fun i _ _ => sp_W_rg B a b i) (by rw [hF 64 28 (by omega)]; exact e28) hok.2.2.1 hok.2.2.2.1 hp0 hp
      (by rw [hF 64 32 (by omega)]; exact ha) (by rw [hF 64 33 (by omega)]; exact hl) (by omega) ?_
    refine ⟨by omega, fun s56 h56 => ⟨by omega, ?_⟩⟩
    have ih := sp_w2L hok hf0 hf hp0 hp e27 e28 hW ha hl h r (m + 1) s56 (by omega) (fun c i q => by rw [h56, sg_upN _ (by omega)]; exact hF c i q) (fun i q1 q2 => ?_)
    · rw [show ((m + 1 : Nat) : Int) = (m : Int) + 1 by omega] at ih; exact ih
    · by_cases hi : i = m
      · rw [hi, h56, sg_upS]
      · rw [h56, sg_upN _ (by omega)]; exact hr i q1 (by omega)
theorem sp_w3L {B : sg_M} {a b p f g : Int} {Q : Int → sg_M → Prop} {t : sg_M} (hok : sp_ok B) (hf0 : 0 ≤ f) (hf : f ≤ 2000) (hp0 : 0 ≤ p) (hp : p < B 4 0) (e27 : t 64 27 = B 4 0) (e28 : t 64 28 = B 4 1)
    (hW : ∀ i, 0 ≤ i → i < B 4 0 → t 73 i = sp_W B a b i) (ha : t 64 32 = sg_rf1 (sp_W B a b) p f) (hl : t 64 33 = sg_rl1 (sp_W B a b) (B 4 0) p f)
    (h79 : ∀ i, 0 ≤ i → i < B 4 0 → t 79 i = sg_st (sp_W B a b) (B 4 1) g (sg_rf1 (sp_W B a b) p g) (sg_rl1 (sp_W B a b) (B 4 0) p g) i)
    (h : Q (sp_bs (sp_wd B a b p f g) (B 4 0 - 1).toNat) (sg_up t 64 38 (sp_wd B a b p f g (sp_bs (sp_wd B a b p f g) (B 4 0 - 1).toNat)))) :
    ∀ (r m : Nat), (m : Int) + 1 + r = B 4 0 → fX12_where_L145 f t Q (r + 1) (sp_bs (sp_wd B a b p f g) m) ((m : Int) + 1)
  | 0, m, hm => by
    have hn3 := hok.1
    have hn60 := hok.2.1
    have hu1 := hok.2.2.2.1
    have hb := sp_bs_rg (sp_wd B a b p f g) m
    rw [fX12_where_L145, e27]
    have e : (B 4 0 - 1).toNat = m := by omega
    rw [e] at h
    refine ⟨fun _ => ?_, fun hh => absurd (show B 4 0 ≤ (m : Int) + 1 by omega) hh⟩
    generalize hx : sp_bs (sp_wd B a b p f g) m = x at *
    have z1 := sg_st_rg (W := sp_W B a b) (f := f) (a := sg_rf1 (sp_W B a b) p f) (b := sg_rl1 (sp_W B a b) (B 4 0) p f) (i := x) hok.2.2.1
    have z2 := sg_st_rg (W := sp_W B a b) (f := g) (a := sg_rf1 (sp_W B a b) p g) (b := sg_rl1 (sp_W B a b) (B 4 0) p g) (i := x) hok.2.2.1
    refine tX12_strengthAt (W := sp_W B a b) (n := B 4 0) (p := p) (u := B 4 1) hf0 hf hn60 hW (fun i _ _ => sp_W_rg B a b i) e28 hok.2.2.1 hok.2.2.2.1 hp0 hp ha hl (by omega) ?_
    rw [h79 x (by omega) (by omega)]
    refine ⟨by omega, by omega, fun s49 h49 => ?_⟩
    rw [h49]; exact h
  | r + 1, m, hm => by
    have hn60 := hok.2.1
    have hu1 := hok.2.2.2.1
    have hb := sp_bs_rg (sp_wd B a b p f g) m
    have ih := sp_w3L (p := p) (f := f) (g := g) hok hf0 hf hp0 hp e27 e28 hW ha hl h79 h r (m + 1) (by omega)
    rw [sp_bs, show ((m + 1 : Nat) : Int) = (m : Int) + 1 by omega] at ih
    rw [fX12_where_L145, e27]
    simp only [fX12_where_j193]
    refine ⟨fun hh => absurd hh (by omega), fun _ => ?_⟩
    generalize hx : sp_bs (sp_wd B a b p f g) m = x at *
    have z1 := sg_st_rg (W := sp_W B a b) (f := f) (a := sg_rf1 (sp_W B a b) p f) (b := sg_rl1 (sp_W B a b) (B 4 0) p f) (i := x) hok.2.2.1
    have z2 := sg_st_rg (W := sp_W B a b) (f := g) (a := sg_rf1 (sp_W B a b) p g) (b := sg_rl1 (sp_W B a b) (B 4 0) p g) (i := x) hok.2.2.1
    have z3 := sg_st_rg (W := sp_W B a b) (f := f) (a := sg_rf1 (sp_W B a b) p f) (b := sg_rl1 (sp_W B a b) (B 4 0) p f) (i := (m : Int) + 1) hok.2.2.1
    have z4 := sg_st_rg (W := sp_W B a b) (f := g) (a := sg_rf1 (sp_W B a b) p g) (b := sg_rl1 (sp_W B a b) (B 4 0) p g) (i := (m : Int) + 1) hok.2.2.1
    refine tX12_strengthAt (W := sp_W B a b) (n := B 4 0) (p := p) (u := B 4 1) hf0 hf hn60 hW (fun i _ _ => sp_W_rg B a b i) e28 hok.2.2.1 hok.2.2.2.1 hp0 hp ha hl (by omega) ?_
    refine ⟨by omega, ?_⟩
    refine tX12_strengthAt (W := sp_W B a b) (n := B 4 0) (p := p) (u := B 4 1) hf0 hf hn60 hW (fun i _ _ => sp_W_rg B a b i) e28 hok.2.2.1 hok.2.2.2.1 hp0 hp ha hl (by omega) ?_
    rw [h79 x (by omega) (by omega), h79 ((m : Int) + 1) (by omega) (by omega)]
    change (_ ∧ _) ∧ _ ∧ _ ∧ (sp_wd B a b p f g ((m : Int) + 1) ≤ sp_wd B a b p f g x → _) ∧ (¬ sp_wd B a b p f g ((m : Int) + 1) ≤ sp_wd B a b p f g x → _)
    refine ⟨by omega, by omega, by omega, fun q => ⟨by omega, ?_⟩, fun q => ⟨by omega, ?_⟩⟩
    · rw [if_pos q] at ih; exact ih
    · rw [if_neg q] at ih; exact ih
theorem k2Where {a b k m o : Int} {Q : Int → sg_M → Prop} (hw : sp_wZ z) (H : sp_RM s z) (h : ∀ s', sp_FC s s' → sp_RM s' (yWhere z a b k m o) → Q (aWhere z a b k m o) s') : fX12_where s a b k m o Q := by
  obtain ⟨H0, h20, F0, -⟩ := sp_go H
  intro s1 h1
  rw [← h1] at H0 F0 h20
  generalize hB : nB (zN z) = B at *
  have hok : sp_ok B := by rw [← hB]; exact hw.2.2.1.1
  have hn3 := hok.1
  have hn60 := hok.2.1
  have no : (sp_tf z a b k m = 0 ∨ sp_tf z a b k o = 0) → ∀ t, sp_R0 t z → t 64 20 ≠ 0 → sp_FC s t → Q (-1) t := by
    intro e t q1 q2 q3
    unfold yWhere aWhere at h
    rw [if_pos e, if_pos e] at h
    exact h t q3 (sp_RM_of q1 q2)
  refine tX12_lay (tX12_isBend ?_)
  split
  · rename_i g
    refine ⟨fun hh => absurd hh (by omega), fun _ => tX12_isIn ?_⟩
    split
    · rename_i gm
      refine ⟨fun hh => absurd hh (by omega), fun _ => tX12_isIn ?_⟩
      split
      · rename_i go
        refine ⟨fun hh => absurd hh (by omega), fun _ => ⟨fun gk => ?_, fun gk => ?_⟩⟩
        · refine tX12_layBend hok (by omega) (by omega) ⟨g.1, g.2.1⟩ ⟨g.2.2.1, g.2.2.2⟩ (Or.inl rfl) (sp_mT_of (by rw [← hB]; exact H0.2.2.1.1)) (fun t hF hbt => ?_)
          obtain ⟨m27, m28, m29, m30, m31, mj, m75⟩ := hbt
          have HR := sp_R0_F1 H0 hF
          have HF := sp_FC_F1 F0 hF
          have H20 : t 64 20 ≠ 0 := by rw [hF 64 20 (by omega) (by omega)]; exact h20
          have hlen := sp_P_len hok a b
          rw [m29]
          refine ⟨fun gk2 => ⟨by omega, ?_⟩, fun gk2 => ?_⟩
          · have hpm := sp_at_mem (l := sp_P B a b) (i := k) gk gk2
            have hp := sp_P_mem hok hpm
            rw [sp_at_in m75 gk gk2]
            have hW : ∀ i, 0 ≤ i → i < B 4 0 → t 73 i = sp_W B a b i := fun i q1 q2 => (mj i q1 q2).2.1
            have etf : ∀ m, 0 ≤ m → m ≤ 5 → sp_tf z a b k m = if sp_bk B a b (B 4 0).toNat = -1 then sg_tn (sp_W B a b) (B 4 0) (sp_at (sp_P B a b) k) ((2 * m + 1) * B 4 1) else 0 := by
              intro m g0 g5
              unfold sp_tf
              rw [hB]
              by_cases hb : sp_bk B a b (B 4 0).toNat = -1
              · rw [if_pos ⟨g, g0, g5, gk, gk2, hb⟩, if_pos hb]
              · rw [if_neg (fun hh => hb hh.2.2.2.2.2), if_neg hb]
            have em := etf m gm.1 gm.2
            have eo := etf o go.1 go.2
            generalize hp' : sp_at (sp_P B a b) k = p at *
            refine tX12_toneOf (W := sp_W B a b) (n := B 4 0) (u := B 4 1) hn60 m27 hW (fun i _ _ => sp_W_rg B a b i) hp.1 hp.2 go.1 go.2 m28 hok.2.2.1 hok.2.2.2.1 ?_ ?_
            · intro hor x y
              refine ⟨fun hh => absurd rfl hh, fun _ => no (Or.inr ?_) _ (sp_R0_rn HR x y) (by rw [sg_rn_rd _ _ _ _ _ (by omega)]; exact H20) (sp_FC_rn HF x y)⟩
              rw [eo]
              rcases hor with hor | hor
              · rw [if_neg (by rw [← m30]; exact hor)]
              · split
                · exact hor
                · rfl
            · intro hbk hto
              have htro := sg_tn_rg (sp_W B a b) (B 4 0) p ((2 * o + 1) * B 4 1)
              have hbk' : sp_bk B a b (B 4 0).toNat = -1 := by rw [← m30]; exact hbk
              rw [if_pos hbk'] at em eo
              generalize hg' : sg_tn (sp_W B a b) (B 4 0) p ((2 * o + 1) * B 4 1) = f2 at *
              refine ⟨fun _ => ⟨(B 4 0).toNat + 1, ?_⟩, fun hh => absurd hh (by omega)⟩
              have rr : ∀ c i, (c = 64 → i ≠ 32 ∧ i ≠ 33) → sg_rn t (sg_rf1 (sp_W B a b) p f2) (sg_rl1 (sp_W B a b) (B 4 0) p f2) c i = t c i := fun c i q => sg_rn_rd _ _ _ _ _ q
              refine sp_w2L (B := B) (a := a) (b := b) (p := p) hok htro.1 htro.2 hp.1 hp.2 (by rw [rr 64 27 (by omega)]; exact m27) (by rw [rr 64 28 (by omega)]; exact m28) (fun i q1 q2 => by rw [rr 73 i (by omega)]; exact hW i q1 q2) (sg_rn_a _ _ _) (sg_rn_b _ _ _)
                (fun u hFu h79 => ?_) (B 4 0).toNat 0 _ (by omega) (fun _ _ _ => rfl) (fun i q1 q2 => by omega)
              have ru : ∀ c i, c ≠ 79 → (c = 64 → i ≠ 32 ∧ i ≠ 33) → u c i = t c i := fun c i q1 q2 => by rw [hFu c i q1, rr c i q2]
              have e75 : u 75 k = p := by rw [ru 75 k (by omega) (by omega), sp_at_in m75 gk gk2]; exact hp'
              have HRu : sp_R0 u z := sp_R0_same HR (fun c i hr => ru c i (by unfold sp_rdm at hr; omega) (by unfold sp_rdm at hr; omega))
              have HFu : sp_FC s u := fun c i q => by rw [ru c i (by omega) (by omega)]; exact HF c i q
              have H20u : u 64 20 ≠ 0 := by rw [ru 64 20 (by omega) (by omega)]; exact H20
              rw [e75]
              refine ⟨by omega, ?_⟩
              refine tX12_toneOf (W := sp_W B a b) (n := B 4 0) (u := B 4 1) hn60 (by rw [ru 64 27 (by omega) (by omega)]; exact m27) (fun i q1 q2 => by rw [ru 73 i (by omega) (by omega)]; exact hW i q1 q2) (fun i _ _ => sp_W_rg B a b i) hp.1 hp.2 gm.1 gm.2 (by rw [ru 64 28 (by omega) (by omega)]; exact m28) hok.2.2.1 hok.2.2.2.1 ?_ ?_
              · intro hor x y
                refine ⟨fun hh => absurd rfl hh, fun _ => no (Or.inl ?_) _ (sp_R0_rn HRu x y) (by rw [sg_rn_rd _ _ _ _ _ (by omega)]; exact H20u) (sp_FC_rn HFu x y)⟩
                rw [em]
                rcases hor with hor | hor
                · exact absurd (by rw [ru 64 30 (by omega) (by omega)]; exact hbk) hor
                · exact hor
              · intro _ htm
                have htrm := sg_tn_rg (sp_W B a b) (B 4 0) p ((2 * m + 1) * B 4 1)
                generalize hf' : sg_tn (sp_W B a b) (B 4 0) p ((2 * m + 1) * B 4 1) = f at *
                have hno : ¬ (sp_tf z a b k m = 0 ∨ sp_tf z a b k o = 0) := by rw [em, eo]; omega
                unfold yWhere aWhere sp_wb at h
                rw [if_neg hno, if_neg hno, em, eo, hB, hp'] at h
                refine ⟨fun _ => ⟨(B 4 0 - 1).toNat + 1, ?_⟩, fun hh => absurd hh (by omega)⟩
                have r3 : ∀ c i, (c = 64 → i ≠ 32 ∧ i ≠ 33) → sg_rn u (sg_rf1 (sp_W B a b) p f) (sg_rl1 (sp_W B a b) (B 4 0) p f) c i = u c i := fun c i q => sg_rn_rd _ _ _ _ _ q
                refine sp_w3L (B := B) (a := a) (b := b) (p := p) (f := f) (g := f2) (t := sg_rn u (sg_rf1 (sp_W B a b) p f) (sg_rl1 (sp_W B a b) (B 4 0) p f)) hok htrm.1 htrm.2 hp.1 hp.2 (by rw [r3 64 27 (by omega), ru 64 27 (by omega) (by omega)]; exact m27) (by rw [r3 64 28 (by omega), ru 64 28 (by omega) (by omega)]; exact m28)
                  (fun i q1 q2 => by rw [r3 73 i (by omega), ru 73 i (by omega) (by omega)]; exact hW i q1 q2) (sg_rn_a _ _ _) (sg_rn_b _ _ _) (fun i q1 q2 => by rw [r3 79 i (by omega)]; exact h79 i q1 q2) ?_ (B 4 0 - 1).toNat 0 (by omega)
                have r4 : ∀ c i w, (c = 64 → i ≠ 38 ∧ i ≠ 32 ∧ i ≠ 33) → c ≠ 79 → sg_up (sg_rn u (sg_rf1 (sp_W B a b) p f) (sg_rl1 (sp_W B a b) (B 4 0) p f)) 64 38 w c i = t c i := fun c i w q q2 => by
                  rw [sg_upN _ (by omega), r3 c i (by omega), ru c i q2 (by omega)]
                refine h _ (fun c i q => by rw [r4 c i _ (by omega) (by omega)]; exact HF c i q) (sp_RM_of (sp_R0_W HR (fun c i q1 q2 q3 => r4 c i _ (by omega) q2) (sg_upS _ _ _ _)) ?_)
                rw [r4 64 20 _ (by omega) (by omega)]; exact H20
          · refine no (Or.inl ?_) t HR H20 HF
            unfold sp_tf; rw [hB, if_neg (fun hh => gk2 hh.2.2.2.2.1)]
        · refine no (Or.inl ?_) _ H0 h20 F0
          unfold sp_tf; rw [if_neg (fun hh => gk hh.2.2.2.1)]
      · rename_i go
        refine ⟨fun _ => no (Or.inr ?_) _ H0 h20 F0, fun hh => absurd rfl hh⟩
        unfold sp_tf; rw [if_neg (fun hh => go ⟨hh.2.1, hh.2.2.1⟩)]
    · rename_i gm
      refine ⟨fun _ => no (Or.inl ?_) _ H0 h20 F0, fun hh => absurd rfl hh⟩
      unfold sp_tf; rw [if_neg (fun hh => gm ⟨hh.2.1, hh.2.2.1⟩)]
  · rename_i g
    refine ⟨fun _ => no (Or.inl ?_) _ H0 h20 F0, fun hh => absurd rfl hh⟩
    unfold sp_tf; rw [if_neg (fun hh => g hh.1)]
theorem wWhere {a b k m o : Int} (hw : sp_wZ z) : sp_wZ (yWhere z a b k m o) := by
  unfold yWhere; split
  · exact hw
  · exact hw
end SGK4
