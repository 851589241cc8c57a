/-! LEVEL 2, calls over one bend: breaks, place, tone, where. -/
noncomputable section SGK3
variable {La : sg_L} {s : sg_M} {z : sp_Z}
abbrev sp_b2 (a b : Int) : Prop := -9999 ≤ a ∧ a ≤ 9999 ∧ -9999 ≤ b ∧ b ≤ 9999
theorem tX11_isBend {a b : Int} {Q : Int → Prop} (h : Q (if sp_b2 a b then 1 else 0)) : fX11_isBend a b Q := by
  unfold fX11_isBend
  refine ⟨fun g => ?_, fun g => ⟨fun g2 => ?_, fun g2 => ⟨fun g3 => ?_, fun g3 => ⟨fun g4 => ?_, fun g4 => ?_⟩⟩⟩⟩
  · rw [if_neg (by omega)] at h; exact h
  · rw [if_neg (by omega)] at h; exact h
  · rw [if_neg (by omega)] at h; exact h
  · rw [if_neg (by omega)] at h; exact h
  · rw [if_pos (by omega)] at h; exact h
theorem tX12_isBend {a b : Int} {Q : Int → Prop} (h : Q (if sp_b2 a b then 1 else 0)) : fX12_isBend a b Q := by
  unfold fX12_isBend
  refine tX12_isIn ?_
  split
  · rename_i g
    refine ⟨fun hh => absurd hh (by omega), fun _ => tX12_isIn ?_⟩
    split
    · rename_i g2
      rw [if_pos ⟨g.1, g.2, g2.1, g2.2⟩] at h
      exact ⟨fun hh => absurd hh (by omega), fun _ => h⟩
    · rename_i g2
      rw [if_neg (fun hh => g2 ⟨hh.2.2.1, hh.2.2.2⟩)] at h
      exact ⟨fun _ => h, fun hh => absurd rfl hh⟩
  · rename_i g
    rw [if_neg (fun hh => g ⟨hh.1, hh.2.1⟩)] at h
    exact ⟨fun _ => h, fun hh => absurd rfl hh⟩
theorem sp_RC_b {s' : sg_M} (H : sp_RC La s z) (h89 : 89 ≤ La.1) (e : ∀ c i, c < 27 ∨ (36 < c ∧ c < 40) ∨ (49 < c ∧ c < 56) ∨ 57 < c → s' c i = s c i) : sp_RC La s' z :=
  sp_RC_same H (sp_X_refl La) h89 (fun c i hr => e c i (by unfold sp_rdc at hr; omega))
theorem sp_cb_of (H : sp_RC La s z) (hw : sp_wZ z) : sp_ok (nB (zN z)) ∧ sp_cB s (s 4 0) (nB (zN z)) ∧ 0 ≤ s 4 0 ∧ (s 4 0 < 28 ∨ 36 < s 4 0) := by
  rw [sp_RC_eq] at H
  obtain ⟨-, -, ⟨⟨h1, h2⟩, -⟩, -⟩ := H
  refine ⟨hw.2.2.1.1, h2, ?_, ?_⟩
  · rcases h1.2 with h | h <;> omega
  · rcases h1.2 with h | h <;> omega
theorem sp_mT_of {f : Int → Int} {b : Int} {B : sg_M} (h : sp_mBl f b B) : sp_mB f b B (sp_mT f b 0 0) := by
  have e : sp_mT f b 0 0 = fun i => f (b + 10 + 4 * i + 1) := by funext i; unfold sp_mT; rw [if_pos rfl]
  rw [e]; exact h
theorem sp_R0_F1 {t t' : sg_M} (H : sp_R0 t z) (hF : sp_F1 t t') : sp_R0 t' z := sp_R0_same H (fun c i hr => hF c i (by unfold sp_rdm at hr; omega) (by unfold sp_rdm at hr; omega))
theorem sp_FC_F1 {s t t' : sg_M} (H : sp_FC s t) (hF : sp_F1 t t') : sp_FC s t' := fun c i h => by rw [hF c i (by omega) (by omega)]; exact H c i h
theorem sp_R0_rn {t : sg_M} (H : sp_R0 t z) (x y : Int) : sp_R0 (sg_rn t x y) z := sp_R0_same H (fun c i hr => sg_rn_rd _ _ _ _ _ (by unfold sp_rdm at hr; omega))
theorem sp_FC_rn {s t : sg_M} (H : sp_FC s t) (x y : Int) : sp_FC s (sg_rn t x y) := fun c i h => by rw [sg_rn_rd _ _ _ _ _ (by omega)]; exact H c i h
def aBreaks (z : sp_Z) (a b : Int) : Int := if sp_b2 a b then sp_bk (nB (zN z)) a b (nB (zN z) 4 0).toNat else -2
theorem k1Breaks {a b : Int} {Q : Int → sg_M → Prop} (hst : sg_St La) (h89 : 89 ≤ La.1) (hw : sp_wZ z) (H : sp_RC La s z) (h : ∀ s', sp_FM s s' → sp_RC La s' z → Q (aBreaks z a b) s') : fX11_breaks La s a b Q := by
  obtain ⟨b1, b2, b3, b4⟩ := sp_cb_of H hw
  refine tX11_isBend ?_
  unfold aBreaks at h
  split
  · rename_i g
    rw [if_pos g] at h
    refine ⟨fun _ => ⟨b3, tX0_bendTo hst b1 ⟨g.1, g.2.1⟩ ⟨g.2.2.1, g.2.2.2⟩ b4 b2 (fun t hF hbt => ?_)⟩, fun hh => absurd hh (by omega)⟩
    rw [hbt.2.2.1]
    exact h t (fun c i q1 q2 => hF c i (by omega) (by omega)) (sp_RC_b H h89 (fun c i q => hF c i (by omega) (by omega)))
  · rename_i g
    rw [if_neg g] at h
    exact ⟨fun hh => absurd rfl hh, fun _ => h s (fun _ _ _ _ => rfl) H⟩
theorem k2Breaks {a b : Int} {Q : Int → sg_M → Prop} (hw : sp_wZ z) (H : sp_RM s z) (h : ∀ s', sp_FC s s' → sp_RM s' z → Q (aBreaks z a b) s') : fX12_breaks s a b Q := by
  obtain ⟨H0, h20, F0, -⟩ := sp_go H
  intro s1 h1
  rw [← h1] at H0 F0 h20
  refine tX12_lay (tX12_isBend ?_)
  unfold aBreaks at h
  split
  · rename_i g
    rw [if_pos g] at h
    refine ⟨fun _ => tX12_layBend hw.2.2.1.1 (by omega) (by omega) ⟨g.1, g.2.1⟩ ⟨g.2.2.1, g.2.2.2⟩ (Or.inl rfl) (sp_mT_of H0.2.2.1.1) (fun t hF hbt => ?_), fun hh => absurd hh (by omega)⟩
    rw [hbt.2.2.2.1]
    exact h t (sp_FC_F1 F0 hF) (sp_RM_of (sp_R0_F1 H0 hF) (by rw [hF 64 20 (by omega) (by omega)]; exact h20))
  · rename_i g
    rw [if_neg g] at h
    exact ⟨fun hh => absurd rfl hh, fun _ => h _ F0 (sp_RM_of H0 h20)⟩
def aPlace (z : sp_Z) (a b k : Int) : Int := if sp_b2 a b then (if k = -1 then (sp_P (nB (zN z)) a b).length else sp_at (sp_P (nB (zN z)) a b) k) else -1
theorem k1Place {a b k : Int} {Q : Int → sg_M → Prop} (hst : sg_St La) (h89 : 89 ≤ La.1) (hw : sp_wZ z) (H : sp_RC La s z) (h : ∀ s', sp_FM s s' → sp_RC La s' z → Q (aPlace z a b k) s') : fX11_place La s a b k Q := by
  obtain ⟨b1, b2, b3, b4⟩ := sp_cb_of H hw
  refine tX11_isBend ?_
  unfold aPlace at h
  split
  · rename_i g
    rw [if_pos g] at h
    refine ⟨fun _ => ⟨b3, tX0_bendTo hst b1 ⟨g.1, g.2.1⟩ ⟨g.2.2.1, g.2.2.2⟩ b4 b2 (fun t hF hbt => ?_)⟩, fun hh => absurd hh (by omega)⟩
    have h := h t (fun c i q1 q2 => hF c i (by omega) (by omega)) (sp_RC_b H h89 (fun c i q => hF c i (by omega) (by omega)))
    have hr := hbt.2.2.2.2.2
    have hlen := sp_P_len b1 a b
    refine ⟨fun q => ?_, fun q => ?_⟩
    · rw [if_neg q] at h
      exact tX4_at (c := 60) (sp_ln hst 36 10060 rfl) (by omega) hr.1 (by omega) hr.2 h
    · rw [if_pos q] at h; rw [hr.1]; exact h
  · rename_i g
    rw [if_neg g] at h
    exact ⟨fun hh => absurd rfl hh, fun _ => h s (fun _ _ _ _ => rfl) H⟩
theorem k2Place {a b k : Int} {Q : Int → sg_M → Prop} (hw : sp_wZ z) (H : sp_RM s z) (h : ∀ s', sp_FC s s' → sp_RM s' z → Q (aPlace z a b k) s') : fX12_place s a b k Q := by
  obtain ⟨H0, h20, F0, -⟩ := sp_go H
  intro s1 h1
  rw [← h1] at H0 F0 h20
  refine tX12_lay (tX12_isBend ?_)
  unfold aPlace at h
  split
  · rename_i g
    rw [if_pos g] at h
    refine ⟨fun hh => absurd hh (by omega), fun _ => ⟨fun g2 => ?_, fun g2 => ?_⟩⟩
    · refine tX12_layBend hw.2.2.1.1 (by omega) (by omega) ⟨g.1, g.2.1⟩ ⟨g.2.2.1, g.2.2.2⟩ (Or.inl rfl) (sp_mT_of H0.2.2.1.1) (fun t hF hbt => ?_)
      have h := h t (sp_FC_F1 F0 hF) (sp_RM_of (sp_R0_F1 H0 hF) (by rw [hF 64 20 (by omega) (by omega)]; exact h20))
      have hlen := sp_P_len hw.2.2.1.1 a b
      have e29 := hbt.2.2.1
      have e75 := hbt.2.2.2.2.2.2
      rw [e29]
      refine ⟨fun q => ⟨fun q2 => ?_, fun q2 => ⟨by omega, ?_⟩⟩, fun q => ?_⟩
      · rw [if_neg q, sp_at_out (Or.inr q2)] at h; exact h
      · rw [if_neg q] at h; rw [sp_at_in e75 (by omega) (by omega)]; exact h
      · rw [if_pos q] at h; exact h
    · have h := h _ F0 (sp_RM_of H0 h20)
      rw [if_neg (by omega), sp_at_out (by omega)] at h; exact h
  · rename_i g
    rw [if_neg g] at h
    exact ⟨fun _ => h _ F0 (sp_RM_of H0 h20), fun hh => absurd rfl hh⟩
/-! tone -/
def zLG' (z : sp_Z) (L : Int → Int) (G : List Int) : sp_Z := (zT z, zF z, zN z, zI z, L, G, zW z, zR z, zD z, zE z, zU z)
def sp_tf (z : sp_Z) (a b k m : Int) : Int := if sp_b2 a b ∧ 0 ≤ m ∧ m ≤ 5 ∧ 0 ≤ k ∧ k < (sp_P (nB (zN z)) a b).length ∧ sp_bk (nB (zN z)) a b (nB (zN z) 4 0).toNat = -1 then sg_tn (sp_W (nB (zN z)) a b) (nB (zN z) 4 0) (sp_at (sp_P (nB (zN z)) a b) k) ((2 * m + 1) * nB (zN z) 4 1) else 0
def sp_tL (B : sg_M) (a b p f : Int) : Int → Int := fun w => if w = 0 then sg_rf1 (sp_W B a b) p f else if w = 1 then sg_rl1 (sp_W B a b) (B 4 0) p f else if w = 2 then sg_sh (sp_W B a b) (B 4 0) p f
  else if w = 3 then sg_tw p (sg_rf1 (sp_W B a b) p f) (sg_rl1 (sp_W B a b) (B 4 0) p f) (sp_P B a b) else sg_ri (sp_W B a b) (B 4 0) p f
def aTone (z : sp_Z) (a b k m : Int) : Int := if sp_tf z a b k m = 0 then -1 else sp_tf z a b k m
def yTone (z : sp_Z) (a b k m : Int) : sp_Z := if sp_tf z a b k m = 0 then z else zLG' z (sp_tL (nB (zN z)) a b (sp_at (sp_P (nB (zN z)) a b) k) (sp_tf z a b k m)) (sp_sg (sp_W (nB (zN z)) a b) (nB (zN z) 4 0) (nB (zN z) 4 1) (sp_at (sp_P (nB (zN z)) a b) k) (sp_tf z a b k m) (nB (zN z) 4 0).toNat)
theorem sp_RC_LG {s' : sg_M} {L : Int → Int} {G : List Int} (H : sp_RC La s z) (h89 : 89 ≤ La.1) (e : ∀ c i, c < 27 ∨ (49 < c ∧ c < 56) ∨ 57 < c → s' c i = s c i) (hL : sp_cL s' L) (hG : sp_rw s' 38 G) : sp_RC La s' (zLG' z L G) := by
  rw [sp_RC_eq] at H ⊢
  obtain ⟨hT, hF, hN, hI, -, -, hW, hR, hD, hE, hU, hQ, hK⟩ := H
  exact ⟨sp_kT hT (fun c i q => e c i (by omega)), by rw [e 0 16 (by omega)]; exact hF, sp_kN hN (sp_X_refl La) h89 (fun c i q => e c i (by omega)), sp_kI hI (sp_X_refl La) h89 (fun c i q => e c i (by omega)), hL, hG, by rw [e 0 17 (by omega)]; exact hW, by rw [e 0 18 (by omega)]; exact hR,
    sp_kR hD (fun c i _ _ => e c i (by omega)), sp_kR hE (fun c i _ _ => e c i (by omega)), sp_kR hU (fun c i _ _ => e c i (by omega)), sp_kQ hQ (fun c i _ _ => e c i (by omega)), sp_kK hK (fun c i _ _ => e c i (by omega))⟩
theorem sp_R0_LG {t t' : sg_M} {L : Int → Int} {G : List Int} (H : sp_R0 t z) (e : ∀ c i, (c = 64 → i < 27 ∨ 42 < i ∨ i = 38) → c ≠ 77 → c ≠ 78 → (c < 72 ∨ 76 < c) → t' c i = t c i) (hL : ∀ w, 0 ≤ w → w < 5 → t' 77 w = L w) (hG : t' 64 37 = G.length ∧ sg_ar (t' 78) 0 G) : sp_R0 t' (zLG' z L G) := by
  obtain ⟨hT, hF, hN, hI, -, -, hW, hR, hD, hE, hU⟩ := H
  exact ⟨sp_m2 hT (e 64 2 (by omega) (by omega) (by omega) (by omega)) (fun i => e 65 i (by omega) (by omega) (by omega) (by omega)), by rw [e 64 10 (by omega) (by omega) (by omega) (by omega)]; exact hF, sp_mN0 hN (fun i => e 66 i (by omega) (by omega) (by omega) (by omega)),
    sp_mI0 hI (fun i => e 71 i (by omega) (by omega) (by omega) (by omega)) (fun i => e 68 i (by omega) (by omega) (by omega) (by omega)), hL, hG, by rw [e 64 38 (by omega) (by omega) (by omega) (by omega)]; exact hW, by rw [e 64 56 (by omega) (by omega) (by omega) (by omega)]; exact hR,
    sp_m2 hD (e 64 52 (by omega) (by omega) (by omega) (by omega)) (fun i => e 84 i (by omega) (by omega) (by omega) (by omega)), sp_m2 hE (e 64 55 (by omega) (by omega) (by omega) (by omega)) (fun i => e 86 i (by omega) (by omega) (by omega) (by omega)),
    sp_m2 hU (e 64 50 (by omega) (by omega) (by omega) (by omega)) (fun i => e 83 i (by omega) (by omega) (by omega) (by omega))⟩
theorem sp_sh_B (W : Int → Int) (n p f : Int) : sg_sh W n p f = 0 ∨ sg_sh W n p f = 1 := by
  unfold sg_sh; repeat' split
  all_goals omega
theorem k1Tone {a b k m : Int} {Q : Int → sg_M → Prop} (hst : sg_St La) (h89 : 89 ≤ La.1) (hw : sp_wZ z) (H : sp_RC La s z) (h : ∀ s', sp_FM s s' → sp_RC La s' (yTone z a b k m) → Q (aTone z a b k m) s') : fX11_tone La s a b k m Q := by
  obtain ⟨b1, b2, b3, b4⟩ := sp_cb_of H hw
  refine tX11_isBend ?_
  split
  · rename_i g
    refine ⟨fun _ => ⟨b3, tX0_bendTo hst b1 ⟨g.1, g.2.1⟩ ⟨g.2.2.1, g.2.2.2⟩ b4 b2 (fun t hF hbt => ?_)⟩, fun hh => absurd hh (by omega)⟩
    have hRC : sp_RC La t z := sp_RC_b H h89 (fun c i q => hF c i (by omega) (by omega))
    have hFM : sp_FM s t := fun c i q1 q2 => hF c i (by omega) (by omega)
    refine tX0_sound hst b1 hbt (by omega) (by omega) (sp_ln hst 39 10060 rfl) (fun hn => ?_) (fun f hc hf t' hF' ht' => ?_)
    · refine ⟨fun _ => ?_, fun hh => absurd rfl hh⟩
      have e : sp_tf z a b k m = 0 := by
        unfold sp_tf; split
        · rename_i g2
          rcases Decidable.em (sg_tn (sp_W (nB (zN z)) a b) (nB (zN z) 4 0) (sp_at (sp_P (nB (zN z)) a b) k) ((2 * m + 1) * nB (zN z) 4 1) = 0) with h0 | h0
          · exact h0
          · exact absurd ⟨g2.2.1, g2.2.2.1, g2.2.2.2.1, g2.2.2.2.2.1, g2.2.2.2.2.2, h0⟩ hn
        · rfl
      unfold yTone aTone at h
      rw [if_pos e, if_pos e] at h
      exact h t hFM hRC
    · refine ⟨fun hh => absurd hh (by omega), fun _ => ?_⟩
      have e : sp_tf z a b k m = f := by
        unfold sp_tf; rw [if_pos ⟨g, hc.1, hc.2.1, hc.2.2.1, hc.2.2.2.1, hc.2.2.2.2.1⟩]; exact hf.symm
      have hf0 := hc.2.2.2.2.2
      unfold yTone aTone at h
      rw [if_neg (by rw [e]; exact hf0), if_neg (by rw [e]; exact hf0), e] at h
      obtain ⟨t1, t2, t3, t5, t6, t4, tr⟩ := ht'
      rw [t1]
      refine h t' (fun c i q1 q2 => by rw [hF' c i (by omega)]; exact hFM c i q1 q2) (sp_RC_LG H h89 (fun c i q => ?_) ?_ tr)
      · rw [hF' c i (by omega)]; exact hF c i (by omega) (by omega)
      · refine Or.inr ⟨by rw [t1]; exact hf0, t2, t3, t5, t6, t4, ?_, ?_⟩
        · exact sp_sh_B _ _ _ _
        · exact sg_tw_B _ _ _ _
  · rename_i g
    have e : sp_tf z a b k m = 0 := by unfold sp_tf; rw [if_neg (fun hh => g hh.1)]
    unfold yTone aTone at h
    rw [if_pos e, if_pos e] at h
    exact ⟨fun hh => absurd rfl hh, fun _ => h s (fun _ _ _ _ => rfl) H⟩
theorem sp_toL {B : sg_M} {a b f p : Int} {Q : Int → sg_M → Prop} {s0 : sg_M} (hok : sp_ok B) (hf0 : 0 ≤ f) (hf : f ≤ 2000) (hp0 : 0 ≤ p) (hp : p < B 4 0) (e27 : s0 64 27 = B 4 0) (e28 : s0 64 28 = B 4 1)
    (hW : ∀ i, 0 ≤ i → i < B 4 0 → s0 73 i = sp_W B a b i) (ha : s0 64 32 = sg_rf1 (sp_W B a b) p f) (hl : s0 64 33 = sg_rl1 (sp_W B a b) (B 4 0) p f)
    (h : ∀ t, (∀ c i, c ≠ 78 → t c i = s0 c i) → sg_ar (t 78) 0 (sp_sg (sp_W B a b) (B 4 0) (B 4 1) p f (B 4 0).toNat) → Q f t) :
    ∀ (r m : Nat) (t : sg_M), (m : Int) + r = B 4 0 → (∀ c i, c ≠ 78 → t c i = s0 c i) → sg_ar (t 78) 0 (sp_sg (sp_W B a b) (B 4 0) (B 4 1) p f m) → fX12_tone_L159 f Q (r + 1) t m
  | 0, m, t, hm, hF, hr => by
    rw [fX12_tone_L159]
    have e : (B 4 0).toNat = m := by omega
    rw [e] at h
    exact ⟨fun _ => h t hF hr, fun hh => absurd (show t 64 27 ≤ m by rw [hF 64 27 (by omega)]; omega) hh⟩
  | r + 1, m, t, hm, hF, hr => by
    have hn60 := hok.2.1
    rw [fX12_tone_L159, hF 64 27 (by omega), e27]
    refine ⟨fun hh => absurd hh (by omega), fun _ => ?_⟩
    refine tX12_strengthAt (W := sp_W B a b) (n := B 4 0) (p := p) (u := B 4 1) hf0 hf hn60 (fun i q1 q2 => by rw [hF 73 i (by omega)]; exact hW i q1 q2) (fun i _ _ => sp_W_rg B a b i) (by rw [hF 64 28 (by omega)]; exact e28) hok.2.2.1 hok.2.2.2.1 hp0 hp
      (by rw [hF 64 32 (by omega)]; exact ha) (by rw [hF 64 33 (by omega)]; exact hl) (by omega) ?_
    refine ⟨by omega, fun s56 h56 => ⟨by omega, ?_⟩⟩
    have ih := sp_toL hok hf0 hf hp0 hp e27 e28 hW ha hl h r (m + 1) s56 (by omega) (fun c i q => by rw [h56, sg_upN _ (by omega)]; exact hF c i q) ?_
    · rw [show ((m + 1 : Nat) : Int) = (m : Int) + 1 by omega] at ih; exact ih
    · rw [sp_sg]
      refine sg_ar_snoc _ 0 (sg_ar_congr _ 0 (fun i q1 q2 => ?_) hr) ?_
      · rw [sp_sg_len] at q2
        rw [h56, sg_upN _ (by omega)]
      · rw [sp_sg_len, Int.zero_add, h56, sg_upS]
theorem k2Tone {a b k m : Int} {Q : Int → sg_M → Prop} (hw : sp_wZ z) (H : sp_RM s z) (h : ∀ s', sp_FC s s' → sp_RM s' (yTone z a b k m) → Q (aTone z a b k m) s') : fX12_tone s a b k m Q := by
  obtain ⟨H0, h20, F0, -⟩ := sp_go H
  intro s1 h1
  rw [← h1] at H0 F0 h20
  generalize hB : nB (zN z) = B at *
  have hok : sp_ok B := by rw [← hB]; exact hw.2.2.1.1
  have no : sp_tf z a b k m = 0 → ∀ t, sp_R0 t z → t 64 20 ≠ 0 → sp_FC s t → Q (-1) t := by
    intro e t q1 q2 q3
    unfold yTone aTone at h
    rw [if_pos e, if_pos e] at h
    exact h t q3 (sp_RM_of q1 q2)
  refine tX12_lay (tX12_isBend ?_)
  split
  · rename_i g
    refine ⟨fun hh => absurd hh (by omega), fun _ => tX12_isIn ?_⟩
    split
    · rename_i gm
      refine ⟨fun hh => absurd hh (by omega), fun _ => ⟨fun gk => ?_, fun gk => ?_⟩⟩
      · refine tX12_layBend hok (by omega) (by omega) ⟨g.1, g.2.1⟩ ⟨g.2.2.1, g.2.2.2⟩ (Or.inl rfl) (sp_mT_of (by rw [← hB]; exact H0.2.2.1.1)) (fun t hF hbt => ?_)
        have hbt' := hbt
        obtain ⟨m27, m28, m29, m30, m31, mj, m75⟩ := hbt
        have HR := sp_R0_F1 H0 hF
        have HF := sp_FC_F1 F0 hF
        have H20 : t 64 20 ≠ 0 := by rw [hF 64 20 (by omega) (by omega)]; exact h20
        have hlen := sp_P_len hok a b
        rw [m29]
        refine ⟨fun gk2 => ⟨by omega, ?_⟩, fun gk2 => ?_⟩
        · have hpm := sp_at_mem (l := sp_P B a b) (i := k) gk gk2
          have hp := sp_P_mem hok hpm
          rw [sp_at_in m75 gk gk2]
          have hW : ∀ i, 0 ≤ i → i < B 4 0 → t 73 i = sp_W B a b i := fun i q1 q2 => (mj i q1 q2).2.1
          have etf : sp_tf z a b k m = if sp_bk B a b (B 4 0).toNat = -1 then sg_tn (sp_W B a b) (B 4 0) (sp_at (sp_P B a b) k) ((2 * m + 1) * B 4 1) else 0 := by
            unfold sp_tf
            rw [hB]
            by_cases hb : sp_bk B a b (B 4 0).toNat = -1
            · rw [if_pos ⟨g, gm.1, gm.2, gk, gk2, hb⟩, if_pos hb]
            · rw [if_neg (fun hh => hb hh.2.2.2.2.2), if_neg hb]
          generalize hp' : sp_at (sp_P B a b) k = p at *
          refine tX12_toneOf (W := sp_W B a b) (n := B 4 0) (u := B 4 1) hok.2.1 m27 hW (fun i _ _ => sp_W_rg B a b i) hp.1 hp.2 gm.1 gm.2 m28 hok.2.2.1 hok.2.2.2.1 ?_ ?_
          · intro hor x y
            refine ⟨fun hh => absurd rfl hh, fun _ => no ?_ _ (sp_R0_rn HR x y) (by rw [sg_rn_rd _ _ _ _ _ (by omega)]; exact H20) (sp_FC_rn HF x y)⟩
            rw [etf]
            rcases hor with hor | hor
            · rw [if_neg (by rw [← m30]; exact hor)]
            · split
              · exact hor
              · rfl
          · intro hbk htn
            have htr := sg_tn_rg (sp_W B a b) (B 4 0) p ((2 * m + 1) * B 4 1)
            rw [if_pos (by rw [← m30]; exact hbk)] at etf
            generalize hf : sg_tn (sp_W B a b) (B 4 0) p ((2 * m + 1) * B 4 1) = f at *
            have hrr := sg_rn_rg (sp_W B a b) hp.1 hp.2 f
            have h := fun s' q1 q2 => h s' q1 q2
            unfold yTone aTone at h
            rw [hB, etf, if_neg htn, if_neg htn, hp'] at h
            refine ⟨fun _ => ?_, fun hh => absurd hh (by omega)⟩
            intro s23 h23 s27 h27
            have r27 : ∀ c i, c ≠ 77 → s27 c i = sg_rn t (sg_rf1 (sp_W B a b) p f) (sg_rl1 (sp_W B a b) (B 4 0) p f) c i := fun c i q => by rw [h27, sg_upN _ (by omega), h23, sg_upN _ (by omega)]
            have v0 : s27 77 0 = sg_rf1 (sp_W B a b) p f := by rw [h27, sg_upN _ (by omega), h23, sg_upS, sg_rn_a]
            have v1 : s27 77 1 = sg_rl1 (sp_W B a b) (B 4 0) p f := by rw [h27, sg_upS, h23, sg_upN _ (by omega), sg_rn_b]
            have key : fX12_tone_j111 k f s27 Q (sg_sh (sp_W B a b) (B 4 0) p f) := by
              intro s32 h32
              have r32 : ∀ c i, c ≠ 77 → s32 c i = sg_rn t (sg_rf1 (sp_W B a b) p f) (sg_rl1 (sp_W B a b) (B 4 0) p f) c i := fun c i q => by rw [h32, sg_upN _ (by omega)]; exact r27 c i q
              have e75 : s32 75 k = p := by
                rw [r32 75 k (by omega), sg_rn_rd _ _ _ _ _ (by omega), sp_at_in m75 gk gk2]; exact hp'
              rw [e75]
              refine ⟨by omega, ?_⟩
              have key2 : fX12_tone_j135 f s32 Q (sg_tw p (sg_rf1 (sp_W B a b) p f) (sg_rl1 (sp_W B a b) (B 4 0) p f) (sp_P B a b)) := by
                intro s40 h40
                have r40 : ∀ c i, c ≠ 77 → s40 c i = sg_rn t (sg_rf1 (sp_W B a b) p f) (sg_rl1 (sp_W B a b) (B 4 0) p f) c i := fun c i q => by rw [h40, sg_upN _ (by omega)]; exact r32 c i q
                refine tX12_rings (W := sp_W B a b) (n := B 4 0) (p := p) htr.1 htr.2 hok.2.1 (by rw [r40 64 27 (by omega), sg_rn_rd _ _ _ _ _ (by omega)]; exact m27) (fun i q1 q2 => by rw [r40 73 i (by omega), sg_rn_rd _ _ _ _ _ (by omega)]; exact hW i q1 q2)
                  (fun i _ _ => sp_W_rg B a b i) hp.1 hp.2 (by rw [r40 64 32 (by omega)]; exact sg_rn_a _ _ _) (by rw [r40 64 33 (by omega)]; exact sg_rn_b _ _ _) ?_
                intro s45 h45 s48 h48
                have r48 : ∀ c i, c ≠ 77 → (c = 64 → i ≠ 37) → s48 c i = sg_rn t (sg_rf1 (sp_W B a b) p f) (sg_rl1 (sp_W B a b) (B 4 0) p f) c i := fun c i q q2 => by rw [h48, sg_upN _ (by omega), h45, sg_upN _ (by omega)]; exact r40 c i q
                have x37 : s48 64 37 = B 4 0 := by rw [h48, sg_upS, h45, sg_upN _ (by omega), r40 64 27 (by omega), sg_rn_rd _ _ _ _ _ (by omega)]; exact m27
                have hn3 := hok.1
                refine ⟨(B 4 0).toNat + 1, ?_⟩
                refine sp_toL (B := B) (a := a) (b := b) (p := p) hok htr.1 htr.2 hp.1 hp.2 (by rw [r48 64 27 (by omega) (by omega), sg_rn_rd _ _ _ _ _ (by omega)]; exact m27) (by rw [r48 64 28 (by omega) (by omega), sg_rn_rd _ _ _ _ _ (by omega)]; exact m28)
                  (fun i q1 q2 => by rw [r48 73 i (by omega) (by omega), sg_rn_rd _ _ _ _ _ (by omega)]; exact hW i q1 q2) (by rw [r48 64 32 (by omega) (by omega)]; exact sg_rn_a _ _ _) (by rw [r48 64 33 (by omega) (by omega)]; exact sg_rn_b _ _ _)
                  (fun t' hF' hr' => ?_) (B 4 0).toNat 0 s48 (by omega) (fun _ _ _ => rfl) trivial
                have rt : ∀ c i, c ≠ 77 → c ≠ 78 → (c = 64 → i ≠ 37 ∧ i ≠ 32 ∧ i ≠ 33) → t' c i = t c i := fun c i q1 q2 q3 => by
                  rw [hF' c i q2, r48 c i q1 (by omega), sg_rn_rd _ _ _ _ _ (by omega)]
                have z77 : ∀ w, 0 ≤ w → w < 5 → t' 77 w = sp_tL B a b p f w := by
                  intro w w0 w5
                  rw [hF' 77 w (by omega), h48, sg_upN _ (by omega), h45]
                  have hw5 : w = 0 ∨ w = 1 ∨ w = 2 ∨ w = 3 ∨ w = 4 := by omega
                  rcases hw5 with rfl | rfl | rfl | rfl | rfl
                  · rw [sg_upN _ (by omega), h40, sg_upN _ (by omega), h32, sg_upN _ (by omega)]; exact v0
                  · rw [sg_upN _ (by omega), h40, sg_upN _ (by omega), h32, sg_upN _ (by omega)]; exact v1
                  · rw [sg_upN _ (by omega), h40, sg_upN _ (by omega), h32, sg_upS]; rfl
                  · rw [sg_upN _ (by omega), h40, sg_upS]; rfl
                  · rw [sg_upS]; rfl
                refine h t' (fun c i q => ?_) (sp_RM_of (sp_R0_LG HR (fun c i q1 q2 q3 q4 => rt c i q2 q3 (by omega)) z77 ⟨?_, hr'⟩) ?_)
                · rw [rt c i (by omega) (by omega) (by omega)]; exact HF c i q
                · rw [hF' 64 37 (by omega), x37, sp_sg_len]; omega
                · rw [rt 64 20 (by omega) (by omega) (by omega)]; exact H20
              refine ⟨(sp_P B a b).length + 1, ?_⟩
              refine sg_twL (a := sg_rf1 (sp_W B a b) p f) (b := sg_rl1 (sp_W B a b) (B 4 0) p f) (by rw [r32 64 32 (by omega)]; exact sg_rn_a _ _ _) (by rw [r32 64 33 (by omega)]; exact sg_rn_b _ _ _) (by rw [r32 64 29 (by omega), sg_rn_rd _ _ _ _ _ (by omega), m29]; omega)
                (sp_P B a b) 0 (by omega) (by rw [r32 64 29 (by omega), sg_rn_rd _ _ _ _ _ (by omega), m29]; omega) (sg_ar_congr _ 0 (fun i q1 q2 => by rw [r32 75 i (by omega), sg_rn_rd _ _ _ _ _ (by omega)]) m75) ?_
              rcases sg_tw_B p (sg_rf1 (sp_W B a b) p f) (sg_rl1 (sp_W B a b) (B 4 0) p f) (sp_P B a b) with e0 | e1
              · rw [e0] at key2 ⊢; exact ⟨fun _ => key2, fun hh => absurd rfl hh⟩
              · rw [e1] at key2 ⊢; exact ⟨fun hh => absurd hh (by omega), fun _ => key2⟩
            refine tX12_isShut (n := B 4 0) (a := sg_rf1 (sp_W B a b) p f) (b := sg_rl1 (sp_W B a b) (B 4 0) p f) (by omega) hok.2.1 (by rw [r27 64 27 (by omega), sg_rn_rd _ _ _ _ _ (by omega)]; exact m27) (by rw [r27 64 32 (by omega)]; exact sg_rn_a _ _ _) (by rw [r27 64 33 (by omega)]; exact sg_rn_b _ _ _) ?_
            change (sg_sh (sp_W B a b) (B 4 0) p f = 0 → _) ∧ (¬ sg_sh (sp_W B a b) (B 4 0) p f = 0 → _)
            rcases sp_sh_B (sp_W B a b) (B 4 0) p f with e0 | e1
            · rw [e0] at key ⊢; exact ⟨fun _ => key, fun hh => absurd rfl hh⟩
            · rw [e1] at key ⊢; exact ⟨fun hh => absurd hh (by omega), fun _ => key⟩
        · refine no ?_ t HR H20 HF
          unfold sp_tf; rw [hB, if_neg (fun hh => gk2 hh.2.2.2.2.1)]
      · refine no ?_ _ H0 h20 F0
        unfold sp_tf; rw [if_neg (fun hh => gk hh.2.2.2.1)]
    · rename_i gm
      refine ⟨fun _ => no ?_ _ H0 h20 F0, fun hh => absurd rfl hh⟩
      unfold sp_tf; rw [if_neg (fun hh => gm ⟨hh.2.1, hh.2.2.1⟩)]
  · rename_i g
    refine ⟨fun _ => no ?_ _ H0 h20 F0, fun hh => absurd rfl hh⟩
    unfold sp_tf; rw [if_neg (fun hh => g hh.1)]
theorem wTone {a b k m : Int} (hw : sp_wZ z) : sp_wZ (yTone z a b k m) := by
  unfold yTone; split
  · exact hw
  · obtain ⟨h1, h2, h3, h4, h5, h6, h7, h8⟩ := hw
    refine ⟨h1, h2, h3, h4, ?_, h6, h7, h8⟩
    show (sp_sg _ _ _ _ _ _).length ≤ 60
    rw [sp_sg_len]
    have := h3.1.2.1
    omega
end SGK3
