/-! LEVEL 2: tokens, the reference's side. -/
noncomputable section SGTm
theorem tX12_byteAt {T : List Int} {s : sg_M} {i : Int} {Q : Int → Prop} (hN : s 64 3 = T.length) (hT : sg_ar (s 65) 0 T) (hl : T.length ≤ 540) (hi : 0 ≤ i) (h : Q (if i < T.length then sp_at T i else 0)) : fX12_byteAt s i Q := by
  unfold fX12_byteAt
  rw [hN]
  refine ⟨fun g => by rw [if_neg (by omega)] at h; exact h, fun g => ⟨by omega, ?_⟩⟩
  rw [if_pos (by omega)] at h
  rw [sp_at_in hT hi (by omega)]; exact h
theorem tX12_isLetter {c : Int} {Q : Int → Prop} (h : Q (if sp_lt c then 1 else 0)) : fX12_isLetter c Q := by
  refine ⟨fun g => ?_, fun g => ⟨fun g2 => ?_, fun g2 => ?_⟩⟩
  · rw [if_neg (by omega)] at h; exact h
  · rw [if_neg (by omega)] at h; exact h
  · rw [if_pos (by omega)] at h; exact h
theorem tX12_isDigit {c : Int} {Q : Int → Prop} (h : Q (if sp_dg c then 1 else 0)) : fX12_isDigit c Q := by
  refine ⟨fun g => ?_, fun g => ⟨fun g2 => ?_, fun g2 => ?_⟩⟩
  · rw [if_neg (by omega)] at h; exact h
  · rw [if_neg (by omega)] at h; exact h
  · rw [if_pos (by omega)] at h; exact h
theorem sp_g0L {T : List Int} {K : sg_M → Prop} {s0 : sg_M} (hl : T.length ≤ 540) (hN : s0 64 3 = T.length) (hT : sg_ar (s0 65) 0 T) {tf : Int}
    (h : ∀ t, (∀ c i, (c = 64 → i ≠ 5) → t c i = s0 c i) → t 64 5 = tf → K t) : ∀ (r : Nat) (p : Int) (t : sg_M), 0 ≤ p → p + r = T.length → sp_sk T r p = tf → (∀ c i, (c = 64 → i ≠ 5) → t c i = s0 c i) → t 64 5 = p → fX12_go_L0 K (r + 1) t
  | 0, p, t, h0, hp, hs, hF, ht => by
    rw [sp_sk] at hs
    rw [fX12_go_L0, ht, hF 64 3 (by omega), hN]
    exact ⟨fun _ => h t hF (by omega), fun hh => absurd (show (T.length : Int) ≤ p by omega) hh⟩
  | r + 1, p, t, h0, hp, hs, hF, ht => by
    rw [sp_sk] at hs
    rw [fX12_go_L0, ht, hF 64 3 (by omega), hN, hF 65 p (by omega), sp_at_in hT h0 (by omega)]
    simp only [fX12_go_j39]
    have go : (sp_at T p = 32 ∨ sp_at T p = 10) → sg_R (t 64 5 + 1) ∧ ∀ s10 : sg_M, s10 = sg_up t 64 5 (t 64 5 + 1) → fX12_go_L0 K (r + 1) s10 := fun q => by
      rw [if_pos q] at hs
      rw [ht]
      refine ⟨by omega, fun s16 h16 => ?_⟩
      exact sp_g0L hl hN hT h r (p + 1) s16 (by omega) (by omega) hs (fun c i q1 => by rw [h16, sg_upN _ (by omega)]; exact hF c i q1) (by rw [h16, sg_upS])
    refine ⟨fun hh => absurd hh (by omega), fun _ => ⟨by omega, fun q => go (Or.inl q), fun q => ⟨by omega, fun q2 => ?_, fun q2 => go (Or.inr q2)⟩⟩⟩
    rw [if_neg (by omega)] at hs
    exact h t hF (by omega)
def tq_wb (m : Nat) (w : Int) : Prop := (m ≤ 0 → w = 0) ∧ (m ≤ 1 → -48 ≤ w ∧ w ≤ 48) ∧ (m ≤ 2 → -1344 ≤ w ∧ w ≤ 1344) ∧ (m ≤ 3 → -36336 ≤ w ∧ w ≤ 36336) ∧ (m ≤ 4 → -981120 ≤ w ∧ w ≤ 981120) ∧ (m ≤ 5 → -26490288 ≤ w ∧ w ≤ 26490288) ∧ -715237824 ≤ w ∧ w ≤ 715237824
theorem tq_wb_s {m : Nat} {w b w' : Int} (h : tq_wb m w) (hb : 48 ≤ b ∧ b ≤ 122) (h1 : m < 6 → w' = 27 * w + b - 96) (h2 : 6 ≤ m → w' = w) : tq_wb (m + 1) w' := by
  obtain ⟨a0, a1, a2, a3, a4, a5, a6, a7⟩ := h
  refine ⟨fun g => by omega, fun g => ?_, fun g => ?_, fun g => ?_, fun g => ?_, fun g => ?_, ?_⟩
  · have := h1 (by omega); have := a0 (by omega); omega
  · have := h1 (by omega); have := a1 (by omega); omega
  · have := h1 (by omega); have := a2 (by omega); omega
  · have := h1 (by omega); have := a3 (by omega); omega
  · have := h1 (by omega); have := a4 (by omega); omega
  · by_cases g : m < 6
    · have := h1 g; have := a5 (by omega); omega
    · have := h2 (by omega); omega
theorem tq_wb_0 : tq_wb 0 0 := by
  refine ⟨?_, ?_, ?_, ?_, ?_, ?_, ?_⟩ <;> omega
theorem tq_wb_r {m : Nat} {w : Int} (h : tq_wb m w) (hm : m < 6) : -26490288 ≤ w ∧ w ≤ 26490288 := h.2.2.2.2.2.1 (by omega)
def tq_nb (m : Nat) (n : Int) : Prop := (m ≤ 0 → n = 0) ∧ 0 ≤ n ∧ (m ≤ 1 → n ≤ 74) ∧ (m ≤ 2 → n ≤ 814) ∧ (m ≤ 3 → n ≤ 8214) ∧ n ≤ 82214
theorem tq_nb_s {m : Nat} {n b n' : Int} (h : tq_nb m n) (hb : 48 ≤ b ∧ b ≤ 122) (h1 : m < 4 → n' = 10 * n + b - 48) (h2 : 4 ≤ m → n' = n) : tq_nb (m + 1) n' := by
  obtain ⟨a0, a1, a2, a3, a4, a5⟩ := h
  refine ⟨fun g => by omega, ?_, fun g => ?_, fun g => ?_, fun g => ?_, ?_⟩
  · by_cases g : m < 4
    · have := h1 g; omega
    · have := h2 (by omega); omega
  · have := h1 (by omega); have := a0 (by omega); omega
  · have := h1 (by omega); have := a2 (by omega); omega
  · have := h1 (by omega); have := a3 (by omega); omega
  · by_cases g : m < 4
    · have := h1 g; have := a4 (by omega); omega
    · have := h2 (by omega); omega
theorem tq_nb_0 : tq_nb 0 0 := by
  refine ⟨?_, ?_, ?_, ?_, ?_, ?_⟩ <;> omega
theorem tq_nb_r {m : Nat} {n : Int} (h : tq_nb m n) : 0 ≤ n ∧ n ≤ 82214 := ⟨h.2.1, h.2.2.2.2.2⟩
def tq_xb (u x : Int) (m : Nat) (cl : Int) : Prop := (x = 0 ∨ x = 1) ∧ (u = 1 → (x = 1 ↔ cl = m)) ∧ (u = 0 → (x = 1 ↔ cl = 0)) ∧ (0 < m → (u = 1 → 1 ≤ cl) ∧ (u = 0 → cl < m)) ∧ 0 ≤ cl ∧ cl ≤ m
theorem tq_xb_0 {u : Int} : tq_xb u 1 0 0 := by
  refine ⟨Or.inr rfl, ?_, ?_, ?_, ?_, ?_⟩ <;> omega
theorem tq_xb_s {u x y l cl : Int} {m : Nat} (h : tq_xb u x m cl) (hu : u = 0 ∨ u = 1) (hl : l = 0 ∨ l = 1) (h0 : m = 0 → l = u) (hy : y = 0 ∨ y = 1) (hyx : y = 1 ↔ x = 1 ∧ l = u) : tq_xb u y (m + 1) (cl + l) := by
  obtain ⟨b0, b1, b2, b3, b4, b5⟩ := h
  refine ⟨hy, fun g => ?_, fun g => ?_, fun _ => ⟨fun g => ?_, fun g => ?_⟩, by omega, by omega⟩
  · have := b1 g
    rw [hyx, this]; omega
  · have := b2 g
    rw [hyx, this]; omega
  · by_cases q : m = 0
    · have := h0 q; omega
    · have := (b3 (by omega)).1 g; omega
  · by_cases q : m = 0
    · have := h0 q; omega
    · have := (b3 (by omega)).2 g; omega
def sp_lf1 (b : Int) : Int := if sp_lt b then 1 else 0
theorem sp_lf1_rg (b : Int) : sp_lf1 b = 0 ∨ sp_lf1 b = 1 := by unfold sp_lf1; split <;> omega
theorem sp_al_rg {b : Int} (h : sp_al b) : 48 ≤ b ∧ b ≤ 122 := by
  rcases h with h | h
  · exact ⟨by have := h.1; omega, h.2⟩
  · exact ⟨h.1, by have := h.2; omega⟩
/-- one byte of the run -/
theorem sp_g249 {u : Int} {x : Int} {t : sg_M} {m : Nat} {f c : Int} {k : sg_M → Int → Prop} (hf : 0 ≤ f ∧ f + m < 540) (h5 : t 64 5 = f + m) (h6 : t 64 6 = f) (hc : t 65 (f + m) = c) (hal : 48 ≤ c ∧ c ≤ 122) (hx : x = 0 ∨ x = 1) (hw : tq_wb m (t 64 12)) (hn : tq_nb m (t 64 8))
    (h : ∀ y b, (y = 0 ∨ y = 1) → (y = 1 ↔ x = 1 ∧ sp_lf1 c = u) → (m < 6 → b 64 12 = 27 * t 64 12 + c - 96) → (6 ≤ m → b 64 12 = t 64 12) → (m < 4 → b 64 8 = 10 * t 64 8 + c - 48) → (4 ≤ m → b 64 8 = t 64 8) → b 64 5 = f + m + 1 → (∀ c i, (c = 64 → i ≠ 5 ∧ i ≠ 8 ∧ i ≠ 12) → b c i = t c i) → k b y) : fX12_go_j249 u t x k := by
  have hw' : m < 6 → -26490288 ≤ t 64 12 ∧ t 64 12 ≤ 26490288 := tq_wb_r hw
  have hn' := tq_nb_r hn
  clear hw hn
  have next : ∀ y, (y = 0 ∨ y = 1) → (y = 1 ↔ x = 1 ∧ sp_lf1 c = u) → fX12_go_j278 t k y := by
    intro y hy hyx
    have h := fun b => h y b hy hyx
    clear hyx hx
    unfold fX12_go_j278 fX12_go_j313 fX12_go_j343
    rw [h5, h6, hc]
    refine ⟨by omega, fun g6 => ?_, fun g6 => ⟨by have := hw' (by omega); omega, fun v68 h68 s70 h70 => ?_⟩⟩
    · refine ⟨by omega, fun g4 => ?_, fun g4 => absurd (show 4 ≤ f + (m : Int) - f by omega) g4⟩
      refine ⟨by omega, fun s54 h54 => h s54 (fun q => by omega) (fun _ => by rw [h54, sg_upN _ (by omega)]) (fun q => by omega) (fun _ => by rw [h54, sg_upN _ (by omega)]) (by rw [h54, sg_upS]) (fun c i q => by rw [h54, sg_upN _ (by omega)])⟩
    · have x5 : s70 64 5 = f + m := by rw [h70, sg_upN _ (by omega)]; exact h5
      have x6 : s70 64 6 = f := by rw [h70, sg_upN _ (by omega)]; exact h6
      have x8 : s70 64 8 = t 64 8 := by rw [h70, sg_upN _ (by omega)]
      have x12 : s70 64 12 = v68 := by rw [h70, sg_upS]
      rw [x5, x6]
      refine ⟨by omega, fun g4 => ?_, fun g4 => ⟨by rw [x8]; omega, fun v60 h60 s62 h62 => ?_⟩⟩
      · refine ⟨by omega, fun s54 h54 => h s54 (fun _ => by rw [h54, sg_upN _ (by omega), x12]; exact h68) (fun q => by omega) (fun q => by omega) (fun _ => by rw [h54, sg_upN _ (by omega)]; exact x8) (by rw [h54, sg_upS]) (fun c i q => by rw [h54, sg_upN _ (by omega), h70, sg_upN _ (by omega)])⟩
      · rw [x8] at h60
        have y5 : s62 64 5 = f + m := by rw [h62, sg_upN _ (by omega)]; exact x5
        rw [y5]
        refine ⟨by omega, fun s54 h54 => h s54 (fun _ => by rw [h54, sg_upN _ (by omega), h62, sg_upN _ (by omega), x12]; exact h68) (fun q => by omega) (fun _ => by rw [h54, sg_upN _ (by omega), h62, sg_upS]; exact h60) (fun q => by omega) (by rw [h54, sg_upS]) (fun c i q => by rw [h54, sg_upN _ (by omega), h62, sg_upN _ (by omega), h70, sg_upN _ (by omega)])⟩
  unfold fX12_go_j249 fX12_go_j277
  rw [h5, hc]
  refine ⟨by omega, fun q => next 0 (Or.inl rfl) (by omega), fun q => tX12_isLetter ⟨fun q2 => next 0 (Or.inl rfl) ?_, fun q2 => next 1 (Or.inr rfl) ?_⟩⟩
  · constructor
    · intro hh; omega
    · intro hh; exact absurd hh.2 q2
  · constructor
    · intro _; exact ⟨by omega, q2⟩
    · intro _; rfl
/-- the run of the reference -/
theorem sp_g221 {T : List Int} {K : sg_M → Int → Prop} {s0 : sg_M} {f u : Int} (hl : T.length ≤ 540) (hN : s0 64 3 = T.length) (hT : sg_ar (s0 65) 0 T) (hf : 0 ≤ f ∧ f ≤ T.length) (h6 : s0 64 6 = f) (hu : u = sp_lf1 (sp_at T f)) {e : Int}
    (h : ∀ t x (m : Nat), e = f + m → (∀ c i, (c = 64 → i ≠ 5 ∧ i ≠ 8 ∧ i ≠ 12) → t c i = s0 c i) → t 64 5 = e → tq_xb u x m (sp_cl T f m) → (m ≤ 6 → t 64 12 = sp_bw T f m) → (m ≤ 4 → t 64 8 = sp_nm T f m) → K t x) :
    ∀ (r m : Nat) (t : sg_M) (x : Int), f + m + r = T.length → sp_re T r (f + m) = e → (∀ c i, (c = 64 → i ≠ 5 ∧ i ≠ 8 ∧ i ≠ 12) → t c i = s0 c i) → t 64 5 = f + m → tq_xb u x m (sp_cl T f m) → tq_wb m (t 64 12) → (m ≤ 6 → t 64 12 = sp_bw T f m) → tq_nb m (t 64 8) → (m ≤ 4 → t 64 8 = sp_nm T f m) → fX12_go_L221 u K (r + 1) t x
  | r, m, t, x, hm, he, hF, h5, hx, hw, hbw, hn, hnm => by
    have hNt : t 64 3 = T.length := by rw [hF 64 3 (by omega)]; exact hN
    have hTt : sg_ar (t 65) 0 T := sg_ar_congr _ 0 (fun i _ _ => (hF 65 i (by omega)).symm) hT
    have h6t : t 64 6 = f := by rw [hF 64 6 (by omega)]; exact h6
    -- the run ends here
    have stop : e = f + m → K t x := fun q => h t x m q hF (by omega) hx hbw hnm
    rw [fX12_go_L221, h5]
    refine tX12_byteAt hNt hTt hl (by omega) (tX12_isLetter ?_)
    match r, hm, he with
    | 0, hm, he =>
      rw [sp_re] at he
      rw [if_neg (show ¬ f + (m : Int) < T.length by omega), if_neg (by unfold sp_lt; omega)]
      refine ⟨fun hh => absurd rfl hh, fun _ => tX12_byteAt hNt hTt hl (by omega) (tX12_isDigit ?_)⟩
      rw [if_neg (show ¬ f + (m : Int) < T.length by omega), if_neg (by unfold sp_dg; omega)]
      exact ⟨fun _ => stop (by omega), fun hh => absurd rfl hh⟩
    | r + 1, hm, he =>
      rw [sp_re] at he
      rw [if_pos (show f + (m : Int) < T.length by omega)]
      -- a step
      have step : sp_al (sp_at T (f + m)) → fX12_go_j249 u t x (fX12_go_L221 u K (r + 1)) := by
        intro hal
        rw [if_pos hal] at he
        have hc := sp_al_rg hal
        refine sp_g249 (m := m) (f := f) (c := sp_at T (f + m)) ⟨hf.1, by omega⟩ h5 h6t (sp_at_in hTt (by omega) (by omega)) hc hx.1 hw hn (fun y b hy hyx b6 b6' b4 b4' b5 bF => ?_)
        have ecl : sp_cl T f (m + 1) = sp_cl T f m + sp_lf1 (sp_at T (f + m)) := by rw [sp_cl]; unfold sp_lf1; split <;> omega
        have hxx : tq_xb u y (m + 1) (sp_cl T f (m + 1)) := by
          rw [ecl]
          refine tq_xb_s hx (by rw [hu]; exact sp_lf1_rg _) (sp_lf1_rg _) (fun q => ?_) hy hyx
          rw [hu, q, show f + ((0 : Nat) : Int) = f by omega]
        have hw2 := tq_wb_s hw hc b6 b6'
        have hn2 := tq_nb_s hn hc b4 b4'
        refine sp_g221 hl hN hT hf h6 hu h r (m + 1) b y (by omega) (by rw [show f + ((m + 1 : Nat) : Int) = f + m + 1 by omega]; exact he) (fun c i q => by rw [bF c i q]; exact hF c i q) (by rw [b5]; omega) hxx hw2 (fun q => ?_) hn2 (fun q => ?_)
        · rw [b6 (by omega), hbw (by omega), sp_bw]
        · rw [b4 (by omega), hnm (by omega), sp_nm]; omega
      split
      · rename_i g
        exact ⟨fun _ => step (Or.inl g), fun hh => absurd hh (by omega)⟩
      · rename_i g
        refine ⟨fun hh => absurd rfl hh, fun _ => tX12_byteAt hNt hTt hl (by omega) (tX12_isDigit ?_)⟩
        rw [if_pos (show f + (m : Int) < T.length by omega)]
        split
        · rename_i g2
          exact ⟨fun hh => absurd hh (by omega), fun _ => step (Or.inr g2)⟩
        · rename_i g2
          rw [if_neg (fun hh => Or.elim hh g g2)] at he
          exact ⟨fun _ => stop (by omega), fun hh => absurd rfl hh⟩
/-- the reference stands at the token behind q -/
def sp_tm (T : List Int) (lim q : Int) (s : sg_M) : Prop := s 64 3 = T.length ∧ s 64 4 = lim ∧ s 64 6 = tA T lim q ∧ s 64 7 = tK T lim q ∧ (2 ≤ tK T lim q → s 64 5 = tO T q) ∧ (tK T lim q = 3 → s 64 8 = tV T q) ∧ (tK T lim q = 4 → s 64 9 = tS T q) ∧ (tK T lim q = 2 → s 64 12 = tW T q)
theorem tX12_go {T : List Int} {lim q : Int} {Q : sg_M → Prop} {s : sg_M} (hl : T.length ≤ 540) (hb : ∀ x, x ∈ T → 0 ≤ x ∧ x ≤ 255) (hN : s 64 3 = T.length) (hT : sg_ar (s 65) 0 T) (hlim : s 64 4 = lim) (hlr : 0 ≤ lim ∧ lim ≤ 540) (hq : 0 ≤ q ∧ q ≤ T.length) (h5 : s 64 5 = q)
    (h : ∀ t, (∀ c i, (c = 64 → i < 5 ∨ 9 < i) → (c = 64 → i ≠ 12) → t c i = s c i) → sp_tm T lim q t → Q t) : fX12_go s Q := by
  have hf := tF_rg hq.2
  have he := tE_rg hq.2
  refine ⟨((T.length : Int) - q).toNat + 1, ?_⟩
  refine sp_g0L (T := T) (s0 := s) (tf := tF T q) hl hN hT (fun t0 hF0 ht0 => ?_) ((T.length : Int) - q).toNat q s hq.1 (by omega) rfl (fun _ _ _ => rfl) h5
  intro s20 h20
  have e20 : ∀ c i, (c = 64 → i ≠ 5 ∧ i ≠ 6) → s20 c i = s c i := fun c i q => by rw [h20, sg_upN _ (by omega)]; exact hF0 c i (by omega)
  have a6 : s20 64 6 = tF T q := by rw [h20, sg_upS]; exact ht0
  have a5 : s20 64 5 = tF T q := by rw [h20, sg_upN _ (by omega)]; exact ht0
  have a3 : s20 64 3 = T.length := by rw [e20 64 3 (by omega)]; exact hN
  have a4 : s20 64 4 = lim := by rw [e20 64 4 (by omega)]; exact hlim
  have hT20 : sg_ar (s20 65) 0 T := sg_ar_congr _ 0 (fun i _ _ => (e20 65 i (by omega)).symm) hT
  have hj : ¬ (lim < T.length ∧ lim ≤ tF T q) → fX12_go_j96 s20 Q := by
    intro hlm
    have eA : tA T lim q = tF T q := by unfold tA; rw [if_neg hlm]
    have eK : tK T lim q = if (T.length : Int) ≤ tF T q then 0 else if tE T q = tF T q then (if sp_sn (sp_at T (tF T q)) then 4 else 1) else if tL T q = 0 ∧ tE T q - tF T q ≤ 4 then 3 else if tL T q = tE T q - tF T q ∧ tE T q - tF T q ≤ 6 then 2 else 1 := by unfold tK; rw [if_neg hlm]
    unfold fX12_go_j96
    rw [a5, a3]
    refine ⟨fun g => ⟨by omega, ?_⟩, fun g => fun s174 h174 => ?_⟩
    · rw [if_neg (by omega)] at eK
      rw [sp_at_in hT20 (by omega) g]
      -- the run's first
      have here : sp_re T ((T.length : Int) - tF T q).toNat (tF T q) = if sp_al (sp_at T (tF T q)) then sp_re T (((T.length : Int) - tF T q).toNat - 1) (tF T q + 1) else tF T q := by
        obtain ⟨r, hr⟩ : ∃ r, ((T.length : Int) - tF T q).toNat = r + 1 := ⟨((T.length : Int) - tF T q).toNat - 1, by omega⟩
        rw [hr, sp_re, Nat.add_sub_cancel]
      have run : sp_al (sp_at T (tF T q)) → fX12_go_j204 s20 Q := by
        intro hal
        have hgt : tF T q < tE T q := by
          have k := sp_re_rg T (((T.length : Int) - tF T q).toNat - 1) (tF T q + 1)
          have : tE T q = sp_re T (((T.length : Int) - tF T q).toNat - 1) (tF T q + 1) := by unfold tE; rw [here, if_pos hal]
          omega
        have eO : tO T q = tE T q := by unfold tO; rw [if_neg (by omega)]
        rw [if_neg (by omega)] at eK
        unfold fX12_go_j204
        rw [a5, sp_at_in hT20 (by omega) g]
        refine tX12_isLetter ?_
        intro s35 h35 s37 h37
        have f37 : ∀ c i, (c = 64 → i ≠ 8 ∧ i ≠ 12) → s37 c i = s20 c i := fun c i q => by rw [h37, sg_upN _ (by omega), h35, sg_upN _ (by omega)]
        have z12 : s37 64 12 = 0 := by rw [h37, sg_upN _ (by omega), h35, sg_upS]
        have z8 : s37 64 8 = 0 := by rw [h37, sg_upS]
        refine ⟨((T.length : Int) - tF T q).toNat + 1, ?_⟩
        refine sp_g221 (T := T) (s0 := s37) (f := tF T q) (e := tE T q) hl (by rw [f37 64 3 (by omega)]; exact a3) (sg_ar_congr _ 0 (fun i _ _ => (f37 65 i (by omega)).symm) hT20) (by omega) (by rw [f37 64 6 (by omega)]; exact a6) rfl (fun t x m hem hF t5 hxb hbw0 hnm0 => ?_)
          ((T.length : Int) - tF T q).toNat 0 s37 1 (by omega) (by rw [show tF T q + ((0 : Nat) : Int) = tF T q by omega]; rfl) (fun _ _ _ => rfl) (by rw [f37 64 5 (by omega), a5]; omega) tq_xb_0 (by rw [z12]; exact tq_wb_0) (fun _ => by rw [z12]; rfl) (by rw [z8]; exact tq_nb_0) (fun _ => by rw [z8]; rfl)
        have e1 : (tE T q - tF T q).toNat = m := by omega
        have hL : sp_cl T (tF T q) m = tL T q := by unfold tL; rw [e1]
        have hbw : tE T q - tF T q ≤ 6 → t 64 12 = tW T q := fun g => by rw [hbw0 (by omega)]; unfold tW; rw [e1]
        have hnm : tE T q - tF T q ≤ 4 → t 64 8 = tV T q := fun g => by rw [hnm0 (by omega)]; unfold tV; rw [e1]
        clear hbw0 hnm0
        rw [hL] at hxb
        obtain ⟨hx, hu1, hu0, hfst, hLr⟩ := hxb
        have hfst := hfst (by omega)
        unfold sp_lf1 at hu1 hu0 hfst
        have t6 : t 64 6 = tF T q := by rw [hF 64 6 (by omega), f37 64 6 (by omega)]; exact a6
        have fin : ∀ k, k = tK T lim q → k ≠ 4 → ∀ w : sg_M, w = sg_up t 64 7 k → Q w := by
          intro k hk h4 w hw
          refine h w (fun c i q1 q2 => by rw [hw, sg_upN _ (by omega), hF c i (by omega), f37 c i (by omega)]; exact e20 c i (by omega)) ⟨?_, ?_, ?_, ?_, fun q2 => ?_, fun q3 => ?_, fun q4 => by omega, fun q5 => ?_⟩
          · rw [hw, sg_upN _ (by omega), hF 64 3 (by omega), f37 64 3 (by omega)]; exact a3
          · rw [hw, sg_upN _ (by omega), hF 64 4 (by omega), f37 64 4 (by omega)]; exact a4
          · rw [hw, sg_upN _ (by omega), eA]; exact t6
          · rw [hw, sg_upS]; exact hk
          · rw [hw, sg_upN _ (by omega), eO]; exact t5
          · have hle : tE T q - tF T q ≤ 4 := by
              rw [q3] at eK
              split at eK
              · omega
              · split at eK <;> omega
            rw [hw, sg_upN _ (by omega)]; exact hnm hle
          · have hle : tE T q - tF T q ≤ 6 := by
              rw [q5] at eK
              split at eK
              · omega
              · split at eK <;> omega
            rw [hw, sg_upN _ (by omega)]; exact hbw hle
        by_cases hlet : sp_lt (sp_at T (tF T q))
        · rw [if_pos hlet] at hu1 hfst ⊢
          have hx1 := hu1 rfl
          have hc1 := hfst.1 rfl
          rw [if_neg (by omega)] at eK
          refine ⟨fun q s85 h85 => ?_, fun q => ⟨fun hh => absurd hh (by omega), fun _ => ?_⟩⟩
          · rw [if_neg (by omega)] at eK; exact fin 1 eK.symm (by omega) s85 h85
          · unfold fX12_go_j380
            rw [t5, t6]
            refine ⟨by omega, fun q2 => ⟨fun hh => absurd hh (by omega), fun _ s94 h94 => ?_⟩, fun q2 s96 h96 => ?_⟩
            · rw [if_pos (by omega)] at eK; exact fin 2 eK.symm (by omega) s94 h94
            · rw [if_neg (by omega)] at eK; exact fin 1 eK.symm (by omega) s96 h96
        · rw [if_neg hlet] at hu0 hfst ⊢
          have hx0 := hu0 rfl
          have hc0 := hfst.2 rfl
          refine ⟨fun q s85 h85 => ?_, fun q => ⟨fun _ => ?_, fun hh => absurd rfl hh⟩⟩
          · rw [if_neg (by omega), if_neg (by omega)] at eK; exact fin 1 eK.symm (by omega) s85 h85
          · unfold fX12_go_j380
            rw [t5, t6]
            refine ⟨by omega, fun q2 => ⟨fun _ s92 h92 => ?_, fun hh => absurd rfl hh⟩, fun q2 s96 h96 => ?_⟩
            · rw [if_pos (by omega)] at eK; exact fin 3 eK.symm (by omega) s92 h92
            · rw [if_neg (by omega), if_neg (by omega)] at eK; exact fin 1 eK.symm (by omega) s96 h96
      refine tX12_isLetter ?_
      split
      · rename_i g2
        exact ⟨fun _ => run (Or.inl g2), fun hh => absurd hh (by omega)⟩
      · rename_i g2
        refine ⟨fun hh => absurd rfl hh, fun _ => tX12_isDigit ?_⟩
        split
        · rename_i g3
          exact ⟨fun _ => run (Or.inr g3), fun hh => absurd hh (by omega)⟩
        · rename_i g3
          refine ⟨fun hh => absurd rfl hh, fun _ => ?_⟩
          have eE : tE T q = tF T q := by unfold tE; rw [here, if_neg (by omega)]
          have eO : tO T q = tF T q + 1 := by unfold tO; rw [if_pos eE]
          rw [if_pos eE] at eK
          have fin : ∀ k, k = tK T lim q → (k = 4 ∨ k = 1) → ∀ a b : sg_M, a = sg_up s20 64 7 k → b = sg_up a 64 9 (sp_at T (tF T q)) → sg_R (b 64 5 + 1) ∧ ∀ w : sg_M, w = sg_up b 64 5 (b 64 5 + 1) → Q w := by
            intro k hk hk4 a b ha hb'
            have b5 : b 64 5 = tF T q := by rw [hb', sg_upN _ (by omega), ha, sg_upN _ (by omega)]; exact a5
            rw [b5]
            refine ⟨by omega, fun w hw => h w (fun c i q1 q2 => by rw [hw, sg_upN _ (by omega), hb', sg_upN _ (by omega), ha, sg_upN _ (by omega)]; exact e20 c i (by omega)) ⟨?_, ?_, ?_, ?_, fun q => ?_, fun q => by omega, fun q => ?_, fun q => by omega⟩⟩
            · rw [hw, sg_upN _ (by omega), hb', sg_upN _ (by omega), ha, sg_upN _ (by omega)]; exact a3
            · rw [hw, sg_upN _ (by omega), hb', sg_upN _ (by omega), ha, sg_upN _ (by omega)]; exact a4
            · rw [hw, sg_upN _ (by omega), hb', sg_upN _ (by omega), ha, sg_upN _ (by omega), eA]; exact a6
            · rw [hw, sg_upN _ (by omega), hb', sg_upN _ (by omega), ha, sg_upS]; exact hk
            · rw [hw, sg_upS, eO]
            · rw [hw, sg_upN _ (by omega), hb', sg_upS]; rfl
          have f4 : sp_sn (sp_at T (tF T q)) → ∀ a : sg_M, a = sg_up s20 64 7 4 → ∀ b : sg_M, b = sg_up a 64 9 (sp_at T (tF T q)) → sg_R (b 64 5 + 1) ∧ ∀ w : sg_M, w = sg_up b 64 5 (b 64 5 + 1) → Q w := fun hs a ha b hb' => by
            rw [if_pos hs] at eK; exact fin 4 eK.symm (Or.inl rfl) a b ha hb'
          refine ⟨fun q1 => f4 (Or.inl q1), fun q1 => ⟨fun q2 => f4 (by omega), fun q2 => ⟨fun q3 => f4 (by omega), fun q3 => ⟨fun q4 => f4 (by omega), fun q4 => ⟨fun q5 => f4 (by omega), fun q5 => ⟨fun q6 => f4 (by omega), fun q6 => ⟨fun q7 a ha b hb' => ?_, fun q7 => f4 (by omega)⟩⟩⟩⟩⟩⟩⟩
          rw [if_neg (by omega)] at eK
          exact fin 1 eK.symm (Or.inr rfl) a b ha hb'
    · rw [if_pos (by omega)] at eK
      refine h s174 (fun c i q1 q2 => by rw [h174, sg_upN _ (by omega)]; exact e20 c i (by omega)) ⟨?_, ?_, ?_, ?_, fun q => by omega, fun q => by omega, fun q => by omega, fun q => by omega⟩
      · rw [h174, sg_upN _ (by omega)]; exact a3
      · rw [h174, sg_upN _ (by omega)]; exact a4
      · rw [h174, sg_upN _ (by omega), eA]; exact a6
      · rw [h174, sg_upS, eK]
  rw [a3, a4, a6]
  refine ⟨fun g => hj (by omega), fun g => ⟨fun g2 => hj (by omega), fun g2 => fun s181 h181 s183 h183 => ?_⟩⟩
  have hlm : lim < T.length ∧ lim ≤ tF T q := by omega
  have eK : tK T lim q = 1 := by unfold tK; rw [if_pos hlm]
  have eA : tA T lim q = lim := by unfold tA; rw [if_pos hlm]
  refine h s183 (fun c i q1 q2 => by rw [h183, sg_upN _ (by omega), h181, sg_upN _ (by omega)]; exact e20 c i (by omega)) ⟨?_, ?_, ?_, ?_, fun q => by omega, fun q => by omega, fun q => by omega, fun q => by omega⟩
  · rw [h183, sg_upN _ (by omega), h181, sg_upN _ (by omega)]; exact a3
  · rw [h183, sg_upN _ (by omega), h181, sg_upN _ (by omega)]; exact a4
  · rw [h183, sg_upN _ (by omega), h181, sg_upS, eA]
  · rw [h183, sg_upS, eK]
end SGTm
