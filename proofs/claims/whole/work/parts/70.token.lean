/-! LEVEL 2: tokens. T the bytes, lim the limit, q the place behind the token before. -/
noncomputable section SGTk
abbrev sp_dg (c : Int) : Prop := 48 ≤ c ∧ c ≤ 57
abbrev sp_lt (c : Int) : Prop := 97 ≤ c ∧ c ≤ 122
abbrev sp_al (c : Int) : Prop := sp_lt c ∨ sp_dg c
abbrev sp_sn (c : Int) : Prop := c = 59 ∨ c = 45 ∨ c = 60 ∨ c = 61 ∨ c = 62 ∨ c = 40 ∨ c = 41
def sp_sk (T : List Int) : Nat → Int → Int
  | 0, q => q
  | r + 1, q => if sp_at T q = 32 ∨ sp_at T q = 10 then sp_sk T r (q + 1) else q
def sp_re (T : List Int) : Nat → Int → Int
  | 0, q => q
  | r + 1, q => if sp_al (sp_at T q) then sp_re T r (q + 1) else q
/-- how many letters among the first m from f on -/
def sp_cl (T : List Int) (f : Int) : Nat → Int
  | 0 => 0
  | m + 1 => if sp_lt (sp_at T (f + m)) then sp_cl T f m + 1 else sp_cl T f m
/-- the number that the first m say -/
def sp_nm (T : List Int) (f : Int) : Nat → Int
  | 0 => 0
  | m + 1 => sp_nm T f m * 10 + sp_at T (f + m) - 48
/-- the word that the first m say -/
def sp_bw (T : List Int) (f : Int) : Nat → Int
  | 0 => 0
  | m + 1 => 27 * sp_bw T f m + sp_at T (f + m) - 96
/-- the first that is no blank, the end of the run there -/
def tF (T : List Int) (q : Int) : Int := sp_sk T ((T.length : Int) - q).toNat q
def tE (T : List Int) (q : Int) : Int := sp_re T ((T.length : Int) - tF T q).toNat (tF T q)
def tL (T : List Int) (q : Int) : Int := sp_cl T (tF T q) (tE T q - tF T q).toNat
/-- where the token begins; 0 end, 1 none, 2 word, 3 number, 4 sign; behind it; its number -/
def tA (T : List Int) (lim q : Int) : Int := if lim < T.length ∧ lim ≤ tF T q then lim else tF T q
def tK (T : List Int) (lim q : Int) : Int := if lim < T.length ∧ lim ≤ tF T q then 1 else if (T.length : Int) ≤ tF T q then 0 else if tE T q = tF T q then (if sp_sn (sp_at T (tF T q)) then 4 else 1)
  else if tL T q = 0 ∧ tE T q - tF T q ≤ 4 then 3 else if tL T q = tE T q - tF T q ∧ tE T q - tF T q ≤ 6 then 2 else 1
def tO (T : List Int) (q : Int) : Int := if tE T q = tF T q then tF T q + 1 else tE T q
def tV (T : List Int) (q : Int) : Int := sp_nm T (tF T q) (tE T q - tF T q).toNat
def tS (T : List Int) (q : Int) : Int := sp_at T (tF T q)
def tW (T : List Int) (q : Int) : Int := sp_bw T (tF T q) (tE T q - tF T q).toNat
theorem sp_sk_rg (T : List Int) : ∀ (r : Nat) (q : Int), q ≤ sp_sk T r q ∧ sp_sk T r q ≤ q + r
  | 0, q => by simp only [sp_sk]; omega
  | r + 1, q => by
    have := sp_sk_rg T r (q + 1)
    rw [sp_sk]; split <;> omega
theorem sp_re_rg (T : List Int) : ∀ (r : Nat) (q : Int), q ≤ sp_re T r q ∧ sp_re T r q ≤ q + r
  | 0, q => by simp only [sp_re]; omega
  | r + 1, q => by
    have := sp_re_rg T r (q + 1)
    rw [sp_re]; split <;> omega
theorem tF_rg {T : List Int} {q : Int} (h1 : q ≤ T.length) : q ≤ tF T q ∧ tF T q ≤ T.length := by
  have := sp_sk_rg T ((T.length : Int) - q).toNat q
  unfold tF; omega
theorem tE_rg {T : List Int} {q : Int} (h1 : q ≤ T.length) : tF T q ≤ tE T q ∧ tE T q ≤ T.length := by
  have h := tF_rg h1
  have := sp_re_rg T ((T.length : Int) - tF T q).toNat (tF T q)
  unfold tE; omega
theorem sp_cl_rg (T : List Int) (f : Int) : ∀ m : Nat, 0 ≤ sp_cl T f m ∧ sp_cl T f m ≤ m
  | 0 => by simp [sp_cl]
  | m + 1 => by
    have := sp_cl_rg T f m
    rw [sp_cl]; split <;> omega
/-- within a run all are letters or digits -/
theorem sp_re_al (T : List Int) : ∀ (r : Nat) (q : Int) (i : Int), q ≤ i → i < sp_re T r q → sp_al (sp_at T i)
  | 0, q, i, h1, h2 => by simp only [sp_re] at h2; omega
  | r + 1, q, i, h1, h2 => by
    rw [sp_re] at h2
    split at h2
    · rename_i g
      by_cases hi : i = q
      · rw [hi]; exact g
      · exact sp_re_al T r (q + 1) i (by omega) h2
    · omega
/-- the skip of the class, which stops at the limit -/
theorem tX9_a8 {T : List Int} {lim : Int} {K : sg_M → Prop} {s0 : sg_M} (hl : T.length ≤ 540) (hT : s0 1 1 = T.length ∧ sg_ar (s0 2) 0 T) (hlim : s0 3 1 = lim) {tf : Int}
    (h : ∀ p, (p = tf ∨ (lim ≤ p ∧ p ≤ tf)) → ∀ t, (∀ c i, (c = 3 → i ≠ 3) → t c i = s0 c i) → t 3 3 = p → K t) : ∀ (r : Nat) (p : Int) (t : sg_M), 0 ≤ p → p + r = T.length → sp_sk T r p = tf → (∀ c i, (c = 3 → i ≠ 3) → t c i = s0 c i) → t 3 3 = p → fX9_advance_L8 K (r + 1) t
  | 0, p, t, h0, hp, hs, hF, ht => by
    rw [sp_sk] at hs
    have hTt : t 1 1 = T.length ∧ sg_ar (t 2) 0 T := sp_kT hT (fun c i q => hF c i (by omega))
    have hk := h p (Or.inl hs) t hF ht
    rw [fX9_advance_L8, ht, hF 3 1 (by omega), hlim]
    refine ⟨fun _ => hk, fun _ => tX8_byteAt hTt hl ?_⟩
    rw [sp_at_out (by omega)]
    exact ⟨fun hh => absurd hh (by omega), fun _ => ⟨fun _ => ⟨fun _ => hk, fun hh => absurd rfl hh⟩, fun hh => absurd hh (by omega)⟩⟩
  | r + 1, p, t, h0, hp, hs, hF, ht => by
    have hsk := sp_sk_rg T (r + 1) p
    rw [sp_sk] at hs
    have hTt : t 1 1 = T.length ∧ sg_ar (t 2) 0 T := sp_kT hT (fun c i q => hF c i (by omega))
    rw [fX9_advance_L8, ht, hF 3 1 (by omega), hlim]
    refine ⟨fun g => h p (Or.inr ⟨g, ?_⟩) t hF ht, fun g => tX8_byteAt hTt hl ?_⟩
    · have := sp_sk_rg T (r + 1) p
      rw [sp_sk, hs] at this; omega
    · have go : (sp_at T p = 32 ∨ sp_at T p = 10) → sg_R (p + 1) ∧ ∀ s16 : sg_M, s16 = sg_up t 3 3 (p + 1) → fX9_advance_L8 K (r + 1) s16 := fun q => by
        rw [if_pos q] at hs
        refine ⟨by omega, fun s16 h16 => ?_⟩
        exact tX9_a8 hl hT hlim h r (p + 1) s16 (by omega) (by omega) hs (fun c i q1 => by rw [h16, sg_upN _ (by omega)]; exact hF c i q1) (by rw [h16, sg_upS])
      refine ⟨fun q => ⟨fun hh => absurd hh (by omega), fun _ => go (Or.inl q)⟩, fun q => ⟨fun q2 => ⟨fun _ => ?_, fun hh => absurd rfl hh⟩, fun q2 => ⟨fun hh => absurd hh (by omega), fun _ => go (Or.inr q2)⟩⟩⟩
      rw [if_neg (by omega)] at hs
      exact h p (Or.inl hs) t hF ht
theorem tX9_isOfRun {c : Int} {Q : Int → Prop} (h : Q (if sp_al c then 1 else 0)) : fX9_isOfRun c Q := by
  have hj : (¬ sp_lt c) → fX9_isOfRun_j12 c Q := fun g => by
    refine ⟨fun q => ?_, fun q => ⟨fun q2 => ?_, fun q2 => ?_⟩⟩
    · rw [if_neg (by omega)] at h; exact h
    · rw [if_neg (by omega)] at h; exact h
    · rw [if_pos (by omega)] at h; exact h
  refine ⟨fun g => hj (by omega), fun g => ⟨fun g2 => ?_, fun g2 => hj (by omega)⟩⟩
  rw [if_pos (by omega)] at h; exact h
/-- the run of the class: letters, digits, the number so far -/
theorem tX9_a66 {T : List Int} {K : sg_M → Int → Int → Prop} {s0 : sg_M} {f : Int} (hl : T.length ≤ 540) (hb : ∀ x, x ∈ T → 0 ≤ x ∧ x ≤ 255) (hT : s0 1 1 = T.length ∧ sg_ar (s0 2) 0 T) (hf : 0 ≤ f ∧ f ≤ T.length) {e : Int}
    (h : ∀ t x1 x2, (∀ c i, (c = 3 → i ≠ 4 ∧ i ≠ 5) → t c i = s0 c i) → t 3 4 = e → x1 = sp_cl T f (e - f).toNat → x1 + x2 = e - f → (x1 = 0 → e - f ≤ 4 → t 3 5 = sp_nm T f (e - f).toNat) → K t x1 x2) :
    ∀ (r m : Nat) (t : sg_M) (x1 x2 : Int), f + m + r = T.length → sp_re T r (f + m) = e → (∀ c i, (c = 3 → i ≠ 4 ∧ i ≠ 5) → t c i = s0 c i) → t 3 4 = f + m → x1 = sp_cl T f m → x1 + x2 = m → (0 ≤ t 3 5 ∧ (x2 ≤ 0 → t 3 5 ≤ 0) ∧ (x2 ≤ 1 → t 3 5 ≤ 9) ∧ (x2 ≤ 2 → t 3 5 ≤ 99) ∧ (x2 ≤ 3 → t 3 5 ≤ 999) ∧ t 3 5 ≤ 9999) → (x1 = 0 → m ≤ 4 → t 3 5 = sp_nm T f m) → fX9_advance_L66 K (r + 1) t x1 x2
  | 0, m, t, x1, x2, hm, he, hF, h34, hx1, hx, hv, hn => by
    rw [sp_re] at he
    have e1 : (e - f).toNat = m := by omega
    rw [fX9_advance_L66, h34, hF 1 1 (by omega), hT.1]
    exact ⟨fun _ => h t x1 x2 hF (by omega) (by rw [e1]; exact hx1) (by omega) (fun q1 q2 => by rw [e1]; exact hn q1 (by omega)), fun hh => absurd (show (T.length : Int) ≤ f + m by omega) hh⟩
  | r + 1, m, t, x1, x2, hm, he, hF, h34, hx1, hx, hv, hn => by
    rw [sp_re] at he
    have hTt : t 1 1 = T.length ∧ sg_ar (t 2) 0 T := sp_kT hT (fun c i q => hF c i (by omega))
    have hcl := sp_cl_rg T f m
    have hby := sp_at_b0 hb (i := f + m) (by omega) (by omega)
    rw [fX9_advance_L66, h34, hTt.1]
    simp only [fX9_advance_j149, fX9_advance_j152]
    refine ⟨fun hh => absurd hh (by omega), fun _ => tX8_byteAt hTt hl (tX9_isOfRun ?_)⟩
    split
    · rename_i g
      rw [if_pos g] at he
      refine ⟨fun hh => absurd hh (by omega), fun _ => tX8_byteAt hTt hl ?_⟩
      have ecl : sp_cl T f (m + 1) = if sp_lt (sp_at T (f + m)) then sp_cl T f m + 1 else sp_cl T f m := by rw [sp_cl]
      have enm : sp_nm T f (m + 1) = sp_nm T f m * 10 + sp_at T (f + m) - 48 := by rw [sp_nm]
      refine ⟨fun g2 => ⟨by omega, fun g3 => ?_, fun g3 => ⟨by omega, ?_⟩⟩, fun g2 => ⟨by omega, by omega, fun s41 h41 => ?_⟩⟩
      · intro s44 h44
        have e44 : s44 3 4 = f + m := by rw [h44, sg_upN _ (by omega)]; exact h34
        rw [e44]
        refine ⟨by omega, by omega, fun s41 h41 => ?_⟩
        have v41 : s41 3 5 = t 3 5 := by rw [h41, sg_upN _ (by omega), h44, sg_upS]
        refine tX9_a66 hl hb hT hf h r (m + 1) s41 x1 (x2 + 1) (by omega) (by rw [show f + ((m + 1 : Nat) : Int) = f + m + 1 by omega]; exact he) (fun c i q => by rw [h41, sg_upN _ (by omega), h44, sg_upN _ (by omega)]; exact hF c i q) (by rw [h41, sg_upS]; omega) (by rw [ecl, if_neg (by omega)]; exact hx1) (by omega) (by rw [v41]; omega) (fun q1 q2 => by omega)
      · intro s44 h44
        have e44 : s44 3 4 = f + m := by rw [h44, sg_upN _ (by omega)]; exact h34
        rw [e44]
        refine ⟨by omega, by omega, fun s41 h41 => ?_⟩
        have v41 : s41 3 5 = t 3 5 * 10 + sp_at T (f + m) - 48 := by rw [h41, sg_upN _ (by omega), h44, sg_upS]
        refine tX9_a66 hl hb hT hf h r (m + 1) s41 x1 (x2 + 1) (by omega) (by rw [show f + ((m + 1 : Nat) : Int) = f + m + 1 by omega]; exact he) (fun c i q => by rw [h41, sg_upN _ (by omega), h44, sg_upN _ (by omega)]; exact hF c i q) (by rw [h41, sg_upS]; omega) (by rw [ecl, if_neg (by omega)]; exact hx1) (by omega) (by rw [v41]; omega) (fun q1 q2 => by rw [v41, enm, hn q1 (by omega)])
      · have v41 : s41 3 5 = t 3 5 := by rw [h41, sg_upN _ (by omega)]
        refine tX9_a66 hl hb hT hf h r (m + 1) s41 (x1 + 1) x2 (by omega) (by rw [show f + ((m + 1 : Nat) : Int) = f + m + 1 by omega]; exact he) (fun c i q => by rw [h41, sg_upN _ (by omega)]; exact hF c i q) (by rw [h41, sg_upS]; omega) (by rw [ecl, if_pos (by omega)]; omega) (by omega) (by rw [v41]; omega) (fun q1 q2 => by omega)
    · rename_i g
      rw [if_neg g] at he
      have e1 : (e - f).toNat = m := by omega
      exact ⟨fun _ => h t x1 x2 hF (by omega) (by rw [e1]; exact hx1) (by omega) (fun q1 q2 => by rw [e1]; exact hn q1 (by omega)), fun hh => absurd rfl hh⟩
/-- the class's name of a kind -/
def sp_kc2 (k : Int) : Int := if k = 0 then 0 else if k = 2 then 1 else if k = 3 then 2 else if k = 4 then 3 else 4
/-- the class stands at the token behind q -/
def sp_tc (T : List Int) (lim q : Int) (s : sg_M) : Prop := s 3 1 = lim ∧ s 3 3 = tA T lim q ∧ s 3 2 = sp_kc2 (tK T lim q) ∧ (2 ≤ tK T lim q → s 3 4 = tO T q) ∧ (tK T lim q = 3 → s 3 5 = tV T q) ∧ (tK T lim q = 4 → s 3 5 = tS T q)
theorem tX9_advance {T : List Int} {lim q : Int} {Q : sg_M → Prop} {s : sg_M} (hl : T.length ≤ 540) (hb : ∀ x, x ∈ T → 0 ≤ x ∧ x ≤ 255) (hT : s 1 1 = T.length ∧ sg_ar (s 2) 0 T) (hlim : s 3 1 = lim) (hlr : 0 ≤ lim ∧ lim ≤ 540) (hq : 0 ≤ q ∧ q ≤ T.length) (h34 : s 3 4 = q)
    (h : ∀ t, (∀ c i, (c = 3 → i < 2 ∨ 5 < i) → t c i = s c i) → sp_tc T lim q t → Q t) : fX9_advance s Q := by
  have hf := tF_rg hq.2
  have he := tE_rg hq.2
  intro s2 h2
  have e2 : ∀ c i, (c = 3 → i ≠ 3) → s2 c i = s c i := fun c i q => by rw [h2, sg_upN _ (by omega)]
  refine ⟨((T.length : Int) - q).toNat + 1, ?_⟩
  refine tX9_a8 (T := T) (lim := lim) (s0 := s) (tf := tF T q) hl hT hlim (fun p hp t ht ht3 => ?_) ((T.length : Int) - q).toNat q s2 hq.1 (by omega) rfl e2 (by rw [h2, sg_upS]; exact h34)
  intro s19 h19 s22 h22
  have e22 : ∀ c i, (c = 3 → i < 3 ∨ 5 < i) → s22 c i = s c i := fun c i q => by rw [h22, sg_upN _ (by omega), h19, sg_upN _ (by omega)]; exact ht c i (by omega)
  have a3 : s22 3 3 = p := by rw [h22, sg_upN _ (by omega), h19, sg_upN _ (by omega)]; exact ht3
  have a4 : s22 3 4 = p := by rw [h22, sg_upS, h19, sg_upN _ (by omega)]; exact ht3
  have a5 : s22 3 5 = 0 := by rw [h22, sg_upN _ (by omega), h19, sg_upS]
  have hp2 : 0 ≤ p ∧ p ≤ T.length := by omega
  have hT22 : s22 1 1 = T.length ∧ sg_ar (s22 2) 0 T := sp_kT hT (fun c i q => e22 c i (by omega))
  refine ⟨((T.length : Int) - p).toNat + 1, ?_⟩
  refine tX9_a66 (T := T) (s0 := s22) (f := p) (e := sp_re T ((T.length : Int) - p).toNat p) hl hb hT22 hp2 (fun u x1 x2 hF u4 hx1 hx hn => ?_) ((T.length : Int) - p).toNat 0 s22 0 0 (by omega) (by rw [show p + ((0 : Nat) : Int) = p by omega]) (fun _ _ _ => rfl) (by omega) rfl rfl (by omega) (fun _ _ => by rw [a5]; rfl)
  have u3 : u 3 3 = p := by rw [hF 3 3 (by omega)]; exact a3
  have ul : u 3 1 = lim := by rw [hF 3 1 (by omega), e22 3 1 (by omega)]; exact hlim
  have uF : ∀ c i, (c = 3 → i < 2 ∨ 5 < i) → u c i = s c i := fun c i q => by rw [hF c i (by omega)]; exact e22 c i (by omega)
  have uN : u 1 1 = T.length := by rw [uF 1 1 (by omega)]; exact hT.1
  rw [u3, ul, uN]
  -- behind the limit there is no token
  have hj : ¬ (lim < T.length ∧ lim ≤ tF T q) → fX9_advance_j206 u x1 x2 Q := by
    intro hlm
    have ep : p = tF T q := by omega
    subst ep
    have hTu : u 1 1 = T.length ∧ sg_ar (u 2) 0 T := sp_kT hT (fun c i q => uF c i (by omega))
    have eA : tA T lim q = tF T q := by unfold tA; rw [if_neg hlm]
    have eK : tK T lim q = if (T.length : Int) ≤ tF T q then 0 else if tE T q = tF T q then (if sp_sn (sp_at T (tF T q)) then 4 else 1) else if tL T q = 0 ∧ tE T q - tF T q ≤ 4 then 3 else if tL T q = tE T q - tF T q ∧ tE T q - tF T q ≤ 6 then 2 else 1 := by unfold tK; rw [if_neg hlm]
    change u 3 4 = tE T q at u4
    change x1 = tL T q at hx1
    change x1 + x2 = tE T q - tF T q at hx
    have hn' : x1 = 0 → tE T q - tF T q ≤ 4 → u 3 5 = tV T q := hn
    unfold fX9_advance_j206
    rw [u3, uN, u4]
    refine ⟨fun g => ⟨fun g2 => ?_, fun g2 => ?_⟩, fun g => ?_⟩
    · have eE : tE T q = tF T q := by omega
      have eO : tO T q = tF T q + 1 := by unfold tO; rw [if_pos eE]
      rw [if_neg (by omega), if_pos eE] at eK
      refine tX8_byteAt hTu hl ?_
      intro s67 h67
      have v5 : s67 3 5 = sp_at T (tF T q) := by rw [h67, sg_upS]
      rw [v5]
      have sig : ∀ (y : Int), y = (if sp_sn (sp_at T (tF T q)) then 1 else 0) → (y = 0 → ∀ s73 : sg_M, s73 = sg_up s67 3 2 4 → sg_R ((s73 3 3) + 1) ∧ ∀ s77 : sg_M, s77 = sg_up s73 3 4 ((s73 3 3) + 1) → Q s77) ∧ (¬ (y = 0) → ∀ s79 : sg_M, s79 = sg_up s67 3 2 3 → sg_R ((s79 3 3) + 1) ∧ ∀ s83 : sg_M, s83 = sg_up s79 3 4 ((s79 3 3) + 1) → Q s83) := by
        intro y hy
        have fin : ∀ (kc : Int) (a b : sg_M), a = sg_up s67 3 2 kc → b = sg_up a 3 4 (a 3 3 + 1) → kc = sp_kc2 (tK T lim q) → (tK T lim q = 4 ∨ tK T lim q = 1) → sg_R (a 3 3 + 1) ∧ Q b := by
          intro kc a b ha hb' hkc hk
          have a33 : a 3 3 = tF T q := by rw [ha, sg_upN _ (by omega), h67, sg_upN _ (by omega)]; exact u3
          refine ⟨by omega, h b (fun c i q => ?_) ⟨?_, ?_, ?_, fun q => ?_, fun q => by omega, fun q => ?_⟩⟩
          · rw [hb', sg_upN _ (by omega), ha, sg_upN _ (by omega), h67, sg_upN _ (by omega)]; exact uF c i q
          · rw [hb', sg_upN _ (by omega), ha, sg_upN _ (by omega), h67, sg_upN _ (by omega)]; exact ul
          · rw [hb', sg_upN _ (by omega), a33, eA]
          · rw [hb', sg_upN _ (by omega), ha, sg_upS]; exact hkc
          · rw [hb', sg_upS, a33, eO]
          · rw [hb', sg_upN _ (by omega), ha, sg_upN _ (by omega)]; exact v5
        refine ⟨fun hy0 s73 h73 => ?_, fun hy0 s79 h79 => ?_⟩
        · have hns : ¬ sp_sn (sp_at T (tF T q)) := fun hs => by rw [if_pos hs] at hy; omega
          rw [if_neg hns] at eK
          have k := fin 4 s73 _ h73 rfl (by rw [eK]; rfl) (Or.inr eK)
          exact ⟨k.1, fun s77 h77 => by rw [h77]; exact k.2⟩
        · have hs : sp_sn (sp_at T (tF T q)) := Decidable.byContradiction fun hs => by rw [if_neg hs] at hy; omega
          rw [if_pos hs] at eK
          have k := fin 3 s79 _ h79 rfl (by rw [eK]; rfl) (Or.inl eK)
          exact ⟨k.1, fun s83 h83 => by rw [h83]; exact k.2⟩
      have y1 := fun hs => sig 1 (by rw [if_pos hs])
      have y0 := fun hs => sig 0 (by rw [if_neg hs])
      have hj24 : ¬ (sp_at T (tF T q) = 59 ∨ sp_at T (tF T q) = 45 ∨ (60 ≤ sp_at T (tF T q) ∧ sp_at T (tF T q) ≤ 62)) → fX9_isSignByte_j24 (sp_at T (tF T q)) (fun y => (y = 0 → ∀ s73 : sg_M, s73 = sg_up s67 3 2 4 → sg_R ((s73 3 3) + 1) ∧ ∀ s77 : sg_M, s77 = sg_up s73 3 4 ((s73 3 3) + 1) → Q s77) ∧ (¬ (y = 0) → ∀ s79 : sg_M, s79 = sg_up s67 3 2 3 → sg_R ((s79 3 3) + 1) ∧ ∀ s83 : sg_M, s83 = sg_up s79 3 4 ((s79 3 3) + 1) → Q s83)) := fun hh =>
        ⟨fun a => y1 (by omega), fun a => ⟨fun b => y0 (by omega), fun b => y1 (by omega)⟩⟩
      exact ⟨fun a => y1 (by omega), fun a => ⟨fun b => y1 (by omega), fun b => ⟨fun c => hj24 (by omega), fun c => ⟨fun d => y1 (by omega), fun d => hj24 (by omega)⟩⟩⟩⟩
    · have eO : tO T q = tE T q := by unfold tO; rw [if_neg (by omega)]
      rw [if_neg (by omega), if_neg (by omega)] at eK
      have fin : ∀ kc, kc = sp_kc2 (tK T lim q) → (tK T lim q = 3 → x1 = 0 ∧ tE T q - tF T q ≤ 4) → tK T lim q ≠ 4 → ∀ s87 : sg_M, s87 = sg_up u 3 2 kc → Q s87 := by
        intro kc hkc h3 h4 s87 h87
        refine h s87 (fun c i q => by rw [h87, sg_upN _ (by omega)]; exact uF c i q) ⟨by rw [h87, sg_upN _ (by omega)]; exact ul, by rw [h87, sg_upN _ (by omega), eA]; exact u3, by rw [h87, sg_upS]; exact hkc, fun _ => by rw [h87, sg_upN _ (by omega), eO]; exact u4, fun q => ?_, fun q => absurd q h4⟩
        rw [h87, sg_upN _ (by omega)]; exact hn' (h3 q).1 (h3 q).2
      have hcl := sp_cl_rg T (tF T q) (tE T q - tF T q).toNat
      have hL : 0 ≤ tL T q ∧ tL T q ≤ tE T q - tF T q := by unfold tL; omega
      have hj11 : ¬ (x1 = 0 ∧ x2 ≤ 4) → fX9_kindOfRun_j11 x1 x2 (fun u85 => ∀ s87 : sg_M, s87 = sg_up u 3 2 u85 → Q s87) := fun hh => by
        rw [if_neg (by omega)] at eK
        refine ⟨fun a => ?_, fun a => ⟨fun b => ?_, fun b => ?_⟩⟩
        · rw [if_neg (by omega)] at eK
          exact fin 4 (by rw [eK]; rfl) (fun q => by omega) (by omega)
        · rw [if_neg (by omega)] at eK
          exact fin 4 (by rw [eK]; rfl) (fun q => by omega) (by omega)
        · rw [if_pos (by omega)] at eK
          exact fin 1 (by rw [eK]; rfl) (fun q => by omega) (by omega)
      refine ⟨fun a => hj11 (by omega), fun a => ⟨fun b => hj11 (by omega), fun b => ?_⟩⟩
      rw [if_pos (by omega)] at eK
      exact fin 2 (by rw [eK]; rfl) (fun q => by omega) (by omega)
    · intro s91 h91 s93 h93
      rw [if_pos (by omega)] at eK
      refine h s93 (fun c i q => by rw [h93, sg_upN _ (by omega), h91, sg_upN _ (by omega)]; exact uF c i q) ⟨by rw [h93, sg_upN _ (by omega), h91, sg_upN _ (by omega)]; exact ul, by rw [h93, sg_upN _ (by omega), h91, sg_upS, eA]; omega, by rw [h93, sg_upS, eK]; rfl, fun q => by omega, fun q => by omega, fun q => by omega⟩
  refine ⟨fun g => hj (by omega), fun g => ⟨fun g2 => hj (by omega), fun g2 => fun s101 h101 s103 h103 => ?_⟩⟩
  have hlm : lim < T.length ∧ lim ≤ tF T q := by omega
  have eK : tK T lim q = 1 := by unfold tK; rw [if_pos hlm]
  have eA : tA T lim q = lim := by unfold tA; rw [if_pos hlm]
  refine h s103 (fun c i q => by rw [h103, sg_upN _ (by omega), h101, sg_upN _ (by omega)]; exact uF c i q) ⟨by rw [h103, sg_upN _ (by omega), h101, sg_upN _ (by omega)]; exact ul, by rw [h103, sg_upN _ (by omega), h101, sg_upS, eA], by rw [h103, sg_upS, eK]; rfl, fun q => by omega, fun q => by omega, fun q => by omega⟩
end SGTk
