/-! LEVEL 2, the class's rows, isTwice, bendTo, listen. -/
noncomputable section SGCc
theorem sp_ln {La : sg_L} (hst : sg_St La) (k kd : Nat) (hk : sg_layL[k]? = some kd) : sg_ln La (k : Int) = (kd : Int) - 10000 := by
  unfold sg_ln; rw [Int.toNat_natCast, (hst k kd hk).2]
theorem tX4_at {La : sg_L} {s : sg_M} {o i c : Int} {l : List Int} {Q : Int → Prop} (hc : sg_ln La (o + 1) = c) (hc1 : c ≤ 100000) (hs : s o 1 = l.length) (hl : (l.length : Int) ≤ c) (ha : sg_ar (s (o + 1)) 0 l) (h : Q (sp_at l i)) : fX4_at La s o i Q := by
  unfold fX4_at
  rw [hc, hs]
  refine ⟨fun g => ?_, fun g => ⟨fun g2 => ?_, fun g2 => ⟨by omega, fun g3 => ⟨by omega, ?_⟩, fun g3 => absurd g3 (by omega)⟩⟩⟩
  · rw [sp_at_out (Or.inl g)] at h; exact h
  · rw [sp_at_out (Or.inr g2)] at h; exact h
  · rw [sp_at_in ha (by omega) (by omega)]; exact h
theorem tX4_clear {s : sg_M} {o : Int} {Q : sg_M → Prop} (h : Q (sg_up s o 1 0)) : fX4_clear s o Q := by
  intro s1 h1; rw [h1]; exact h
theorem tX4_add {La : sg_L} {s : sg_M} {o x c : Int} {Q : sg_M → Prop} (hc : sg_ln La (o + 1) = c) (hc1 : c ≤ 100000) (h0 : 0 ≤ s o 1) (h1 : s o 1 < c) (h : Q (sg_up (sg_up s (o + 1) (s o 1) x) o 1 (s o 1 + 1))) : fX4_add La s o x Q := by
  unfold fX4_add
  rw [hc]
  refine ⟨fun g => absurd g (by omega), fun _ => ⟨by omega, fun g => absurd g (by omega), fun _ => ⟨by omega, fun s10 h10 => ?_⟩⟩⟩
  have e : s10 o 1 = s o 1 := by rw [h10, sg_upN _ (by omega)]
  rw [e]
  refine ⟨by omega, fun s14 h14 => ?_⟩
  rw [h14, h10]; exact h
/-- a row of the class: how many, and the items in the array behind it -/
def sp_rw (s : sg_M) (o : Int) (l : List Int) : Prop := s o 1 = l.length ∧ sg_ar (s (o + 1)) 0 l
theorem sp_rw_same {s t : sg_M} {o : Int} {l : List Int} (h : sp_rw s o l) (h1 : t o 1 = s o 1) (h2 : ∀ i, t (o + 1) i = s (o + 1) i) : sp_rw t o l :=
  ⟨by rw [h1]; exact h.1, sg_ar_congr _ 0 (fun i _ _ => (h2 i).symm) h.2⟩
theorem sp_rw_nil (s : sg_M) (o : Int) : sp_rw (sg_up s o 1 0) o [] := ⟨by rw [sg_upS]; rfl, trivial⟩
theorem sp_rw_snoc {s : sg_M} {o x : Int} {l : List Int} (h : sp_rw s o l) : sp_rw (sg_up (sg_up s (o + 1) (s o 1) x) o 1 (s o 1 + 1)) o (l ++ [x]) := by
  obtain ⟨h1, h2⟩ := h
  refine ⟨by rw [sg_upS, h1]; simp, sg_ar_snoc _ 0 (sg_ar_congr _ 0 (fun i q1 q2 => ?_) h2) ?_⟩
  · rw [sg_upN _ (by omega), sg_upN _ (by omega)]
  · rw [sg_upN _ (by omega), Int.zero_add, h1, sg_upS]
def sp_cn (a b : Int) : List Int → Int
  | [] => 0
  | q :: l => if q < a then sp_cn a b l else if b < q then sp_cn a b l else 1 + sp_cn a b l
theorem sp_cn_nn (a b : Int) : ∀ l : List Int, 0 ≤ sp_cn a b l ∧ sp_cn a b l ≤ l.length
  | [] => by simp [sp_cn]
  | q :: l => by
    have h := sp_cn_nn a b l
    simp only [List.length_cons]
    unfold sp_cn; repeat' split
    all_goals omega
theorem sp_cn_out (p a b : Int) : ∀ l : List Int, p ∉ l → (sp_cn a b l = 0 ∧ sg_tw p a b l = 0) ∨ (1 ≤ sp_cn a b l ∧ sg_tw p a b l = 1)
  | [], _ => Or.inl ⟨rfl, rfl⟩
  | q :: l, h => by
    have ih := sp_cn_out p a b l (fun hh => h (List.mem_cons_of_mem _ hh))
    have hn := sp_cn_nn a b l
    have hq : ¬ q = p := fun e => h (by rw [e]; exact List.mem_cons_self)
    rw [sp_cn, sg_tw, if_neg hq]
    split
    · exact ih
    · split
      · exact ih
      · right; exact ⟨by omega, rfl⟩
theorem sp_cn_in (p a b : Int) (ha : a ≤ p) (hb : p ≤ b) : ∀ l : List Int, l.Nodup → p ∈ l → (sp_cn a b l = 1 ∧ sg_tw p a b l = 0) ∨ (2 ≤ sp_cn a b l ∧ sg_tw p a b l = 1)
  | [], _, h => by simp at h
  | q :: l, hn, h => by
    obtain ⟨hq, hn'⟩ := List.nodup_cons.mp hn
    have hnn := sp_cn_nn a b l
    rw [sp_cn, sg_tw]
    by_cases e : q = p
    · rw [if_pos e, if_neg (by omega), if_neg (by omega)]
      rcases sp_cn_out p a b l (by rw [← e]; exact hq) with h1 | h1 <;> omega
    · have hp : p ∈ l := by
        rcases List.mem_cons.mp h with h | h
        · exact absurd h.symm e
        · exact h
      rw [if_neg e]
      have ih := sp_cn_in p a b ha hb l hn' hp
      split
      · exact ih
      · split
        · exact ih
        · right; exact ⟨by omega, rfl⟩
theorem sp_ps_nodup (W : Int → Int) (n : Int) : ∀ m : Nat, (sp_ps W n m).Nodup
  | 0 => by simp [sp_ps]
  | m + 1 => by
    have ih := sp_ps_nodup W n m
    rw [sp_ps]; split
    · exact ih
    · rw [List.nodup_append]
      refine ⟨ih, by simp, fun x hx y hy => ?_⟩
      have := sp_ps_mem W n m x hx
      have := List.mem_singleton.mp hy
      omega
theorem sp_itL {La : sg_L} {s : sg_M} {a b : Int} {K : Int → Prop} (hst : sg_St La) {P : List Int} (hP : P.length ≤ 60) (hr : sp_rw s 35 P) : ∀ (l : List Int) (i c : Int), 0 ≤ i → i + l.length = P.length → sg_ar (s 36) i l → 0 ≤ c → c ≤ i → K (c + sp_cn a b l) → fX0_isTwice_L5 La s a b K (l.length + 1) c i
  | [], i, c, h0, hi, hl, hc0, hc, h => by
    simp only [List.length_nil] at hi
    rw [List.length_nil, fX0_isTwice_L5]
    simp only [sp_cn, Int.add_zero] at h
    exact ⟨fun _ => h, fun hh => absurd (show s 35 1 ≤ i by rw [hr.1]; omega) hh⟩
  | q :: l, i, c, h0, hi, hl, hc0, hc, h => by
    simp only [List.length_cons] at hi
    have ih := fun c' g1 g2 g3 => sp_itL (K := K) (a := a) (b := b) hst hP hr l (i + 1) c' (by omega) (by omega) hl.2 g1 g2 g3
    rw [List.length_cons, fX0_isTwice_L5]
    simp only [fX0_isTwice_j43]
    refine ⟨fun hh => absurd hh (by rw [hr.1]; omega), fun _ => ?_⟩
    refine tX4_at (l := P) (c := 60) (sp_ln hst 36 10060 rfl) (by omega) hr.1 (by omega) hr.2 ?_
    have e : sp_at P i = q := by rw [← sp_at_in hr.2 h0 (by omega)]; exact hl.1
    rw [e]
    rw [sp_cn] at h
    refine ⟨fun g => ⟨by omega, ?_⟩, fun g => ⟨fun g2 => ⟨by omega, ?_⟩, fun g2 => ⟨by omega, by omega, ?_⟩⟩⟩
    · rw [if_pos g] at h; exact ih c hc0 (by omega) h
    · rw [if_neg g, if_pos g2] at h; exact ih c hc0 (by omega) h
    · rw [if_neg g, if_neg g2] at h; exact ih (c + 1) (by omega) (by omega) (by rw [Int.add_assoc]; exact h)
theorem tX0_isTwice {La : sg_L} {s : sg_M} {p a b : Int} {Q : Int → Prop} (hst : sg_St La) {P : List Int} (hP : P.length ≤ 60) (hr : sp_rw s 35 P) (hn : P.Nodup) (hp : p ∈ P) (ha : a ≤ p) (hb : p ≤ b) (h : Q (sg_tw p a b P)) : fX0_isTwice La s a b Q := by
  refine ⟨P.length + 1, ?_⟩
  refine sp_itL (a := a) (b := b) (K := fun x => (x ≤ 1 → Q 0) ∧ (¬ (x ≤ 1) → Q 1)) hst hP hr P 0 0 (by omega) (by omega) hr.2 (by omega) (by omega) ?_
  rw [Int.zero_add]
  rcases sp_cn_in p a b ha hb P hn hp with ⟨h1, h2⟩ | ⟨h1, h2⟩
  · rw [h2] at h; exact ⟨fun _ => h, fun g => absurd (show sp_cn a b P ≤ 1 by omega) g⟩
  · rw [h2] at h; exact ⟨fun g => absurd g (by omega), fun _ => h⟩
end SGCc
noncomputable section SGCd
/-- the blade of the class at cell o -/
def sp_cB (s : sg_M) (o : Int) (B : sg_M) : Prop := s o 4 = B 4 0 ∧ s o 5 = B 4 1 ∧ s o 6 = B 4 2 ∧ ∀ i, 0 ≤ i → i < B 4 0 → s (o + 1) i = B 0 i ∧ s (o + 2) i = B 1 i ∧ s (o + 3) i = B 2 i ∧ s (o + 4) i = B 3 i
/-- what bending leaves in the class's Bent (cell 32) -/
def sp_cbt (B : sg_M) (a b : Int) (t : sg_M) : Prop := t 32 3 = B 4 0 ∧ t 32 4 = B 4 1 ∧ t 32 5 = sp_bk B a b (B 4 0).toNat ∧ t 32 6 = sp_ms B a b (B 4 0).toNat ∧
  (∀ j, 0 ≤ j → j < B 4 0 → t 33 j = sg_abs (sp_cu B a b j) ∧ t 34 j = sp_W B a b j) ∧ sp_rw t 35 (sp_P B a b)
def sp_G1 (s s' : sg_M) : Prop := ∀ c i, (c = 32 → i < 3 ∨ 6 < i) → (c < 33 ∨ 36 < c ∨ (c = 35 ∧ i ≠ 1)) → s' c i = s c i
theorem sp_cpL {W : Int → Int} {n i : Int} {s : sg_M} {Q : Int → Prop} (hn : n ≤ 60) (hsn : s 32 3 = n) (hW : ∀ i, 0 ≤ i → i < n → s 34 i = W i) (h0 : 0 ≤ i) (h1 : i < n) : ∀ (r : Nat), i + r < n → Q (sp_bh W n (W i) r) →
    fX0_isPlace_L27 s i (fun x => (((s 32 3) ≤ x → Q 1) ∧ (¬ ((s 32 3) ≤ x) → (0 ≤ x ∧ x < 60) ∧ (0 ≤ i ∧ i < 60) ∧ (((s 34 x) ≤ (s 34 i) → Q 0) ∧ (¬ ((s 34 x) ≤ (s 34 i)) → Q 1))))) (r + 1) (n - r)
  | 0, _, h => by
    rw [fX0_isPlace_L27]
    simp only [sp_bh] at h
    exact ⟨fun _ => ⟨fun _ => h, fun hh => absurd (show s 32 3 ≤ n - ((0 : Nat) : Int) by omega) hh⟩, fun hh => absurd (show s 32 3 ≤ n - ((0 : Nat) : Int) by omega) hh⟩
  | r + 1, hr, h => by
    have hw := hW (n - ((r : Int) + 1)) (by omega) (by omega)
    have hi := hW i h0 h1
    have ih := sp_cpL (Q := Q) hn hsn hW h0 h1 r (by omega)
    rw [fX0_isPlace_L27]
    have e : n - ((r + 1 : Nat) : Int) = n - ((r : Int) + 1) := by omega
    have e2 : n - ((r : Int) + 1) + 1 = n - r := by omega
    rw [e]
    simp only [hw, hi, e2]
    rw [sp_bh] at h
    refine ⟨fun hh => absurd hh (by omega), fun _ => ⟨by omega, by omega, fun g => ?_, fun g => ⟨by omega, ?_⟩⟩⟩
    · rw [if_pos g] at h
      refine ⟨fun g2 => absurd g2 (by omega), fun _ => ⟨by omega, by omega, fun g3 => ?_, fun g3 => ?_⟩⟩
      · rw [if_pos g3] at h; exact h
      · rw [if_neg g3] at h; exact h
    · rw [if_neg (by omega)] at h
      have := ih h
      rw [hi] at this
      exact this
theorem tX0_isPlace {W : Int → Int} {n i : Int} {s : sg_M} {Q : Int → Prop} (hn : n ≤ 60) (hsn : s 32 3 = n) (hW : ∀ i, 0 ≤ i → i < n → s 34 i = W i) (h0 : 0 ≤ i) (h1 : i < n) (h : Q (sp_pl W n i)) : fX0_isPlace s i Q := by
  have hi := hW i h0 h1
  have hj : Q (sp_bh W n (W i) (n - 1 - i).toNat) → fX0_isPlace_j23 s i Q := by
    intro hq
    refine ⟨by omega, (n - 1 - i).toNat + 1, ?_⟩
    have := sp_cpL (Q := Q) hn hsn hW h0 h1 (n - 1 - i).toNat (by omega) hq
    rw [show n - ((n - 1 - i).toNat : Int) = i + 1 by omega] at this
    exact this
  unfold fX0_isPlace
  unfold sp_pl at h
  refine ⟨fun g => ?_, fun g => ⟨by omega, by omega, fun g2 => ?_, fun g2 => ?_⟩⟩
  · rw [if_neg (by omega)] at h; exact hj h
  · rw [hi, hW (i - 1) (by omega) (by omega)] at g2
    rw [if_neg (fun hh => hh.2 g2)] at h; exact hj h
  · rw [hi, hW (i - 1) (by omega) (by omega)] at g2
    rw [if_pos ⟨by omega, g2⟩] at h; exact h
theorem tX1_has {s : sg_M} {o i n : Int} {Q : Int → Prop} (hn : s o 4 = n) (hn60 : n ≤ 60) (h : Q (if 0 ≤ i ∧ i < n then 1 else 0)) : fX1_has s o i Q := by
  unfold fX1_has
  rw [hn]
  refine ⟨fun g => ?_, fun g => ⟨fun g2 => ?_, fun g2 => ⟨fun g3 => absurd g3 (by omega), fun _ => ?_⟩⟩⟩
  · rw [if_neg (by omega)] at h; exact h
  · rw [if_neg (by omega)] at h; exact h
  · rw [if_pos (by omega)] at h; exact h
theorem tX1_stiffness {s B : sg_M} {o i : Int} {Q : Int → Prop} (hok : sp_ok B) (hB : sp_cB s o B) (h0 : 0 ≤ i) (h1 : i < B 4 0) (h : Q (sp_sf B i)) : fX1_stiffness s o i Q := by
  obtain ⟨B0, B1, B2, B3⟩ := hB
  obtain ⟨c0, c1, c2, c3⟩ := B3 i h0 h1
  have hn := hok.2.1
  have k3 := sp_sf_rg hok h0 h1
  have e : (((((s (o + 1) i) - (s (o + 3) i)) * (s (o + 2) i)) * (s (o + 2) i)) * (s (o + 2) i)) = sp_sf B i := by rw [c0, c1, c2]; rfl
  unfold fX1_stiffness
  refine tX1_has B0 hn ?_
  rw [if_pos ⟨h0, h1⟩, e]
  exact ⟨fun g => absurd g (by omega), fun _ => ⟨by omega, by omega, by omega, by omega, by omega, by omega, h⟩⟩
theorem tX1_curve {s B : sg_M} {o a b i : Int} {Q : Int → Prop} (hok : sp_ok B) (hB : sp_cB s o B) (ha : -9999 ≤ a ∧ a ≤ 9999) (hb : -9999 ≤ b ∧ b ≤ 9999) (h0 : 0 ≤ i) (h1 : i < B 4 0) (h : Q (sp_cu B a b i)) : fX1_curve s o a b i Q := by
  have hB' := hB
  obtain ⟨B0, B1, B2, B3⟩ := hB
  obtain ⟨c0, c1, c2, c3⟩ := B3 i h0 h1
  have hn3 := hok.1
  have hn60 := hok.2.1
  have k1 := sp_tu0 hok ha hb h0 h1
  have k2 := sp_tu_rg hok ha hb h0 h1
  have k3 := sp_sf_rg hok h0 h1
  have k4 := sp_cu0 hok ha hb h0 h1
  have k9 := hok.2.2.2.2.2.2 i h0 h1
  unfold fX1_curve
  refine tX1_stiffness hok hB' h0 h1 ?_
  rw [B0]
  refine ⟨by omega, fun g => absurd g (by omega), fun _ => ⟨fun g => absurd g (by omega), fun _ => ?_⟩⟩
  refine tX1_has B0 hn60 ?_
  rw [if_pos ⟨h0, h1⟩]
  refine ⟨fun _ => ⟨by omega, by omega, fun v12 hv => ?_⟩, fun g => absurd g (by omega)⟩
  have hv' : v12 = sp_tu B a b i := hv
  rw [hv', c3]
  have em : sp_tu B a b i * 1000 = 1000 * sp_tu B a b i := Int.mul_comm _ _
  rw [em]
  refine ⟨by omega, by omega, by omega, by omega, by omega, by omega, ?_⟩
  exact h
theorem sp_cbStep {s B : sg_M} {o a b i : Int} {K : sg_M → Prop} {n : Nat} (hok : sp_ok B) (hB : sp_cB s o B) (ha : -9999 ≤ a ∧ a ≤ 9999) (hb : -9999 ≤ b ∧ b ≤ 9999) (h0 : 0 ≤ i) (h1 : i < B 4 0) (ho : o < 28 ∨ 36 < o) (hsn : s 32 3 = B 4 0)
    (h : fX0_bendTo_L34 o a b K n (sg_up (sg_up (sg_up (sg_up s 33 i (sg_abs (sp_cu B a b i))) 34 i (sp_wl B a b i)) 32 6 (sg_max (s 32 6) (sp_sr B a b i))) 32 5 (if s 32 5 ≠ -1 then s 32 5 else if sp_sr B a b i ≤ B 4 2 then -1 else i)) (i + 1)) :
    fX0_bendTo_L34 o a b K (n + 1) s i := by
  have hB' := hB
  obtain ⟨B0, B1, B2, B3⟩ := hB
  obtain ⟨c0, c1, c2, c3⟩ := B3 i h0 h1
  have hn60 := hok.2.1
  have k5 := sp_wl_rg B a b i
  have k6 := sp_sr_rg (a := a) (b := b) hok h0 h1
  have k7 := sp_abs_rg B a b i
  rw [fX0_bendTo_L34]
  simp only [fX0_bendTo_j128]
  refine ⟨fun g => absurd g (by omega), fun _ => tX1_curve hok hB' ha hb h0 h1 ⟨by omega, fun v18 h18 => ?_⟩⟩
  have e18 : v18 = sp_sr B a b i := by rw [h18, c1]; rfl
  rw [e18]
  refine ⟨by omega, by omega, by omega, fun s24 h24 => ⟨by omega, ?_, fun s29 h29 => fun s32 h32 => ?_⟩⟩
  · have : sp_cu B a b i * sp_cu B a b i = sp_wl B a b i := rfl
    rw [this]; omega
  · have e29 : s29 32 6 = s 32 6 := by rw [h29, sg_upN _ (by omega), h24, sg_upN _ (by omega)]
    have e32 : s32 = sg_up (sg_up (sg_up s 33 i (sg_abs (sp_cu B a b i))) 34 i (sp_wl B a b i)) 32 6 (sg_max (s 32 6) (sp_sr B a b i)) := by
      rw [h32, e29, h29, h24]; rfl
    have q1 : s32 32 5 = s 32 5 := by rw [e32, sg_upN _ (by omega), sg_upN _ (by omega), sg_upN _ (by omega)]
    have q2 : s32 o 6 = B 4 2 := by rw [e32, sg_upN _ (by omega), sg_upN _ (by omega), sg_upN _ (by omega)]; exact B2
    rw [← e32] at h
    rw [q1, q2]
    refine ⟨fun hne => ⟨by omega, ?_⟩, fun heq => ⟨fun hle => ⟨by omega, ?_⟩, fun hgt => fun s39 h39 => ⟨by omega, ?_⟩⟩⟩
    · rw [if_pos hne, ← q1, sg_upI] at h; exact h
    · rw [if_neg (by omega), if_pos hle] at h
      have : (-1 : Int) = s32 32 5 := by rw [q1, heq]
      rw [this, sg_upI] at h; exact h
    · rw [if_neg (by omega), if_neg hgt] at h
      rw [h39]; exact h
def sp_cbI (B : sg_M) (a b : Int) (s t : sg_M) (m : Nat) : Prop := sp_G1 s t ∧ t 32 3 = B 4 0 ∧ t 32 4 = B 4 1 ∧ t 32 5 = sp_bk B a b m ∧ t 32 6 = sp_ms B a b m ∧ ∀ j : Int, 0 ≤ j → j < m → t 33 j = sg_abs (sp_cu B a b j) ∧ t 34 j = sp_wl B a b j
theorem sp_cB_same {s t B : sg_M} {o : Int} (hB : sp_cB s o B) (h0 : ∀ i, t o i = s o i) (h1 : ∀ i, t (o + 1) i = s (o + 1) i) (h2 : ∀ i, t (o + 2) i = s (o + 2) i) (h3 : ∀ i, t (o + 3) i = s (o + 3) i) (h4 : ∀ i, t (o + 4) i = s (o + 4) i) : sp_cB t o B := by
  obtain ⟨B0, B1, B2, B3⟩ := hB
  exact ⟨by rw [h0]; exact B0, by rw [h0]; exact B1, by rw [h0]; exact B2, fun i q1 q2 => by rw [h1, h2, h3, h4]; exact B3 i q1 q2⟩
theorem sp_cbL {B : sg_M} {o a b : Int} {K : sg_M → Prop} {s : sg_M} (hok : sp_ok B) (ha : -9999 ≤ a ∧ a ≤ 9999) (hb : -9999 ≤ b ∧ b ≤ 9999) (ho : o < 28 ∨ 36 < o) (hB : sp_cB s o B) (h : ∀ t, sp_cbI B a b s t (B 4 0).toNat → K t) :
    ∀ (r m : Nat) (t : sg_M), (m : Int) + r = B 4 0 → sp_cbI B a b s t m → fX0_bendTo_L34 o a b K (r + 1) t m
  | 0, m, t, hm, hI => by
    rw [fX0_bendTo_L34]
    have e : (B 4 0).toNat = m := by omega
    rw [e] at h
    exact ⟨fun _ => h t hI, fun hh => absurd (show t 32 3 ≤ m by have := hI.2.1; omega) hh⟩
  | r + 1, m, t, hm, hI => by
    obtain ⟨hF, h3, h4, h5, h6, hj⟩ := hI
    have hn60 := hok.2.1
    have hBt : sp_cB t o B := sp_cB_same hB (fun i => hF _ _ (by omega) (by omega)) (fun i => hF _ _ (by omega) (by omega)) (fun i => hF _ _ (by omega) (by omega)) (fun i => hF _ _ (by omega) (by omega)) (fun i => hF _ _ (by omega) (by omega))
    refine sp_cbStep hok hBt ha hb (by omega) (by omega) ho h3 ?_
    refine sp_cbL hok ha hb ho hB h r (m + 1) _ (by omega) ⟨fun c j q1 q2 => ?_, ?_, ?_, ?_, ?_, fun j q1 q2 => ?_⟩
    · rw [sg_upN _ (by omega), sg_upN _ (by omega), sg_upN _ (by omega), sg_upN _ (by omega)]; exact hF c j q1 q2
    · rw [sg_upN _ (by omega), sg_upN _ (by omega), sg_upN _ (by omega), sg_upN _ (by omega)]; exact h3
    · rw [sg_upN _ (by omega), sg_upN _ (by omega), sg_upN _ (by omega), sg_upN _ (by omega)]; exact h4
    · rw [sg_upS, sp_bk, h5]
    · rw [sg_upN _ (by omega), sg_upS, sp_ms, h6]
    · by_cases hjm : j = m
      · subst hjm; simp [sg_up]
      · have := hj j q1 (by omega)
        simp [sg_up, hjm]; exact this
theorem sp_cbL2 {La : sg_L} {B : sg_M} {a b : Int} {Q : sg_M → Prop} {s : sg_M} (hst : sg_St La) (hok : sp_ok B) (h : ∀ t, sp_G1 s t → sp_cbt B a b t → Q t) :
    ∀ (r m : Nat) (t : sg_M), (m : Int) + r = B 4 0 → sp_cbI B a b s t (B 4 0).toNat → sp_rw t 35 (sp_ps (sp_W B a b) (B 4 0) m) → fX0_bendTo_L144 La Q (r + 1) t m
  | 0, m, t, hm, hI, hr => by
    rw [fX0_bendTo_L144]
    obtain ⟨hF, h3, h4, h5, h6, hj⟩ := hI
    have e : (B 4 0).toNat = m := by omega
    refine ⟨fun _ => h t hF ⟨h3, h4, h5, h6, fun j q1 q2 => ?_, ?_⟩, fun hh => absurd (show t 32 3 ≤ m by omega) hh⟩
    · obtain ⟨d1, d2⟩ := hj j q1 (by omega)
      exact ⟨d1, by rw [sp_W_in q1 q2]; exact d2⟩
    · unfold sp_P; rw [e]; exact hr
  | r + 1, m, t, hm, hI, hr => by
    obtain ⟨hF, h3, h4, h5, h6, hj⟩ := hI
    have hn60 := hok.2.1
    have hlen := sp_ps_len (sp_W B a b) (B 4 0) m
    rw [fX0_bendTo_L144]
    simp only [fX0_bendTo_j171]
    refine ⟨fun hh => absurd hh (by omega), fun _ => ?_⟩
    refine tX0_isPlace (W := sp_W B a b) (n := B 4 0) hn60 h3 (fun j q1 q2 => ?_) (by omega) (by omega) ?_
    · rw [sp_W_in q1 q2]; exact (hj j q1 (by omega)).2
    · refine ⟨fun g => ⟨by omega, ?_⟩, fun g => ?_⟩
      · have ep : sp_ps (sp_W B a b) (B 4 0) (m + 1) = sp_ps (sp_W B a b) (B 4 0) m := by rw [sp_ps, if_pos g]
        exact sp_cbL2 hst hok h r (m + 1) t (by omega) ⟨hF, h3, h4, h5, h6, hj⟩ (by rw [ep]; exact hr)
      · have ep : sp_ps (sp_W B a b) (B 4 0) (m + 1) = sp_ps (sp_W B a b) (B 4 0) m ++ [(m : Int)] := by rw [sp_ps, if_neg g]
        have hr1 := hr.1
        refine tX4_add (c := 60) (sp_ln hst 36 10060 rfl) (by omega) (by omega) (by omega) ⟨by omega, ?_⟩
        refine sp_cbL2 hst hok h r (m + 1) _ (by omega) ⟨fun c j q1 q2 => ?_, ?_, ?_, ?_, ?_, fun j q1 q2 => ?_⟩ ?_
        · rw [sg_upN _ (by omega), sg_upN _ (by omega)]; exact hF c j q1 q2
        · rw [sg_upN _ (by omega), sg_upN _ (by omega)]; exact h3
        · rw [sg_upN _ (by omega), sg_upN _ (by omega)]; exact h4
        · rw [sg_upN _ (by omega), sg_upN _ (by omega)]; exact h5
        · rw [sg_upN _ (by omega), sg_upN _ (by omega)]; exact h6
        · have := hj j q1 q2
          simp [sg_up]; exact this
        · rw [ep]; exact sp_rw_snoc hr
theorem tX0_bendTo {La : sg_L} {B : sg_M} {o a b : Int} {Q : sg_M → Prop} {s : sg_M} (hst : sg_St La) (hok : sp_ok B) (ha : -9999 ≤ a ∧ a ≤ 9999) (hb : -9999 ≤ b ∧ b ≤ 9999) (ho : o < 28 ∨ 36 < o) (hB : sp_cB s o B)
    (h : ∀ t, sp_G1 s t → sp_cbt B a b t → Q t) : fX0_bendTo La s o a b Q := by
  have hn := hok.1
  have hn60 := hok.2.1
  have em : sg_min (s o 4) 60 = B 4 0 := by rw [hB.1]; unfold sg_min; split <;> omega
  intro s2 h2 s5 h5 s7 h7 s9 h9
  refine ⟨(B 4 0).toNat + 1, ?_⟩
  have step : ∀ t, sp_cbI B a b s t (B 4 0).toNat → fX4_clear t 35 (fun s43 => ∃ n52 : Nat, fX0_bendTo_L144 La Q n52 s43 0) := by
    intro t hI
    obtain ⟨hF, g3, g4, g5, g6, hj⟩ := hI
    refine tX4_clear ⟨(B 4 0).toNat + 1, ?_⟩
    refine sp_cbL2 (s := s) hst hok h (B 4 0).toNat 0 _ (by omega) ⟨fun c j q1 q2 => ?_, ?_, ?_, ?_, ?_, fun j q1 q2 => ?_⟩ (sp_rw_nil _ _)
    · rw [sg_upN _ (by omega)]; exact hF c j q1 q2
    · rw [sg_upN _ (by omega)]; exact g3
    · rw [sg_upN _ (by omega)]; exact g4
    · rw [sg_upN _ (by omega)]; exact g5
    · rw [sg_upN _ (by omega)]; exact g6
    · rw [sg_upN _ (by omega), sg_upN _ (by omega)]; exact hj j q1 q2
  refine sp_cbL (s := s) hok ha hb ho hB step (B 4 0).toNat 0 s9 (by omega) ⟨fun c j q1 q2 => ?_, ?_, ?_, ?_, ?_, fun j q1 q2 => by omega⟩
  · rw [h9, sg_upN _ (by omega), h7, sg_upN _ (by omega), h5, sg_upN _ (by omega), h2, sg_upN _ (by omega)]
  · rw [h9, sg_upN _ (by omega), h7, sg_upN _ (by omega), h5, sg_upN _ (by omega), h2, sg_upS, em]
  · rw [h9, sg_upN _ (by omega), h7, sg_upN _ (by omega), h5, sg_upS, h2, sg_upN _ (by omega)]; exact hB.2.1
  · rw [h9, sg_upN _ (by omega), h7, sg_upS]; rfl
  · rw [h9, sg_upS]; rfl
end SGCd
noncomputable section SGCe
theorem sp_H2 (B : sg_M) (a b : Int) : ∀ i, 0 ≤ i → i < B 4 0 → 0 ≤ sg_abs (sp_cu B a b i) ∧ sg_abs (sp_cu B a b i) ≤ 2000 ∧ sp_W B a b i = sg_abs (sp_cu B a b i) * sg_abs (sp_cu B a b i) := by
  intro i h0 h1
  have k := sp_abs_rg B a b i
  refine ⟨k.1, k.2, ?_⟩
  rw [sp_W_in h0 h1]
  unfold sp_wl sg_abs
  split
  · rfl
  · rw [Int.zero_sub, Int.neg_mul_neg]
theorem sp_P_len {B : sg_M} (hok : sp_ok B) (a b : Int) : (sp_P B a b).length ≤ 60 := by
  have h := sp_ps_len (sp_W B a b) (B 4 0) (B 4 0).toNat
  have := hok.2.1
  have := hok.1
  unfold sp_P; omega
theorem sp_P_mem {B : sg_M} (hok : sp_ok B) {a b p : Int} (h : p ∈ sp_P B a b) : 0 ≤ p ∧ p < B 4 0 := by
  have h := sp_ps_mem _ _ _ p h
  have := hok.1
  omega
theorem sp_tn_wall {W : Int → Int} {n p need : Int} (hn : 1 ≤ need) (h : sg_tn W n p need ≠ 0) : W p < sg_tn W n p need * sg_tn W n p need := by
  have k := (sg_tn_pos h).2.1
  unfold sg_ph at k
  split at k <;> omega
def sp_vxc (s : sg_M) (v : Int × Int × Int × Int) : Prop := s 32 7 = v.1 ∧ s 32 8 = v.2.1 ∧ s 32 9 = v.2.2.1 ∧ s 32 10 = v.2.2.2
def sp_G2 (s s' : sg_M) : Prop := ∀ c i, (c = 32 → i < 7 ∨ 10 < i) → s' c i = s c i
theorem sp_cbt_F {B s t : sg_M} {a b : Int} (hs : sp_cbt B a b s) (hF : ∀ c i, 32 ≤ c → c ≤ 36 → (c = 32 → i < 7) → t c i = s c i) : sp_cbt B a b t := by
  obtain ⟨m3, m4, m5, m6, mj, mr⟩ := hs
  refine ⟨by rw [hF 32 3 (by omega) (by omega) (by omega)]; exact m3, by rw [hF 32 4 (by omega) (by omega) (by omega)]; exact m4, by rw [hF 32 5 (by omega) (by omega) (by omega)]; exact m5, by rw [hF 32 6 (by omega) (by omega) (by omega)]; exact m6, fun j q1 q2 => ?_, ?_⟩
  · rw [hF 33 j (by omega) (by omega) (by omega), hF 34 j (by omega) (by omega) (by omega)]; exact mj j q1 q2
  · exact sp_rw_same mr (hF 35 1 (by omega) (by omega) (by omega)) (fun i => hF 36 i (by omega) (by omega) (by omega))
theorem sp_liL {La : sg_L} {B : sg_M} {a b : Int} {Q : sg_M → Prop} {s : sg_M} (hst : sg_St La) (hok : sp_ok B) (hs : sp_cbt B a b s) (v0 : Int × Int × Int × Int)
    (h : ∀ t, sp_G2 s t → sp_vxc t (sp_vs (sp_W B a b) (B 4 0) (B 4 1) (sp_P B a b) (sp_P B a b) (-1) v0) → Q t) :
    ∀ (l : List Int) (t : sg_M) (most k : Int) (v : Int × Int × Int × Int), 0 ≤ k → k + l.length = (sp_P B a b).length → sg_ar (s 36) k l → (∀ p, p ∈ l → p ∈ sp_P B a b) → sp_G2 s t → sp_vxc t v → -1 ≤ most → most ≤ 2147483647 →
      sp_vs (sp_W B a b) (B 4 0) (B 4 1) (sp_P B a b) (sp_P B a b) (-1) v0 = sp_vs (sp_W B a b) (B 4 0) (B 4 1) (sp_P B a b) l most v →
      fX0_listen_L34 La Q (l.length + 1) t most k
  | [], t, most, k, v, hk, hkl, har, hm, hF, hv, h1, h2, he => by
    obtain ⟨m3, m4, m5, m6, mj, mr⟩ := hs
    have e35 : t 35 1 = s 35 1 := hF 35 1 (by omega)
    simp only [List.length_nil] at hkl
    rw [List.length_nil, fX0_listen_L34]
    refine ⟨fun _ => h t hF ?_, fun hh => absurd (show t 35 1 ≤ k by rw [e35, mr.1]; omega) hh⟩
    rw [he]; exact hv
  | p :: l, t, most, k, v, hk, hkl, har, hm, hF, hv, h1, h2, he => by
    have hs' := hs
    obtain ⟨m3, m4, m5, m6, mj, mr⟩ := hs
    have e3 : t 32 3 = B 4 0 := by rw [hF 32 3 (by omega)]; exact m3
    have e4 : t 32 4 = B 4 1 := by rw [hF 32 4 (by omega)]; exact m4
    have er : sp_rw t 35 (sp_P B a b) := sp_rw_same mr (hF 35 1 (by omega)) (fun i => hF 36 i (by omega))
    have hlen := sp_P_len hok a b
    have hpm := hm p List.mem_cons_self
    have hp := sp_P_mem hok hpm
    have hu := hok.2.2.1
    have hn60 := hok.2.1
    simp only [List.length_cons] at hkl
    have ih := fun t' most' v' g1 g2 g3 g4 g5 => sp_liL (Q := Q) hst hok hs' v0 h l t' most' (k + 1) v' (by omega) (by omega) har.2 (fun x hx => hm x (List.mem_cons_of_mem _ hx)) g1 g2 g3 g4 g5
    have hW : ∀ i, 0 ≤ i → i < B 4 0 → t 34 i = sp_W B a b i := fun i q1 q2 => by rw [hF 34 i (by omega)]; exact (mj i q1 q2).2
    have hsH : ∀ i, 0 ≤ i → i < B 4 0 → t 33 i = sg_abs (sp_cu B a b i) := fun i q1 q2 => by rw [hF 33 i (by omega)]; exact (mj i q1 q2).1
    have hWb : ∀ i, 0 ≤ i → i < B 4 0 → 0 ≤ sp_W B a b i ∧ sp_W B a b i ≤ 4000000 := fun i _ _ => sp_W_rg B a b i
    rw [List.length_cons, fX0_listen_L34]
    simp only [fX0_listen_j143]
    refine ⟨fun hh => absurd hh (by rw [er.1]; omega), fun _ => ?_⟩
    refine tX4_at (l := sp_P B a b) (c := 60) (sp_ln hst 36 10060 rfl) (by omega) er.1 (by omega) er.2 ?_
    have eat : sp_at (sp_P B a b) k = p := by rw [← sp_at_in er.2 hk (by omega), hF _ k (by omega)]; exact har.1
    rw [eat]
    refine tX0_mostKept (W := sp_W B a b) (n := B 4 0) hn60 e3 (sp_H2 B a b) hsH hp.1 hp.2 (fun mk g1 g2 g3 => ?_)
    rw [e4]
    refine tX0_leastTone (W := sp_W B a b) (n := B 4 0) hn60 e3 hW hWb (sp_H2 B a b) hsH hp.1 hp.2 hu g1 g2 ?_
    have htr := sg_tn_rg (sp_W B a b) (B 4 0) p (B 4 1)
    rw [sp_vs] at he
    by_cases htn : sg_tn (sp_W B a b) (B 4 0) p (B 4 1) = 0
    · rw [if_pos htn] at he
      rw [if_neg (fun hh => hh.1 htn)]
      exact ⟨fun _ => ⟨by omega, ih t most v hF hv h1 h2 he⟩, fun hh => absurd (show (0 : Int) ≤ 0 by omega) hh⟩
    · have hpf := sp_tn_wall hu htn
      have h3 := g3 (sg_tn (sp_W B a b) (B 4 0) p (B 4 1)) (by omega) hpf
      rw [if_neg htn] at he
      generalize hf : sg_tn (sp_W B a b) (B 4 0) p (B 4 1) = f at *
      by_cases hsh : sg_sh (sp_W B a b) (B 4 0) p f = 0
      · rw [if_pos hsh] at he
        rw [if_neg (fun hh => (h3.mp hh.2) hsh)]
        exact ⟨fun _ => ⟨by omega, ih t most v hF hv h1 h2 he⟩, fun hh => absurd (show (0 : Int) ≤ 0 by omega) hh⟩
      · rw [if_neg hsh] at he
        rw [if_pos ⟨htn, h3.mpr hsh⟩]
        refine ⟨fun hh => absurd hh (by omega), fun _ => ?_⟩
        have hrr := sg_rn_rg (sp_W B a b) hp.1 hp.2 f
        refine tX0_firstOfRun (W := sp_W B a b) (n := B 4 0) htr.1 htr.2 hn60 e3 hW hp.1 hp.2 hpf ?_
        refine tX0_lastOfRun (W := sp_W B a b) (n := B 4 0) htr.1 htr.2 hn60 e3 hW hp.1 hp.2 hpf ?_
        refine tX0_rings (W := sp_W B a b) (n := B 4 0) htr.1 htr.2 hn60 e3 hW hWb hrr.1 (by omega) (by omega) hrr.2.2.2 ?_
        have eri : sg_ri (sp_W B a b) (B 4 0) p f = sg_ri0 (sp_W B a b) (B 4 0) (sg_rf1 (sp_W B a b) p f) (sg_rl1 (sp_W B a b) (B 4 0) p f) f := by unfold sg_ri; rw [if_neg hsh]
        rw [← eri]
        have hri : sg_ri (sp_W B a b) (B 4 0) p f ≤ 2147483647 := by
          rw [eri]; unfold sg_ri0
          have z1 := sg_S_hi (g := fun i => sg_rt (sp_W B a b i - f * f)) (c := 2047) (fun i => sg_rt_le _) 0 (sg_rf1 (sp_W B a b) p f).toNat
          unfold sg_min; split <;> omega
        generalize hg : sg_ri (sp_W B a b) (B 4 0) p f = g at *
        refine ⟨fun hle => ⟨by omega, ?_⟩, fun hgt => fun s31 h31 => fun s33 h33 => fun s35 h35 => ?_⟩
        · rw [if_pos hle] at he
          exact ih t most v hF hv h1 h2 he
        · rw [if_neg hgt] at he
          have r0 : ∀ c i, (c = 32 → i < 7 ∨ 9 < i) → s35 c i = t c i := fun c i q => by
            rw [h35, sg_upN _ (by omega), h33, sg_upN _ (by omega), h31, sg_upN _ (by omega)]
          refine tX0_isTwice (p := p) hst hlen (sp_rw_same er (r0 35 1 (by omega)) (fun i => r0 36 i (by omega))) (sp_ps_nodup _ _ _) hpm hrr.2.1 hrr.2.2.1 ?_
          intro s39 h39
          refine ⟨by omega, ih s39 g _ (fun c i q => ?_) ⟨?_, ?_, ?_, ?_⟩ (by omega) hri he⟩
          · rw [h39, sg_upN _ (by omega), r0 c i (by omega)]; exact hF c i q
          · rw [h39, sg_upN _ (by omega), h35, sg_upN _ (by omega), h33, sg_upN _ (by omega), h31, sg_upS]
          · rw [h39, sg_upN _ (by omega), h35, sg_upN _ (by omega), h33, sg_upS]
          · rw [h39, sg_upN _ (by omega), h35, sg_upS]
          · rw [h39, sg_upS]
theorem tX0_listen {La : sg_L} {B : sg_M} {a b : Int} {Q : sg_M → Prop} {s : sg_M} (hst : sg_St La) (hok : sp_ok B) (hs : sp_cbt B a b s) (h : ∀ t, sp_G2 s t → sp_cbt B a b t → sp_vxc t (sp_vo B a b) → Q t) : fX0_listen La s Q := by
  intro s1 h1 s3 h3 s5 h5 s7 h7
  have r0 : ∀ c i, (c = 32 → i < 7 ∨ 10 < i) → s7 c i = s c i := fun c i q => by
    rw [h7, sg_upN _ (by omega), h5, sg_upN _ (by omega), h3, sg_upN _ (by omega), h1, sg_upN _ (by omega)]
  have tr : ∀ t', sp_G2 s7 t' → sp_G2 s t' ∧ sp_cbt B a b t' := by
    intro t' hF'
    have e : ∀ c i, (c = 32 → i < 7 ∨ 10 < i) → t' c i = s c i := fun c i q => by rw [hF' c i (by omega), r0 c i (by omega)]
    exact ⟨e, sp_cbt_F hs (fun c i _ _ q => e c i (by omega))⟩
  have hv7 : sp_vxc s7 (0, 99, 0, 0) := by
    refine ⟨?_, ?_, ?_, ?_⟩
    · rw [h7, sg_upN _ (by omega), h5, sg_upN _ (by omega), h3, sg_upN _ (by omega), h1, sg_upS]
    · rw [h7, sg_upN _ (by omega), h5, sg_upN _ (by omega), h3, sg_upS]
    · rw [h7, sg_upN _ (by omega), h5, sg_upS]
    · rw [h7, sg_upS]
  have t7 := tr s7 (fun _ _ _ => rfl)
  have e5 : s7 32 5 = sp_bk B a b (B 4 0).toNat := t7.2.2.2.1
  rw [e5]
  refine ⟨fun hb => ?_, fun hb => ?_⟩
  · refine ⟨(sp_P B a b).length + 1, sp_liL hst hok t7.2 (0, 99, 0, 0) (fun t' hF' hv' => ?_) (sp_P B a b) s7 (-1) 0 (0, 99, 0, 0) (by omega) (by omega) t7.2.2.2.2.2.2.2 (fun p hp => hp) (fun _ _ _ => rfl) hv7 (by omega) (by omega) rfl⟩
    have := tr t' hF'
    refine h t' this.1 this.2 ?_
    unfold sp_vo; rw [if_neg (by omega)]; exact hv'
  · refine h s7 t7.1 t7.2 ?_
    unfold sp_vo; rw [if_pos hb]; exact hv7
def sp_G3 (s s' : sg_M) : Prop := ∀ c i, (c = 32 → i < 3 ∨ 10 < i) → (c < 33 ∨ 36 < c ∨ (c = 35 ∧ i ≠ 1)) → s' c i = s c i
theorem tX11_listenTo {La : sg_L} {B : sg_M} {o a b : Int} {Q : sg_M → Prop} {s : sg_M} (hst : sg_St La) (hok : sp_ok B) (ha : -9999 ≤ a ∧ a ≤ 9999) (hb : -9999 ≤ b ∧ b ≤ 9999) (ho : o < 28 ∨ 36 < o) (hB : sp_cB s o B)
    (h : ∀ t, sp_G3 s t → sp_cbt B a b t → sp_vxc t (sp_vo B a b) → Q t) : fX11_listenTo La s o a b Q := by
  refine tX0_bendTo hst hok ha hb ho hB (fun t hF hbt => ?_)
  refine tX0_listen hst hok hbt (fun t' hF' hbt' hv => ?_)
  refine h t' (fun c i q1 q2 => ?_) hbt' hv
  rw [hF' c i (by omega), hF c i (by omega) (by omega)]
end SGCe
