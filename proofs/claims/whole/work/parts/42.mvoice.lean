/-! LEVEL 2, the reference's voice: the places, isTwice, strengthAt, voiceBy over a blade that is bent. -/
noncomputable section SGVa
/-- a list in an array, from slot b on -/
def sg_ar (f : Int → Int) (b : Int) : List Int → Prop
  | [] => True
  | x :: l => f b = x ∧ sg_ar f (b + 1) l
theorem sg_ar_congr {f g : Int → Int} : ∀ (l : List Int) (b : Int), (∀ i, b ≤ i → i < b + l.length → f i = g i) → sg_ar f b l → sg_ar g b l
  | [], _, _, _ => trivial
  | x :: l, b, h, hf => by
    simp only [List.length_cons] at h
    exact ⟨by rw [← h b (by omega) (by omega)]; exact hf.1, sg_ar_congr l (b + 1) (fun i h1 h2 => h i (by omega) (by omega)) hf.2⟩
theorem sg_ar_snoc {f : Int → Int} {x : Int} : ∀ (l : List Int) (b : Int), sg_ar f b l → f (b + l.length) = x → sg_ar f b (l ++ [x])
  | [], b, _, h => by simpa [sg_ar] using h
  | y :: l, b, hf, h => by
    simp only [List.length_cons] at h
    exact ⟨hf.1, sg_ar_snoc l (b + 1) hf.2 (by rw [← h]; congr 1; omega)⟩
theorem sg_ar_get {f : Int → Int} : ∀ (l : List Int) (b : Int), sg_ar f b l → ∀ j : Nat, j < l.length → f (b + j) = l.getD j (-1)
  | [], _, _, j, hj => by simp at hj
  | x :: l, b, hf, 0, hj => by simpa using hf.1
  | x :: l, b, hf, j + 1, hj => by
    simp only [List.length_cons] at hj
    have := sg_ar_get l (b + 1) hf.2 j (by omega)
    rw [show b + ((j + 1 : Nat) : Int) = b + 1 + (j : Int) by omega, this]; simp
/-- an item of a list; -1 outside -/
def sp_at (l : List Int) (i : Int) : Int := if i < 0 then -1 else l.getD i.toNat (-1)
theorem sp_at_in {f : Int → Int} {l : List Int} (h : sg_ar f 0 l) {i : Int} (h0 : 0 ≤ i) (h1 : i < l.length) : f i = sp_at l i := by
  have := sg_ar_get l 0 h i.toNat (by omega)
  unfold sp_at; rw [if_neg (by omega), ← this]; congr 1; omega
theorem sp_at_out {l : List Int} {i : Int} (h : i < 0 ∨ (l.length : Int) ≤ i) : sp_at l i = -1 := by
  unfold sp_at
  split
  · rfl
  · rw [List.getD_eq_getElem?_getD, List.getElem?_eq_none (by omega)]; rfl
theorem sp_at_mem {l : List Int} {i : Int} (h0 : 0 ≤ i) (h1 : i < l.length) : sp_at l i ∈ l := by
  unfold sp_at; rw [if_neg (by omega), List.getD_eq_getElem?_getD, List.getElem?_eq_getElem (by omega)]; exact List.getElem_mem _
/-- whether another place lies in the run -/
def sg_tw (p a b : Int) : List Int → Int
  | [] => 0
  | q :: l => if q = p then sg_tw p a b l else if q < a then sg_tw p a b l else if b < q then sg_tw p a b l else 1
theorem sg_tw_B (p a b : Int) : ∀ l : List Int, sg_tw p a b l = 0 ∨ sg_tw p a b l = 1
  | [] => Or.inl rfl
  | q :: l => by
    have := sg_tw_B p a b l
    unfold sg_tw; repeat' split
    all_goals first | assumption | exact Or.inr rfl
theorem sg_twL {s : sg_M} {p a b : Int} {Q : Int → Prop} (ha : s 64 32 = a) (hb : s 64 33 = b) (hP : s 64 29 ≤ 60) : ∀ (l : List Int) (i : Int), 0 ≤ i → i + l.length = s 64 29 → sg_ar (s 75) i l → Q (sg_tw p a b l) → fX12_isTwice_L2 s p Q (l.length + 1) i
  | [], i, h0, hi, hl, h => by
    simp only [List.length_nil] at hi
    rw [List.length_nil, fX12_isTwice_L2]
    exact ⟨fun _ => h, fun hh => absurd (show s 64 29 ≤ i by omega) hh⟩
  | q :: l, i, h0, hi, hl, h => by
    simp only [List.length_cons] at hi
    rw [List.length_cons, fX12_isTwice_L2]
    simp only [fX12_isTwice_j48, hl.1, ha, hb]
    have ih := sg_twL (Q := Q) (p := p) ha hb hP l (i + 1) (by omega) (by omega) hl.2
    refine ⟨fun hh => absurd hh (by omega), fun _ => ⟨by omega, fun g => ⟨by omega, ?_⟩, fun g => ⟨by omega, fun g2 => ⟨by omega, ?_⟩, fun g2 => ⟨by omega, fun g3 => ⟨by omega, ?_⟩, fun g3 => ?_⟩⟩⟩⟩
    · apply ih; rw [sg_tw, if_pos g] at h; exact h
    · apply ih; rw [sg_tw, if_neg g, if_pos g2] at h; exact h
    · apply ih; rw [sg_tw, if_neg g, if_neg g2, if_pos g3] at h; exact h
    · rw [sg_tw, if_neg g, if_neg g2, if_neg g3] at h; exact h
/-- how strong tone f of the run round p is at i -/
def sg_fo (W : Int → Int) (f a i : Int) : Int := Int.tdiv (sg_rt (f * f - W i)) 2 + sg_S (fun j => sg_rt (f * f - W j)) a (i - a).toNat
def sg_hp (u x : Int) : Int := if 2 * u - Int.tmod x (2 * u) ≤ Int.tmod x (2 * u) then 2 * u - Int.tmod x (2 * u) else Int.tmod x (2 * u)
def sg_st (W : Int → Int) (u f a b i : Int) : Int := if i < a then 0 else if b < i then 0 else sg_hp u (sg_fo W f a i)
theorem sg_stL {W : Int → Int} {f n a i c : Int} {s : sg_M} {K : Int → Prop} (hf0 : 0 ≤ f) (hf : f ≤ 2000) (hn : n ≤ 60) (hW : ∀ i, 0 ≤ i → i < n → s 73 i = W i) (hb : ∀ i, 0 ≤ i → i < n → 0 ≤ W i ∧ W i ≤ 4000000)
    (ha : 0 ≤ a) (hi : i < n) (hc0 : 0 ≤ c) (hc : c ≤ 2047) : ∀ (r k : Nat), a + k + r = i → K (c + sg_S (fun j => sg_rt (f * f - W j)) a (k + r)) → fX12_strengthAt_L40 s i f K (r + 1) (c + sg_S (fun j => sg_rt (f * f - W j)) a k) (a + k)
  | 0, k, hk, h => by
    rw [fX12_strengthAt_L40]
    exact ⟨fun _ => h, fun hh => absurd (show i ≤ a + k by omega) hh⟩
  | r + 1, k, hk, h => by
    have hsq := sg_sq_le hf0 hf
    have hsq0 := sg_sq_nn f
    have hw := hW (a + k) (by omega) (by omega)
    have hb1 := hb (a + k) (by omega) (by omega)
    have h1 := sg_S_nn (g := fun j => sg_rt (f * f - W j)) (fun i => sg_rt_nn _) a k
    have h2 := sg_S_hi (g := fun j => sg_rt (f * f - W j)) (c := 2047) (fun i => sg_rt_le _) a k
    have h3 := sg_rt_nn (f * f - W (a + k))
    have h4 := sg_rt_le (f * f - W (a + k))
    have ih := sg_stL (K := K) hf0 hf hn hW hb ha hi hc0 hc r (k + 1) (by omega) (by rw [show k + 1 + r = k + (r + 1) by omega]; exact h)
    rw [show a + ((k + 1 : Nat) : Int) = a + k + 1 by omega] at ih
    simp only [sg_S] at ih
    rw [fX12_strengthAt_L40]
    simp only [hw]
    refine ⟨fun hh => absurd hh (by omega), fun _ => ⟨by omega, by omega, tX12_root (by omega) ⟨by omega, by omega, ?_⟩⟩⟩
    rw [Int.add_assoc]; exact ih
theorem tX12_strengthAt {W : Int → Int} {f n p u i : Int} {s : sg_M} {Q : Int → Prop} (hf0 : 0 ≤ f) (hf : f ≤ 2000) (hn : n ≤ 60) (hW : ∀ i, 0 ≤ i → i < n → s 73 i = W i) (hb : ∀ i, 0 ≤ i → i < n → 0 ≤ W i ∧ W i ≤ 4000000)
    (hu : s 64 28 = u) (hu0 : 1 ≤ u) (hu1 : u ≤ 9999) (hp0 : 0 ≤ p) (hp : p < n) (ha : s 64 32 = sg_rf1 W p f) (hl : s 64 33 = sg_rl1 W n p f) (hi : i < n)
    (h : Q (sg_st W u f (sg_rf1 W p f) (sg_rl1 W n p f) i)) : fX12_strengthAt s i f Q := by
  have hr := sg_rn_rg W hp0 hp f
  have hsq := sg_sq_le hf0 hf
  have hsq0 := sg_sq_nn f
  unfold fX12_strengthAt
  rw [ha, hl, hu]
  unfold sg_st at h
  refine ⟨fun g => by rw [if_pos g] at h; exact h, fun g => ⟨fun g2 => ?_, fun g2 => ?_⟩⟩
  · rw [if_neg g, if_neg (by omega)] at h
    have hb1 := hb i (by omega) (by omega)
    have h3 := sg_rt_nn (f * f - W i)
    have h4 := sg_rt_le (f * f - W i)
    rw [hW i (by omega) (by omega)]
    refine ⟨by omega, by omega, tX12_root (by omega) ?_⟩
    have ed : Int.tdiv (sg_rt (f * f - W i)) 2 = sg_rt (f * f - W i) / 2 := Int.tdiv_eq_ediv_of_nonneg h3
    refine ⟨by rw [ed]; omega, (i - sg_rf1 W p f).toNat + 1, ?_⟩
    have h5 := sg_S_nn (g := fun j => sg_rt (f * f - W j)) (fun i => sg_rt_nn _) (sg_rf1 W p f) (i - sg_rf1 W p f).toNat
    have h6 := sg_S_hi (g := fun j => sg_rt (f * f - W j)) (c := 2047) (fun i => sg_rt_le _) (sg_rf1 W p f) (i - sg_rf1 W p f).toNat
    have key := sg_stL (W := W) (f := f) (n := n) (a := sg_rf1 W p f) (i := i) (c := Int.tdiv (sg_rt (f * f - W i)) 2) (s := s) hf0 hf hn hW hb hr.1 hi (by omega) (by omega)
      (K := fun x3 => sg_R (2 * u) ∧ 2 * u ≠ 0 ∧ ∀ v26 : Int, v26 = Int.tmod x3 (2 * u) → sg_R v26 ∧ sg_R (2 * u - v26) ∧ ((2 * u - v26 ≤ v26 → sg_R (2 * u - v26) ∧ Q (2 * u - v26)) ∧ (¬ (2 * u - v26 ≤ v26) → Q v26)))
      (i - sg_rf1 W p f).toNat 0 (by omega) ?_
    · simpa [sg_S] using key
    · rw [Nat.zero_add]
      change sg_R (2 * u) ∧ 2 * u ≠ 0 ∧ ∀ v26 : Int, v26 = Int.tmod (sg_fo W f (sg_rf1 W p f) i) (2 * u) → _
      have hx : 0 ≤ sg_fo W f (sg_rf1 W p f) i := by unfold sg_fo; omega
      have hm0 := Int.tmod_nonneg (2 * u) hx
      have hm1 := Int.tmod_lt_of_pos (sg_fo W f (sg_rf1 W p f) i) (show 0 < 2 * u by omega)
      refine ⟨by omega, by omega, fun v hv => ?_⟩
      rw [← hv] at hm0 hm1
      unfold sg_hp at h
      rw [← hv] at h
      refine ⟨by omega, by omega, fun g3 => ⟨by omega, ?_⟩, fun g3 => ?_⟩
      · rw [if_pos g3] at h; exact h
      · rw [if_neg g3] at h; exact h
  · rw [if_neg g, if_pos (by omega)] at h; exact h
theorem sg_hp_rg {u x : Int} (hu : 1 ≤ u) (hx : 0 ≤ x) : 0 ≤ sg_hp u x ∧ sg_hp u x ≤ u := by
  have hm0 := Int.tmod_nonneg (2 * u) hx
  have hm1 := Int.tmod_lt_of_pos x (show 0 < 2 * u by omega)
  unfold sg_hp; split <;> omega
theorem sg_st_rg {W : Int → Int} {u f a b i : Int} (hu : 1 ≤ u) : 0 ≤ sg_st W u f a b i ∧ sg_st W u f a b i ≤ u := by
  unfold sg_st
  split
  · omega
  · split
    · omega
    · refine sg_hp_rg hu ?_
      have h3 := sg_rt_nn (f * f - W i)
      have h5 := sg_S_nn (g := fun j => sg_rt (f * f - W j)) (fun i => sg_rt_nn _) a (i - a).toNat
      have ed : Int.tdiv (sg_rt (f * f - W i)) 2 = sg_rt (f * f - W i) / 2 := Int.tdiv_eq_ediv_of_nonneg h3
      unfold sg_fo; rw [ed]; omega
end SGVa
