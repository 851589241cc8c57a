/-! LEVEL 2, a blade as numbers: B 0..3 are widths, thicks, teeth, owns by place; B 4 0..2 are how many, unit, bear. -/
noncomputable section SGBl
theorem sp_max_le {x y c : Int} (h1 : x ≤ c) (h2 : y ≤ c) : sg_max x y ≤ c := by unfold sg_max; split <;> assumption
theorem sp_td {x g c : Int} (hg : 0 < g) (h1 : -(c * g) ≤ x) (h2 : x ≤ c * g) : -c ≤ Int.tdiv x g ∧ Int.tdiv x g ≤ c := by
  have key : ∀ z : Int, 0 ≤ z → z ≤ c * g → 0 ≤ Int.tdiv z g ∧ Int.tdiv z g ≤ c := by
    intro z hz hzc
    rw [Int.tdiv_eq_ediv_of_nonneg hz]
    exact ⟨Int.ediv_nonneg hz (by omega), Int.ediv_le_of_le_mul hg hzc⟩
  rcases Int.le_total 0 x with h | h
  · have := key x h h2; omega
  · have := key (-x) (by omega) (by omega)
    rw [Int.neg_tdiv] at this; omega
theorem sp_td1 {x y c : Int} (hy : 1 ≤ y) (hc : 0 ≤ c) (h1 : -c ≤ x) (h2 : x ≤ c) : -c ≤ Int.tdiv x y ∧ Int.tdiv x y ≤ c := by
  have : c * 1 ≤ c * y := Int.mul_le_mul_of_nonneg_left hy hc
  exact sp_td (by omega) (by omega) (by omega)
theorem sp_mu {a x c : Int} (hx : 0 ≤ x) (h1 : -c ≤ a) (h2 : a ≤ c) : -(c * x) ≤ a * x ∧ a * x ≤ c * x := by
  have e1 : a * x ≤ c * x := Int.mul_le_mul_of_nonneg_right h2 hx
  have e2 : -c * x ≤ a * x := Int.mul_le_mul_of_nonneg_right h1 hx
  rw [Int.neg_mul] at e2; exact ⟨e2, e1⟩
def sp_sf (B : sg_M) (i : Int) : Int := (((B 0 i - B 2 i) * B 1 i) * B 1 i) * B 1 i
def sp_tu (B : sg_M) (a b i : Int) : Int := Int.tdiv (a * (B 4 0 - 1 - i) + b * i) (B 4 0 - 1)
def sp_cu (B : sg_M) (a b i : Int) : Int := sg_max (-2000) (sg_min 2000 (Int.tdiv (1000 * sp_tu B a b i) (sp_sf B i) + B 3 i))
def sp_wl (B : sg_M) (a b i : Int) : Int := sp_cu B a b i * sp_cu B a b i
def sp_sr (B : sg_M) (a b i : Int) : Int := sg_abs (sp_cu B a b i) * B 1 i
def sp_ms (B : sg_M) (a b : Int) : Nat → Int
  | 0 => 0
  | m + 1 => sg_max (sp_ms B a b m) (sp_sr B a b m)
def sp_bk (B : sg_M) (a b : Int) : Nat → Int
  | 0 => -1
  | m + 1 => if sp_bk B a b m ≠ -1 then sp_bk B a b m else if sp_sr B a b m ≤ B 4 2 then -1 else m
def sp_ok (B : sg_M) : Prop := 3 ≤ B 4 0 ∧ B 4 0 ≤ 60 ∧ 1 ≤ B 4 1 ∧ B 4 1 ≤ 9999 ∧ 1 ≤ B 4 2 ∧ B 4 2 ≤ 9999 ∧
  ∀ i, 0 ≤ i → i < B 4 0 → 1 ≤ B 0 i ∧ B 0 i ≤ 99 ∧ 1 ≤ B 1 i ∧ B 1 i ≤ 20 ∧ 0 ≤ B 2 i ∧ B 2 i < B 0 i ∧ -99 ≤ B 3 i ∧ B 3 i ≤ 99
theorem sp_sf_rg {B : sg_M} (h : sp_ok B) {i : Int} (h0 : 0 ≤ i) (h1 : i < B 4 0) : 1 ≤ sp_sf B i ∧ sp_sf B i ≤ 792000 := by
  obtain ⟨-, -, -, -, -, -, h⟩ := h
  obtain ⟨a1, a2, a3, a4, a5, a6, -, -⟩ := h i h0 h1
  unfold sp_sf
  have m1 : ∀ x c : Int, 1 ≤ x → x ≤ c → 1 ≤ x * B 1 i ∧ x * B 1 i ≤ c * 20 := by
    intro x c hx hc
    have e1 : 1 * 1 ≤ x * B 1 i := Int.mul_le_mul hx a3 (by omega) (by omega)
    have e2 : x * B 1 i ≤ c * 20 := Int.mul_le_mul hc a4 (by omega) (by omega)
    omega
  have k1 := m1 (B 0 i - B 2 i) 99 (by omega) (by omega)
  have k2 := m1 _ (99 * 20) k1.1 k1.2
  have k3 := m1 _ (99 * 20 * 20) k2.1 k2.2
  omega
theorem sp_tu0 {B : sg_M} {a b i : Int} (h : sp_ok B) (ha : -9999 ≤ a ∧ a ≤ 9999) (hb : -9999 ≤ b ∧ b ≤ 9999) (h0 : 0 ≤ i) (h1 : i < B 4 0) :
    -(9999 * (B 4 0 - 1)) ≤ a * (B 4 0 - 1 - i) + b * i ∧ a * (B 4 0 - 1 - i) + b * i ≤ 9999 * (B 4 0 - 1) := by
  have k1 := sp_mu (a := a) (x := B 4 0 - 1 - i) (c := 9999) (by omega) ha.1 ha.2
  have k2 := sp_mu (a := b) (x := i) (c := 9999) h0 hb.1 hb.2
  omega
theorem sp_tu_rg {B : sg_M} {a b i : Int} (h : sp_ok B) (ha : -9999 ≤ a ∧ a ≤ 9999) (hb : -9999 ≤ b ∧ b ≤ 9999) (h0 : 0 ≤ i) (h1 : i < B 4 0) : -9999 ≤ sp_tu B a b i ∧ sp_tu B a b i ≤ 9999 := by
  have k := sp_tu0 h ha hb h0 h1
  have hn := h.1
  exact sp_td (by omega) k.1 k.2
theorem sp_cu0 {B : sg_M} {a b i : Int} (h : sp_ok B) (ha : -9999 ≤ a ∧ a ≤ 9999) (hb : -9999 ≤ b ∧ b ≤ 9999) (h0 : 0 ≤ i) (h1 : i < B 4 0) :
    -9999000 ≤ Int.tdiv (1000 * sp_tu B a b i) (sp_sf B i) ∧ Int.tdiv (1000 * sp_tu B a b i) (sp_sf B i) ≤ 9999000 := by
  have k := sp_tu_rg h ha hb h0 h1
  have k2 := sp_sf_rg h h0 h1
  exact sp_td1 k2.1 (by omega) (by omega) (by omega)
theorem sp_cu_rg (B : sg_M) (a b i : Int) : -2000 ≤ sp_cu B a b i ∧ sp_cu B a b i ≤ 2000 := by
  unfold sp_cu sg_max sg_min
  split <;> split <;> omega
theorem sp_wl_rg (B : sg_M) (a b i : Int) : 0 ≤ sp_wl B a b i ∧ sp_wl B a b i ≤ 4000000 := by
  have h := sp_cu_rg B a b i
  refine ⟨sg_sq_nn _, ?_⟩
  unfold sp_wl
  rcases Int.le_total 0 (sp_cu B a b i) with h1 | h1
  · have := sg_sq_le h1 h.2; omega
  · have := sg_sq_le (a := -sp_cu B a b i) (b := 2000) (by omega) (by omega)
    rw [Int.neg_mul_neg] at this; omega
theorem sp_abs_rg (B : sg_M) (a b i : Int) : 0 ≤ sg_abs (sp_cu B a b i) ∧ sg_abs (sp_cu B a b i) ≤ 2000 := by
  have h := sp_cu_rg B a b i
  unfold sg_abs; split <;> omega
theorem sp_sr_rg {B : sg_M} {a b i : Int} (h : sp_ok B) (h0 : 0 ≤ i) (h1 : i < B 4 0) : 0 ≤ sp_sr B a b i ∧ sp_sr B a b i ≤ 40000 := by
  have k := sp_abs_rg B a b i
  have k2 := h.2.2.2.2.2.2 i h0 h1
  have e1 : sp_sr B a b i ≤ 2000 * 20 := Int.mul_le_mul k.2 k2.2.2.2.1 (by omega) (by omega)
  have e2 : 0 ≤ sp_sr B a b i := Int.mul_nonneg k.1 (by omega)
  omega
theorem sp_bk_rg (B : sg_M) (a b : Int) : ∀ m : Nat, -1 ≤ sp_bk B a b m ∧ sp_bk B a b m < m
  | 0 => by simp [sp_bk]
  | m + 1 => by
    have h := sp_bk_rg B a b m
    unfold sp_bk; repeat' split
    all_goals omega
/-- the walls, 0 outside -/
def sp_W (B : sg_M) (a b i : Int) : Int := if 0 ≤ i ∧ i < B 4 0 then sp_wl B a b i else 0
theorem sp_W_in {B : sg_M} {a b i : Int} (h0 : 0 ≤ i) (h1 : i < B 4 0) : sp_W B a b i = sp_wl B a b i := by unfold sp_W; rw [if_pos ⟨h0, h1⟩]
theorem sp_W_rg (B : sg_M) (a b i : Int) : 0 ≤ sp_W B a b i ∧ sp_W B a b i ≤ 4000000 := by
  have := sp_wl_rg B a b i
  unfold sp_W; split <;> omega
/-- whether the walls from the last r of n on that are x high end at a higher one or at the blade's end -/
def sp_bh (W : Int → Int) (n x : Int) : Nat → Int
  | 0 => 1
  | r + 1 => if W (n - ((r : Int) + 1)) ≠ x then (if W (n - ((r : Int) + 1)) ≤ x then 0 else 1) else sp_bh W n x r
def sp_pl (W : Int → Int) (n i : Int) : Int := if 0 < i ∧ ¬ (W i < W (i - 1)) then 0 else sp_bh W n (W i) (n - 1 - i).toNat
def sp_ps (W : Int → Int) (n : Int) : Nat → List Int
  | 0 => []
  | m + 1 => if sp_pl W n m = 0 then sp_ps W n m else sp_ps W n m ++ [(m : Int)]
theorem sp_bh_B (W : Int → Int) (n x : Int) : ∀ r : Nat, sp_bh W n x r = 0 ∨ sp_bh W n x r = 1
  | 0 => Or.inr rfl
  | r + 1 => by
    have := sp_bh_B W n x r
    unfold sp_bh; repeat' split
    all_goals first | assumption | exact Or.inr rfl | exact Or.inl rfl
theorem sp_pl_B (W : Int → Int) (n i : Int) : sp_pl W n i = 0 ∨ sp_pl W n i = 1 := by
  unfold sp_pl; split
  · exact Or.inl rfl
  · exact sp_bh_B _ _ _ _
theorem sp_ps_len (W : Int → Int) (n : Int) : ∀ m : Nat, (sp_ps W n m).length ≤ m
  | 0 => by simp [sp_ps]
  | m + 1 => by
    have := sp_ps_len W n m
    unfold sp_ps; split
    · omega
    · simp only [List.length_append, List.length_cons, List.length_nil]; omega
theorem sp_ps_mem (W : Int → Int) (n : Int) : ∀ (m : Nat) (x : Int), x ∈ sp_ps W n m → 0 ≤ x ∧ x < m
  | 0, x, h => by simp [sp_ps] at h
  | m + 1, x, h => by
    have ih := sp_ps_mem W n m x
    unfold sp_ps at h; split at h
    · have := ih h; omega
    · rcases List.mem_append.mp h with h | h
      · have := ih h; omega
      · have := List.mem_singleton.mp h; omega
/-- thickened -/
def sp_th (B : sg_M) (s e : Int) : sg_M := fun k i => if k = 1 then (if 0 ≤ i ∧ i < B 4 0 then s + Int.tdiv ((e - s) * i) (B 4 0 - 1) else 0) else B k i
theorem sp_th_rg {B : sg_M} (h : sp_ok B) {s e i : Int} (hs : 1 ≤ s ∧ s ≤ 20) (he : 1 ≤ e ∧ e ≤ 20) (h0 : 0 ≤ i) (h1 : i < B 4 0) :
    -(19 * i) ≤ (e - s) * i ∧ (e - s) * i ≤ 19 * i ∧ 1 ≤ s + Int.tdiv ((e - s) * i) (B 4 0 - 1) ∧ s + Int.tdiv ((e - s) * i) (B 4 0 - 1) ≤ 20 := by
  have hn := h.1
  have k := sp_mu (a := e - s) (x := i) (c := 19) h0 (by omega) (by omega)
  refine ⟨k.1, k.2, ?_⟩
  rcases Int.le_total s e with hse | hse
  · have e1 : 0 ≤ (e - s) * i := Int.mul_nonneg (by omega) h0
    have e2 : (e - s) * i ≤ (e - s) * (B 4 0 - 1) := Int.mul_le_mul_of_nonneg_left (by omega) (by omega)
    rw [Int.tdiv_eq_ediv_of_nonneg e1]
    have e3 := Int.ediv_le_of_le_mul (show 0 < B 4 0 - 1 by omega) e2
    have e4 : 0 ≤ (e - s) * i / (B 4 0 - 1) := Int.ediv_nonneg e1 (by omega)
    omega
  · have e1 : 0 ≤ (s - e) * i := Int.mul_nonneg (by omega) h0
    have e2 : (s - e) * i ≤ (s - e) * (B 4 0 - 1) := Int.mul_le_mul_of_nonneg_left (by omega) (by omega)
    have en : (e - s) * i = -((s - e) * i) := by rw [← Int.neg_mul]; congr 1; omega
    rw [en, Int.neg_tdiv, Int.tdiv_eq_ediv_of_nonneg e1]
    have e3 := Int.ediv_le_of_le_mul (show 0 < B 4 0 - 1 by omega) e2
    have e4 : 0 ≤ (s - e) * i / (B 4 0 - 1) := Int.ediv_nonneg e1 (by omega)
    omega
theorem sp_th_ok {B : sg_M} (h : sp_ok B) {s e : Int} (hs : 1 ≤ s ∧ s ≤ 20) (he : 1 ≤ e ∧ e ≤ 20) : sp_ok (sp_th B s e) := by
  have h' := h
  obtain ⟨a1, a2, a3, a4, a5, a6, a7⟩ := h
  refine ⟨a1, a2, a3, a4, a5, a6, fun i h0 h1 => ?_⟩
  obtain ⟨b1, b2, b3, b4, b5, b6, b7, b8⟩ := a7 i h0 h1
  have k := sp_th_rg h' hs he h0 h1
  have e1 : sp_th B s e 1 i = s + Int.tdiv ((e - s) * i) (B 4 0 - 1) := by
    unfold sp_th; rw [if_pos rfl, if_pos ⟨h0, h1⟩]
  exact ⟨b1, b2, by rw [e1]; exact k.2.2.1, by rw [e1]; exact k.2.2.2, b5, b6, b7, b8⟩
end SGBl
