/-! LEVEL 2, the numbers: roots, sums of phases, runs, tones as functions of walls W (a wall a place), all over whole numbers. -/
noncomputable section SGPa
theorem sg_sq_le {a b : Int} (h0 : 0 ≤ a) (h : a ≤ b) : a * a ≤ b * b := Int.mul_le_mul h h h0 (by omega)
theorem sg_sq_lt {a b : Int} (h0 : 0 ≤ a) (h : a < b) : a * a < b * b := by
  have h1 : a * a ≤ a * b := Int.mul_le_mul_of_nonneg_left (by omega) h0
  have h2 : a * b < b * b := Int.mul_lt_mul_of_pos_right h (by omega)
  omega
theorem sg_sq_inv {a b : Int} (hb : 0 ≤ b) (h : a * a ≤ b * b) : a ≤ b := by
  rcases Int.lt_or_le b a with h' | h'
  · have := sg_sq_lt hb h'; omega
  · exact h'
theorem sg_sq_invlt {a b : Int} (hb : 0 ≤ b) (h : a * a < b * b) : a < b := by
  rcases Int.lt_or_le a b with h' | h'
  · exact h'
  · have := sg_sq_le hb h'; omega
theorem sg_sq_nn (a : Int) : 0 ≤ a * a := by
  rcases Int.le_total 0 a with h | h
  · exact Int.mul_nonneg h h
  · exact Int.mul_nonneg_of_nonpos_of_nonpos h h
theorem sg_sq_succ (r : Int) : (r + 1) * (r + 1) = r * r + 2 * r + 1 := by
  rw [Int.add_mul, Int.mul_add, Int.mul_one, Int.one_mul]; omega
/-- the root, cut; 0 of what is not above 0; below 2048 -/
def sg_rtN (v : Int) : Nat → Int
  | 0 => 0
  | k + 1 => if ((k : Int) + 1) * ((k : Int) + 1) ≤ v then (k : Int) + 1 else sg_rtN v k
/-- the same, but the machine that checks does not reckon it out -/
def sg_rt (v : Int) : Int := Classical.choose (⟨sg_rtN v 2047, rfl⟩ : ∃ r : Int, r = sg_rtN v 2047)
theorem sg_rt_is (v : Int) : sg_rt v = sg_rtN v 2047 := Classical.choose_spec (⟨sg_rtN v 2047, rfl⟩ : ∃ r : Int, r = sg_rtN v 2047)
theorem sg_rtN_le (v : Int) : ∀ k : Nat, 0 ≤ sg_rtN v k ∧ sg_rtN v k ≤ k
  | 0 => by simp [sg_rtN]
  | k + 1 => by
    have h := sg_rtN_le v k
    simp only [sg_rtN]
    split
    · omega
    · omega
theorem sg_rtN_sq {v : Int} (hv : 0 ≤ v) : ∀ k : Nat, sg_rtN v k * sg_rtN v k ≤ v
  | 0 => by simpa [sg_rtN] using hv
  | k + 1 => by
    have h := sg_rtN_sq hv k
    simp only [sg_rtN]
    split
    · assumption
    · exact h
theorem sg_rtN_max (v r : Int) (h0 : 0 ≤ r) (hr : r * r ≤ v) : ∀ k : Nat, r ≤ k → r ≤ sg_rtN v k
  | 0 => by intro h; simp only [sg_rtN]; omega
  | k + 1 => by
    intro h
    have h1 := sg_rtN_max v r h0 hr k
    simp only [sg_rtN]
    split
    · omega
    · rename_i hn
      by_cases hk : r ≤ k
      · exact h1 hk
      · exfalso
        have : r = (k : Int) + 1 := by omega
        rw [this] at hr; exact hn hr
theorem sg_rt_nn (v : Int) : 0 ≤ sg_rt v := by rw [sg_rt_is]; exact (sg_rtN_le v 2047).1
theorem sg_rt_le (v : Int) : sg_rt v ≤ 2047 := by rw [sg_rt_is]; exact (sg_rtN_le v 2047).2
theorem sg_rt_sq {v : Int} (hv : 0 ≤ v) : sg_rt v * sg_rt v ≤ v := by rw [sg_rt_is]; exact sg_rtN_sq hv 2047
theorem sg_rt_max {v r : Int} (h0 : 0 ≤ r) (hr : r * r ≤ v) (h : r ≤ 2047) : r ≤ sg_rt v := by rw [sg_rt_is]; exact sg_rtN_max v r h0 hr 2047 h
theorem sg_rt_neg {v : Int} (hv : v ≤ 0) : sg_rt v = 0 := by
  have h0 := sg_rt_nn v
  by_cases h : sg_rt v = 0
  · exact h
  · exfalso
    have key : ∀ k : Nat, sg_rtN v k = 0 := by
      intro k
      induction k with
      | zero => rfl
      | succ k ih =>
        simp only [sg_rtN]
        split
        · rename_i h1
          have := sg_sq_lt (a := 0) (b := (k : Int) + 1) (by omega) (by omega)
          omega
        · exact ih
    exact h (by rw [sg_rt_is]; exact key 2047)
theorem sg_rt_eq {v r : Int} (h0 : 0 ≤ r) (hr : r * r ≤ v) (hv : v < (r + 1) * (r + 1)) (h : r ≤ 2047) : sg_rt v = r := by
  have h1 := sg_rt_max h0 hr h
  have h2 := sg_rt_nn v
  have h3 : sg_rt v * sg_rt v ≤ v := sg_rt_sq (by have := sg_sq_nn r; omega)
  have h4 : sg_rt v < r + 1 := sg_sq_invlt (by omega) (by omega)
  omega
theorem sg_rt_mono {u v : Int} (h : u ≤ v) : sg_rt u ≤ sg_rt v := by
  rcases Int.le_total u 0 with hu | hu
  · rw [sg_rt_neg hu]; exact sg_rt_nn v
  · exact sg_rt_max (sg_rt_nn u) (Int.le_trans (sg_rt_sq hu) h) (sg_rt_le u)
theorem sg_rt_pos {v : Int} (h : 0 < v) : 1 ≤ sg_rt v := sg_rt_max (by omega) (by omega) (by omega)
theorem sg_rt_hi {v : Int} (h : v < 4194304) : v < (sg_rt v + 1) * (sg_rt v + 1) := by
  rcases Int.lt_or_le v ((sg_rt v + 1) * (sg_rt v + 1)) with h1 | h1
  · exact h1
  · exfalso
    have h0 := sg_rt_nn v
    have h2 : sg_rt v + 1 < 2048 := sg_sq_invlt (by omega) (by omega)
    have := sg_rt_max (by omega) h1 (by omega)
    omega
end SGPa
noncomputable section SGPb
/-- the phases below m, from m - 1 down while the walls are lower than q -/
def sg_dn (W : Int → Int) (q : Int) : Nat → Int
  | 0 => 0
  | m + 1 => if W m < q then sg_rt (q - W m) + sg_dn W q m else 0
/-- the phases of the last m of n, upward while the walls are lower than q -/
def sg_rg (W : Int → Int) (q n : Int) : Nat → Int
  | 0 => 0
  | m + 1 => if W (n - ((m : Int) + 1)) < q then sg_rt (q - W (n - ((m : Int) + 1))) + sg_rg W q n m else 0
def sg_fr (W : Int → Int) (q : Int) : Nat → Int
  | 0 => 0
  | m + 1 => if W m < q then sg_fr W q m else (m : Int) + 1
def sg_lr (W : Int → Int) (q n : Int) : Nat → Int
  | 0 => n - 1
  | m + 1 => if W (n - ((m : Int) + 1)) < q then sg_lr W q n m else n - ((m : Int) + 1) - 1
def sg_ph (W : Int → Int) (n p f : Int) : Int := if f * f ≤ W p then 0 else sg_rt (f * f - W p) + sg_dn W (f * f) p.toNat + sg_rg W (f * f) n (n - 1 - p).toNat
/-- the first of the run of tone f round p, and the last -/
def sg_rf1 (W : Int → Int) (p f : Int) : Int := if f * f ≤ W p then p else sg_fr W (f * f) p.toNat
def sg_rl1 (W : Int → Int) (n p f : Int) : Int := if f * f ≤ W p then p else sg_lr W (f * f) n (n - 1 - p).toNat
theorem sg_dn_nn (W : Int → Int) (q : Int) : ∀ m : Nat, 0 ≤ sg_dn W q m
  | 0 => by simp [sg_dn]
  | m + 1 => by
    have h := sg_dn_nn W q m
    have h1 := sg_rt_nn (q - W m)
    simp only [sg_dn]; split <;> omega
theorem sg_rg_nn (W : Int → Int) (q n : Int) : ∀ m : Nat, 0 ≤ sg_rg W q n m
  | 0 => by simp [sg_rg]
  | m + 1 => by
    have h := sg_rg_nn W q n m
    have h1 := sg_rt_nn (q - W (n - ((m : Int) + 1)))
    simp only [sg_rg]; split <;> omega
theorem sg_dn_hi (W : Int → Int) (q : Int) : ∀ m : Nat, sg_dn W q m ≤ 2047 * m
  | 0 => by simp [sg_dn]
  | m + 1 => by
    have h := sg_dn_hi W q m
    have h1 := sg_rt_le (q - W m)
    simp only [sg_dn]; split <;> omega
theorem sg_rg_hi (W : Int → Int) (q n : Int) : ∀ m : Nat, sg_rg W q n m ≤ 2047 * m
  | 0 => by simp [sg_rg]
  | m + 1 => by
    have h := sg_rg_hi W q n m
    have h1 := sg_rt_le (q - W (n - ((m : Int) + 1)))
    simp only [sg_rg]; split <;> omega
theorem sg_dn_mono (W : Int → Int) {q q' : Int} (hq : q ≤ q') : ∀ m : Nat, sg_dn W q m ≤ sg_dn W q' m
  | 0 => by simp [sg_dn]
  | m + 1 => by
    have h := sg_dn_mono W hq m
    have h1 : sg_rt (q - W m) ≤ sg_rt (q' - W m) := sg_rt_mono (by omega)
    have h2 := sg_rt_nn (q' - W m)
    have h3 := sg_dn_nn W q' m
    simp only [sg_dn]; split <;> split <;> omega
theorem sg_rg_mono (W : Int → Int) {q q' : Int} (n : Int) (hq : q ≤ q') : ∀ m : Nat, sg_rg W q n m ≤ sg_rg W q' n m
  | 0 => by simp [sg_rg]
  | m + 1 => by
    have h := sg_rg_mono W n hq m
    have h1 : sg_rt (q - W (n - ((m : Int) + 1))) ≤ sg_rt (q' - W (n - ((m : Int) + 1))) := sg_rt_mono (by omega)
    have h2 := sg_rt_nn (q' - W (n - ((m : Int) + 1)))
    have h3 := sg_rg_nn W q' n m
    simp only [sg_rg]; split <;> split <;> omega
theorem sg_ph_nn (W : Int → Int) (n p f : Int) : 0 ≤ sg_ph W n p f := by
  have h1 := sg_rt_nn (f * f - W p)
  have h2 := sg_dn_nn W (f * f) p.toNat
  have h3 := sg_rg_nn W (f * f) n (n - 1 - p).toNat
  unfold sg_ph; split <;> omega
theorem sg_ph_mono (W : Int → Int) (n p : Int) {f g : Int} (hf : 0 ≤ f) (h : f ≤ g) : sg_ph W n p f ≤ sg_ph W n p g := by
  have hq := sg_sq_le hf h
  have h1 : sg_rt (f * f - W p) ≤ sg_rt (g * g - W p) := sg_rt_mono (by omega)
  have h2 := sg_dn_mono W hq p.toNat
  have h3 := sg_rg_mono W n hq (n - 1 - p).toNat
  have h4 := sg_ph_nn W n p g
  unfold sg_ph at *
  split <;> split <;> omega
theorem sg_fr_rg (W : Int → Int) (q : Int) : ∀ m : Nat, 0 ≤ sg_fr W q m ∧ sg_fr W q m ≤ m
  | 0 => by simp [sg_fr]
  | m + 1 => by
    have h := sg_fr_rg W q m
    simp only [sg_fr]; split <;> omega
theorem sg_lr_rg (W : Int → Int) (q n : Int) : ∀ m : Nat, n - 1 - m ≤ sg_lr W q n m ∧ sg_lr W q n m ≤ n - 1
  | 0 => by simp [sg_lr]
  | m + 1 => by
    have h := sg_lr_rg W q n m
    simp only [sg_lr]; split <;> omega
/-- the least tone up to k that has enough phases, 0 without one -/
def sg_tnN (W : Int → Int) (n p need : Int) : Nat → Int
  | 0 => 0
  | k + 1 => if sg_tnN W n p need k ≠ 0 then sg_tnN W n p need k else if need ≤ sg_ph W n p ((k : Int) + 1) then (k : Int) + 1 else 0
theorem sg_tnN_spec (W : Int → Int) (n p need : Int) : ∀ k : Nat,
    (sg_tnN W n p need k = 0 ∧ ∀ f : Int, 1 ≤ f → f ≤ k → sg_ph W n p f < need) ∨ (1 ≤ sg_tnN W n p need k ∧ sg_tnN W n p need k ≤ k ∧ need ≤ sg_ph W n p (sg_tnN W n p need k) ∧ ∀ f : Int, 1 ≤ f → f < sg_tnN W n p need k → sg_ph W n p f < need)
  | 0 => by left; exact ⟨rfl, fun f h1 h2 => by omega⟩
  | k + 1 => by
    have h := sg_tnN_spec W n p need k
    simp only [sg_tnN]
    rcases h with ⟨h1, h2⟩ | ⟨h1, h2, h3, h4⟩
    · rw [if_neg (by rw [h1]; simp)]
      split
      · rename_i h5
        right
        exact ⟨by omega, by omega, h5, fun f g1 g2 => h2 f g1 (by omega)⟩
      · rename_i h5
        left
        refine ⟨rfl, fun f g1 g2 => ?_⟩
        by_cases hf : f = (k : Int) + 1
        · rw [hf]; omega
        · exact h2 f g1 (by omega)
    · rw [if_pos (by omega)]
      right
      exact ⟨h1, by omega, h3, h4⟩
def sg_tn (W : Int → Int) (n p need : Int) : Int := Classical.choose (⟨sg_tnN W n p need 2000, rfl⟩ : ∃ r : Int, r = sg_tnN W n p need 2000)
theorem sg_tn_is (W : Int → Int) (n p need : Int) : sg_tn W n p need = sg_tnN W n p need 2000 := Classical.choose_spec (⟨sg_tnN W n p need 2000, rfl⟩ : ∃ r : Int, r = sg_tnN W n p need 2000)
theorem sg_tn_spec (W : Int → Int) (n p need : Int) : (sg_tn W n p need = 0 ∧ ∀ f : Int, 1 ≤ f → f ≤ 2000 → sg_ph W n p f < need) ∨ (1 ≤ sg_tn W n p need ∧ sg_tn W n p need ≤ 2000 ∧ need ≤ sg_ph W n p (sg_tn W n p need) ∧ ∀ f : Int, 1 ≤ f → f < sg_tn W n p need → sg_ph W n p f < need) := by
  rw [sg_tn_is]; exact sg_tnN_spec W n p need 2000
theorem sg_tn_none {W : Int → Int} {n p need : Int} (h : sg_ph W n p 2000 < need) : sg_tn W n p need = 0 := by
  rcases sg_tn_spec W n p need with h1 | ⟨h1, h2, h3, h4⟩
  · exact h1.1
  · exfalso
    have := sg_ph_mono W n p (f := sg_tn W n p need) (g := 2000) (by omega) (by omega)
    omega
theorem sg_tn_eq {W : Int → Int} {n p need f : Int} (h1 : 1 ≤ f) (h2 : f ≤ 2000) (h3 : need ≤ sg_ph W n p f) (h4 : sg_ph W n p (f - 1) < need) : sg_tn W n p need = f := by
  rcases sg_tn_spec W n p need with ⟨g1, g2⟩ | ⟨g1, g2, g3, g4⟩
  · have := g2 f h1 (by omega); omega
  · rcases Int.lt_trichotomy (sg_tn W n p need) f with h | h | h
    · have := sg_ph_mono W n p (f := sg_tn W n p need) (g := f - 1) (by omega) (by omega)
      omega
    · exact h
    · have := g4 f h1 h; omega
theorem sg_tn_rg (W : Int → Int) (n p need : Int) : 0 ≤ sg_tn W n p need ∧ sg_tn W n p need ≤ 2000 := by
  rcases sg_tn_spec W n p need with ⟨g1, g2⟩ | ⟨g1, g2, g3, g4⟩ <;> omega
theorem sg_tn_pos {W : Int → Int} {n p need : Int} (h : sg_tn W n p need ≠ 0) : 1 ≤ sg_tn W n p need ∧ need ≤ sg_ph W n p (sg_tn W n p need) ∧ ∀ f : Int, 1 ≤ f → f < sg_tn W n p need → sg_ph W n p f < need := by
  rcases sg_tn_spec W n p need with ⟨g1, g2⟩ | ⟨g1, g2, g3, g4⟩
  · exact absurd g1 h
  · exact ⟨g1, g3, g4⟩
end SGPb
noncomputable section SGPc
/-- sums -/
def sg_S (g : Int → Int) (a : Int) : Nat → Int
  | 0 => 0
  | k + 1 => sg_S g a k + g (a + k)
theorem sg_S_cons (g : Int → Int) (a : Int) : ∀ k : Nat, sg_S g a (k + 1) = g a + sg_S g (a + 1) k
  | 0 => by simp [sg_S]
  | k + 1 => by
    have h := sg_S_cons g a k
    rw [sg_S, h]
    simp only [sg_S]
    have : a + ((k + 1 : Nat) : Int) = a + 1 + (k : Int) := by omega
    rw [this]; omega
theorem sg_S_add (g : Int → Int) (a : Int) (j : Nat) : ∀ k : Nat, sg_S g a (j + k) = sg_S g a j + sg_S g (a + j) k
  | 0 => by simp [sg_S]
  | k + 1 => by
    have h := sg_S_add g a j k
    rw [show j + (k + 1) = (j + k) + 1 by omega, sg_S, h]
    simp only [sg_S]
    have : a + ((j + k : Nat) : Int) = a + (j : Int) + (k : Int) := by omega
    rw [this]; omega
theorem sg_S_nn {g : Int → Int} (hg : ∀ i, 0 ≤ g i) (a : Int) : ∀ k : Nat, 0 ≤ sg_S g a k
  | 0 => by simp [sg_S]
  | k + 1 => by have h := sg_S_nn hg a k; have := hg (a + k); simp only [sg_S]; omega
theorem sg_S_hi {g : Int → Int} {c : Int} (hg : ∀ i, g i ≤ c) (a : Int) : ∀ k : Nat, sg_S g a k ≤ c * k
  | 0 => by simp [sg_S]
  | k + 1 => by
    have h := sg_S_hi hg a k
    have := hg (a + k)
    simp only [sg_S]
    rw [show (((k + 1 : Nat) : Int)) = (k : Int) + 1 by omega, Int.mul_add]; omega
theorem sg_S_congr {g g' : Int → Int} (a : Int) : ∀ k : Nat, (∀ i, a ≤ i → i < a + k → g i = g' i) → sg_S g a k = sg_S g' a k
  | 0, _ => rfl
  | k + 1, h => by
    simp only [sg_S]
    rw [sg_S_congr a k (fun i h1 h2 => h i h1 (by omega)), h (a + k) (by omega) (by omega)]
theorem sg_dn_S (W : Int → Int) (q : Int) : ∀ m : Nat, sg_dn W q m = sg_S (fun i => sg_rt (q - W i)) (sg_fr W q m) ((m : Int) - sg_fr W q m).toNat
  | 0 => by simp [sg_dn, sg_fr, sg_S]
  | m + 1 => by
    have h := sg_dn_S W q m
    have hr := sg_fr_rg W q m
    simp only [sg_dn, sg_fr]
    split
    · have e : ((((m + 1 : Nat) : Int)) - sg_fr W q m).toNat = ((m : Int) - sg_fr W q m).toNat + 1 := by omega
      rw [h, e, sg_S]
      have e2 : sg_fr W q m + ((((m : Int) - sg_fr W q m).toNat : Nat) : Int) = m := by omega
      rw [e2]; omega
    · have e : ((((m + 1 : Nat) : Int)) - ((m : Int) + 1)).toNat = 0 := by omega
      rw [e]; rfl
theorem sg_rg_S (W : Int → Int) (q n : Int) : ∀ m : Nat, sg_rg W q n m = sg_S (fun i => sg_rt (q - W i)) (n - m) (sg_lr W q n m + 1 - (n - m)).toNat
  | 0 => by
    have e : (sg_lr W q n 0 + 1 - (n - ((0 : Nat) : Int))).toNat = 0 := by simp only [sg_lr]; omega
    rw [e]; rfl
  | m + 1 => by
    have h := sg_rg_S W q n m
    have hr := sg_lr_rg W q n m
    simp only [sg_rg, sg_lr]
    split
    · have e : (sg_lr W q n m + 1 - (n - ((m + 1 : Nat) : Int))).toNat = (sg_lr W q n m + 1 - (n - (m : Int))).toNat + 1 := by omega
      rw [e, sg_S_cons, h]
      have e2 : n - ((m + 1 : Nat) : Int) = n - ((m : Int) + 1) := by omega
      have e3 : n - ((m : Int) + 1) + 1 = n - (m : Int) := by omega
      rw [e2, e3]
    · have e : (n - ((m : Int) + 1) - 1 + 1 - (n - ((m + 1 : Nat) : Int))).toNat = 0 := by omega
      rw [e]; rfl
theorem sg_ph_S {W : Int → Int} {n p f : Int} (hp : 0 ≤ p) (hn : p < n) (hf : W p < f * f) :
    sg_ph W n p f = sg_S (fun i => sg_rt (f * f - W i)) (sg_rf1 W p f) (sg_rl1 W n p f + 1 - sg_rf1 W p f).toNat := by
  have h1 := sg_fr_rg W (f * f) p.toNat
  have h2 := sg_lr_rg W (f * f) n (n - 1 - p).toNat
  unfold sg_ph sg_rf1 sg_rl1
  rw [if_neg (by omega), if_neg (by omega), if_neg (by omega), sg_dn_S, sg_rg_S]
  have e : (sg_lr W (f * f) n (n - 1 - p).toNat + 1 - sg_fr W (f * f) p.toNat).toNat = (((p.toNat : Int) - sg_fr W (f * f) p.toNat).toNat + 1) + (sg_lr W (f * f) n (n - 1 - p).toNat + 1 - (n - ((n - 1 - p).toNat : Int))).toNat := by omega
  rw [e, sg_S_add, sg_S]
  have e1 : sg_fr W (f * f) p.toNat + ((((p.toNat : Int) - sg_fr W (f * f) p.toNat).toNat : Nat) : Int) = p := by omega
  have e2 : sg_fr W (f * f) p.toNat + (((((p.toNat : Int) - sg_fr W (f * f) p.toNat).toNat + 1 : Nat)) : Int) = n - ((n - 1 - p).toNat : Int) := by omega
  rw [e1, e2]; omega
theorem sg_rn_rg (W : Int → Int) {n p : Int} (hp : 0 ≤ p) (hn : p < n) (f : Int) : 0 ≤ sg_rf1 W p f ∧ sg_rf1 W p f ≤ p ∧ p ≤ sg_rl1 W n p f ∧ sg_rl1 W n p f < n := by
  have h1 := sg_fr_rg W (f * f) p.toNat
  have h2 := sg_lr_rg W (f * f) n (n - 1 - p).toNat
  unfold sg_rf1 sg_rl1
  split <;> omega
end SGPc
