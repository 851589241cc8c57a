/-! LEVEL 2: song, what it is, and the class's side. -/
noncomputable section SGKg
variable {La : sg_L} {s : sg_M} {z : sp_Z}
/-- the first cheapest of 0..j-1, and what it costs; c -1: not to be had -/
def sp_ch (c w : Int → Int) : Nat → Int × Int
  | 0 => (-1, 0)
  | j + 1 => if c j = -1 then sp_ch c w j else if (sp_ch c w j).1 = -1 then ((j : Int), c j + w j) else if (sp_ch c w j).2 ≤ c j + w j then sp_ch c w j else ((j : Int), c j + w j)
theorem sp_ch_spec (c w : Int → Int) : ∀ j : Nat, ((sp_ch c w j).1 = -1 ∧ ∀ i : Int, 0 ≤ i → i < j → c i = -1) ∨ (0 ≤ (sp_ch c w j).1 ∧ (sp_ch c w j).1 < j ∧ c (sp_ch c w j).1 ≠ -1 ∧ (sp_ch c w j).2 = c (sp_ch c w j).1 + w (sp_ch c w j).1 ∧ ∀ i : Int, 0 ≤ i → i < (sp_ch c w j).1 → c i ≠ -1 → (sp_ch c w j).2 < c i + w i)
  | 0 => Or.inl ⟨rfl, fun i q1 q2 => by omega⟩
  | j + 1 => by
    have ih := sp_ch_spec c w j
    rw [sp_ch]
    by_cases h0 : c j = -1
    · rw [if_pos h0]
      rcases ih with ⟨h1, h2⟩ | ⟨h1, h2, h3⟩
      · refine Or.inl ⟨h1, fun i q1 q2 => ?_⟩
        by_cases hi : i = j
        · rw [hi]; exact h0
        · exact h2 i q1 (by omega)
      · exact Or.inr ⟨h1, by omega, h3⟩
    · rw [if_neg h0]
      rcases ih with ⟨h1, h2⟩ | ⟨h1, h2, h3, h4, h5⟩
      · rw [if_pos h1]
        exact Or.inr ⟨by show 0 ≤ (j : Int); omega, by show (j : Int) < _; omega, h0, rfl, fun i q1 q2 q3 => absurd (h2 i q1 q2) q3⟩
      · rw [if_neg (by omega)]
        by_cases h6 : (sp_ch c w j).2 ≤ c j + w j
        · rw [if_pos h6]; exact Or.inr ⟨h1, by omega, h3, h4, h5⟩
        · rw [if_neg h6]
          refine Or.inr ⟨by show 0 ≤ (j : Int); omega, by show (j : Int) < _; omega, h0, rfl, fun i q1 q2 q3 => ?_⟩
          change i < (j : Int) at q2
          show c j + w j < c i + w i
          by_cases hi : i < (sp_ch c w j).1
          · have := h5 i q1 hi q3; omega
          · by_cases hi2 : i = (sp_ch c w j).1
            · rw [hi2]; omega
            · -- behind the cheapest so far nothing is cheaper
              have key : ∀ (n : Nat), (∀ i : Int, 0 ≤ i → i < n → c i ≠ -1 → (sp_ch c w n).1 ≠ -1 ∧ (sp_ch c w n).2 ≤ c i + w i) := by
                intro n
                induction n with
                | zero => intro i q1 q2; omega
                | succ n ihn =>
                  intro i q1 q2 q3
                  rw [sp_ch]
                  by_cases a0 : c n = -1
                  · rw [if_pos a0]
                    by_cases hin : i = n
                    · rw [hin] at q3; exact absurd a0 q3
                    · exact ihn i q1 (by omega) q3
                  · rw [if_neg a0]
                    by_cases hin : i = n
                    · split
                      · exact ⟨by show (n : Int) ≠ -1; omega, by show c n + w n ≤ _; rw [hin]; omega⟩
                      · rename_i a1
                        split
                        · exact ⟨a1, by rw [hin]; assumption⟩
                        · exact ⟨by show (n : Int) ≠ -1; omega, by show c n + w n ≤ _; rw [hin]; omega⟩
                    · have k := ihn i q1 (by omega) q3
                      rw [if_neg k.1]
                      split
                      · exact k
                      · rename_i a2
                        exact ⟨by show (n : Int) ≠ -1; omega, by show c n + w n ≤ _; omega⟩
              have := (key j i q1 q2 q3).2
              omega
theorem sp_ch_congr {c c' w w' : Int → Int} : ∀ j : Nat, (∀ i : Int, 0 ≤ i → i < j → c i = c' i ∧ w i = w' i) → sp_ch c w j = sp_ch c' w' j
  | 0, _ => rfl
  | j + 1, h => by
    have ih := sp_ch_congr j (fun i q1 q2 => h i q1 (by omega))
    have hj := h j (by omega) (by omega)
    rw [sp_ch, sp_ch, ih, hj.1, hj.2]
def sp_wy (M : sp_N) (j k : Int) : Int := sg_abs (sp_at (nKa M) j - sp_at (nKa M) k) + sg_abs (sp_at (nKb M) j - sp_at (nKb M) k)
/-- what the rest costs from note n - 1 - r on, played with bend k; -1: it can't be played -/
def sp_co (M : sp_N) (N : List Int) (sl : Int) : Nat → Int → Int
  | 0, k => if sp_nr (sp_at (sp_vq M) k) (sp_at N ((N.length : Int) - 1)) sl then 0 else -1
  | r + 1, k => if sp_nr (sp_at (sp_vq M) k) (sp_at N ((N.length : Int) - 1 - ((r : Int) + 1))) sl then (if (sp_ch (sp_co M N sl r) (sp_wy M k) (nKa M).length).1 = -1 then -1 else (sp_ch (sp_co M N sl r) (sp_wy M k) (nKa M).length).2) else -1
theorem sp_wy_rg (hw : sp_wZ z) {j k : Int} (hj : 0 ≤ j ∧ j < (nKa (zN z)).length) (hk : 0 ≤ k ∧ k < (nKa (zN z)).length) : 0 ≤ sp_wy (zN z) j k ∧ sp_wy (zN z) j k ≤ 40000 := by
  have hl := hw.2.2.1.2.2.2.2.2.1
  have a1 := sp_bd_at hw.2.2.1.2.2.2.2.2.2.2.1 hj.1 hj.2
  have a2 := sp_bd_at hw.2.2.1.2.2.2.2.2.2.2.1 hk.1 hk.2
  have b1 := sp_bd_at hw.2.2.1.2.2.2.2.2.2.2.2.1 hj.1 (by omega)
  have b2 := sp_bd_at hw.2.2.1.2.2.2.2.2.2.2.2.1 hk.1 (by omega)
  unfold sp_wy sg_abs; repeat' split
  all_goals omega
theorem sp_co_rg (hw : sp_wZ z) (N : List Int) (sl : Int) : ∀ (r : Nat) (k : Int), 0 ≤ k → k < (nKa (zN z)).length → -1 ≤ sp_co (zN z) N sl r k ∧ sp_co (zN z) N sl r k ≤ 40000 * r
  | 0, k, h0, h1 => by unfold sp_co; split <;> omega
  | r + 1, k, h0, h1 => by
    have ih := sp_co_rg hw N sl r
    rw [sp_co]
    split
    · rcases sp_ch_spec (sp_co (zN z) N sl r) (sp_wy (zN z) k) (nKa (zN z)).length with ⟨q, -⟩ | ⟨q1, q2, q3, q4, -⟩
      · rw [if_pos q]; omega
      · rw [if_neg (by omega), q4]
        have i1 := ih _ q1 q2
        have i2 := sp_wy_rg hw ⟨h0, h1⟩ ⟨q1, q2⟩
        omega
    · omega
def sp_st0 (M : sp_N) (N : List Int) (sl : Int) : Int := (sp_ch (sp_co M N sl (N.length - 1)) (fun _ => 0) (nKa M).length).1
/-- the bend for note i -/
def sp_ub (M : sp_N) (N : List Int) (sl : Int) : Nat → Int
  | 0 => sp_st0 M N sl
  | i + 1 => (sp_ch (sp_co M N sl (N.length - 2 - i)) (sp_wy M (sp_ub M N sl i)) (nKa M).length).1
def sp_us (M : sp_N) (N : List Int) (sl : Int) : Nat → List Int
  | 0 => []
  | m + 1 => sp_us M N sl m ++ [sp_ub M N sl m]
theorem sp_us_at (M : sp_N) (N : List Int) (sl : Int) (m : Nat) (i : Int) : (sp_us M N sl m).length = m ∧ (0 ≤ i → i < m → sp_at (sp_us M N sl m) i = sp_ub M N sl i.toNat) := by
  have := sp_snoc_at (g := sp_us M N sl) (f := fun i => sp_ub M N sl i.toNat) (fun m => by rw [sp_us, Int.toNat_natCast]) rfl m i
  exact this
theorem sp_ub_ok (hw : sp_wZ z) (N : List Int) (sl : Int) (h0 : sp_st0 (zN z) N sl ≠ -1) : ∀ i : Nat, i < N.length → 0 ≤ sp_ub (zN z) N sl i ∧ sp_ub (zN z) N sl i < (nKa (zN z)).length ∧ sp_co (zN z) N sl (N.length - 1 - i) (sp_ub (zN z) N sl i) ≠ -1
  | 0, hi => by
    rw [sp_ub]
    unfold sp_st0 at *
    rcases sp_ch_spec (sp_co (zN z) N sl (N.length - 1)) (fun _ => 0) (nKa (zN z)).length with ⟨q, -⟩ | ⟨q1, q2, q3, -⟩
    · exact absurd q h0
    · exact ⟨q1, q2, q3⟩
  | i + 1, hi => by
    have ih := sp_ub_ok hw N sl h0 i (by omega)
    rw [sp_ub]
    have e : N.length - 1 - i = (N.length - 2 - i) + 1 := by omega
    rw [e, sp_co] at ih
    obtain ⟨i1, i2, i3⟩ := ih
    split at i3
    · split at i3
      · exact absurd rfl i3
      · rename_i hne
        rcases sp_ch_spec (sp_co (zN z) N sl (N.length - 2 - i)) (sp_wy (zN z) (sp_ub (zN z) N sl i)) (nKa (zN z)).length with ⟨q, -⟩ | ⟨q1, q2, q3, -⟩
        · exact absurd q hne
        · refine ⟨q1, q2, ?_⟩
          rw [show N.length - 1 - (i + 1) = N.length - 2 - i by omega]; exact q3
    · exact absurd rfl i3
/-- the notes of the tape -/
def sp_nl (T : List Int) : Nat → Int → List Int
  | 0, _ => []
  | r + 1, i => sp_pr T i :: sp_nl T r (i + 2)
def sp_nv (T : List Int) : Nat → Int → Int
  | 0, _ => 1
  | r + 1, i => if 1 ≤ sp_pr T i ∧ sp_pr T i ≤ 2000 then sp_nv T r (i + 2) else 0
theorem sp_nl_len (T : List Int) : ∀ (r : Nat) (i : Int), (sp_nl T r i).length = r
  | 0, _ => rfl
  | r + 1, i => by rw [sp_nl, List.length_cons, sp_nl_len T r]
theorem sp_nv_B (T : List Int) : ∀ (r : Nat) (i : Int), sp_nv T r i = 0 ∨ sp_nv T r i = 1
  | 0, _ => Or.inr rfl
  | r + 1, i => by
    rw [sp_nv]; split
    · exact sp_nv_B T r _
    · exact Or.inl rfl
theorem sp_nl_rg {T : List Int} : ∀ (r : Nat) (i : Int), sp_nv T r i = 1 → ∀ x, x ∈ sp_nl T r i → 1 ≤ x ∧ x ≤ 2000
  | 0, _, _, x, hx => by simp [sp_nl] at hx
  | r + 1, i, h, x, hx => by
    rw [sp_nv] at h
    split at h
    · rename_i g
      rw [sp_nl] at hx
      rcases List.mem_cons.mp hx with hx | hx
      · rw [hx]; exact g
      · exact sp_nl_rg r _ h x hx
    · omega
def sp_no (z : sp_Z) : List Int := sp_nl (zT z) ((zT z).length / 2) 0
abbrev sp_sc (z : sp_Z) (sl : Int) : Prop := 0 ≤ sl ∧ sl ≤ 200 ∧ 2 ≤ (zT z).length ∧ (zT z).length ≤ 120 ∧ (zT z).length % 2 = 0 ∧ sp_nv (zT z) ((zT z).length / 2) 0 = 1
def zU' (z : sp_Z) (U : List Int) : sp_Z := (zT z, zF z, zN z, zI z, zL z, zG z, zW z, zR z, zD z, zE z, U)
def aSong (z : sp_Z) (sl : Int) : Int := if sp_sc z sl then (if sp_st0 (zN z) (sp_no z) sl = -1 then -1 else sp_co (zN z) (sp_no z) sl ((sp_no z).length - 1) (sp_st0 (zN z) (sp_no z) sl)) else -2
def ySong (z : sp_Z) (sl : Int) : sp_Z := if sp_sc z sl ∧ sp_st0 (zN z) (sp_no z) sl ≠ -1 then zU' (zT' z []) (sp_us (zN z) (sp_no z) sl (sp_no z).length) else zT' z []
/-! the class -/
theorem tX2_way {j k : Int} {Q : Int → Prop} (hst : sg_St La) (hw : sp_wZ z) (H : sp_cK La s 20 (nKa (zN z)) (nKb (zN z))) (hj : 0 ≤ j ∧ j < (nKa (zN z)).length) (hk : 0 ≤ k ∧ k < (nKa (zN z)).length) (h : Q (sp_wy (zN z) j k)) : fX2_way La s 20 j k Q := by
  obtain ⟨-, -, hKn, hKa, hKb⟩ := H
  have hlen := hw.2.2.1.2.2.2.2.2.2.1
  have hl := hw.2.2.1.2.2.2.2.2.1
  have a1 := sp_bd_at hw.2.2.1.2.2.2.2.2.2.2.1 hj.1 hj.2
  have a2 := sp_bd_at hw.2.2.1.2.2.2.2.2.2.2.1 hk.1 hk.2
  have b1 := sp_bd_at hw.2.2.1.2.2.2.2.2.2.2.2.1 hj.1 (by omega)
  have b2 := sp_bd_at hw.2.2.1.2.2.2.2.2.2.2.2.1 hk.1 (by omega)
  have hr := sp_wy_rg hw hj hk
  refine tX4_at (c := 40) (sp_ln hst 22 10040 rfl) (by omega) hKa.1 (by omega) hKa.2 ?_
  refine tX4_at (c := 40) (sp_ln hst 22 10040 rfl) (by omega) hKa.1 (by omega) hKa.2 ⟨by omega, ?_⟩
  refine tX4_at (c := 40) (sp_ln hst 24 10040 rfl) (by omega) hKb.1 (by omega) hKb.2 ?_
  refine tX4_at (c := 40) (sp_ln hst 24 10040 rfl) (by omega) hKb.1 (by omega) hKb.2 ⟨by omega, ?_, h⟩
  change sg_R (sp_wy (zN z) j k); omega
theorem tX6_costAt {i k : Int} {Q : Int → Prop} (hi : 0 ≤ i ∧ i < 60) (hk : 0 ≤ k ∧ k < 40) (h : Q (s 47 (i * 40 + k))) : fX6_costAt s i k Q := by
  refine ⟨by omega, fun g => absurd g (by omega), fun _ => ⟨by omega, fun _ => ⟨by omega, h⟩, fun g => absurd g (by omega)⟩⟩
theorem sp_cnL {i kk : Int} {c : Int → Int} {Q : Int → Prop} (hst : sg_St La) (hw : sp_wZ z) (H : sp_cK La s 20 (nKa (zN z)) (nKb (zN z))) (hi : -1 ≤ i ∧ i < 59) (hkk : kk = -1 ∨ (0 ≤ kk ∧ kk < (nKa (zN z)).length)) (hc : ∀ j : Int, 0 ≤ j → j < (nKa (zN z)).length → s 47 ((i + 1) * 40 + j) = c j ∧ -1 ≤ c j ∧ c j ≤ 2400000)
    (h : Q (sp_ch c (fun j => if kk = -1 then 0 else sp_wy (zN z) kk j) (nKa (zN z)).length).1) : ∀ (r j : Nat), j + r = (nKa (zN z)).length → fX6_cheapestNext_L9 La s 20 i kk Q (r + 1) (sp_ch c (fun j => if kk = -1 then 0 else sp_wy (zN z) kk j) j).1 (sp_ch c (fun j => if kk = -1 then 0 else sp_wy (zN z) kk j) j).2 j
  | 0, j, hj => by
    have H' := H
    obtain ⟨-, -, hKn, -, -⟩ := H'
    rw [fX6_cheapestNext_L9, hKn]
    have e : j = (nKa (zN z)).length := by omega
    rw [e]
    exact ⟨fun _ => h, fun hh => absurd (Int.le_refl _) hh⟩
  | r + 1, j, hj => by
    have H' := H
    obtain ⟨-, -, hKn, -, -⟩ := H'
    have hlen := hw.2.2.1.2.2.2.2.2.2.1
    have hcj := hc j (by omega) (by omega)
    have ih := sp_cnL hst hw H hi hkk hc h r (j + 1) (by omega)
    rw [sp_ch, show ((j + 1 : Nat) : Int) = (j : Int) + 1 by omega] at ih
    rw [fX6_cheapestNext_L9, hKn]
    simp only [fX6_cheapestNext_j77, fX6_cheapestNext_j69, fX6_cheapestNext_j53]
    refine ⟨fun hh => absurd hh (by omega), fun _ => ⟨by omega, tX6_costAt (by omega) (by omega) ?_⟩⟩
    rw [hcj.1]
    have fin : ∀ wv, wv = (if kk = -1 then 0 else sp_wy (zN z) kk j) → 0 ≤ wv ∧ wv ≤ 40000 → c j ≠ -1 → ((sp_ch c (fun j => if kk = -1 then 0 else sp_wy (zN z) kk j) j).1 = -1 → sg_R (c j + wv) ∧ sg_R ((j : Int) + 1) ∧ fX6_cheapestNext_L9 La s 20 i kk Q (r + 1) j (c j + wv) ((j : Int) + 1)) ∧
        (¬ (sp_ch c (fun j => if kk = -1 then 0 else sp_wy (zN z) kk j) j).1 = -1 → sg_R (c j + wv) ∧ (((sp_ch c (fun j => if kk = -1 then 0 else sp_wy (zN z) kk j) j).2 ≤ c j + wv → sg_R ((j : Int) + 1) ∧ fX6_cheapestNext_L9 La s 20 i kk Q (r + 1) (sp_ch c (fun j => if kk = -1 then 0 else sp_wy (zN z) kk j) j).1 (sp_ch c (fun j => if kk = -1 then 0 else sp_wy (zN z) kk j) j).2 ((j : Int) + 1)) ∧
          (¬ ((sp_ch c (fun j => if kk = -1 then 0 else sp_wy (zN z) kk j) j).2 ≤ c j + wv) → sg_R (c j + wv) ∧ sg_R ((j : Int) + 1) ∧ fX6_cheapestNext_L9 La s 20 i kk Q (r + 1) j (c j + wv) ((j : Int) + 1)))) := by
      intro wv hwv hr hcne
      rw [if_neg hcne, ← hwv] at ih
      refine ⟨fun q => ⟨by omega, by omega, ?_⟩, fun q => ⟨by omega, fun q2 => ⟨by omega, ?_⟩, fun q2 => ⟨by omega, by omega, ?_⟩⟩⟩
      · rw [if_pos q] at ih; exact ih
      · rw [if_neg q, if_pos q2] at ih; exact ih
      · rw [if_neg q, if_neg q2] at ih; exact ih
    refine ⟨fun g => ⟨by omega, ?_⟩, fun g => ⟨fun g2 => ?_, fun g2 => ?_⟩⟩
    · rw [if_pos g] at ih; exact ih
    · have hkk' : 0 ≤ kk ∧ kk < (nKa (zN z)).length := by omega
      refine tX2_way hst hw H hkk' (by omega) ?_
      exact fin _ (by rw [if_neg g2]) (sp_wy_rg hw hkk' (by omega)) g
    · exact fin 0 (by rw [if_pos g2]) (by omega) g
theorem tX6_cheapestNext {i kk : Int} {c : Int → Int} {Q : Int → Prop} (hst : sg_St La) (hw : sp_wZ z) (H : sp_cK La s 20 (nKa (zN z)) (nKb (zN z))) (hi : -1 ≤ i ∧ i < 59) (hkk : kk = -1 ∨ (0 ≤ kk ∧ kk < (nKa (zN z)).length)) (hc : ∀ j : Int, 0 ≤ j → j < (nKa (zN z)).length → s 47 ((i + 1) * 40 + j) = c j ∧ -1 ≤ c j ∧ c j ≤ 2400000)
    (h : Q (sp_ch c (fun j => if kk = -1 then 0 else sp_wy (zN z) kk j) (nKa (zN z)).length).1) : fX6_cheapestNext La s 20 i kk Q := ⟨(nKa (zN z)).length + 1, sp_cnL hst hw H hi hkk hc h (nKa (zN z)).length 0 (by omega)⟩
end SGKg
