/-! LEVEL 2: new objects hold the same state. -/
noncomputable section SGNe
variable {La : sg_L} {s : sg_M}
theorem t_b00 : ∀ i : Int, 0 ≤ i → i < 3 → bFill b00 0 i = 30 ∧ bFill b00 1 i = 5 ∧ bFill b00 2 i = 0 ∧ bFill b00 3 i = 0 := by
  intro i h0 h1
  have h : i = 0 ∨ i = 1 ∨ i = 2 := by omega
  rcases h with rfl | rfl | rfl <;> exact ⟨rfl, rfl, rfl, rfl⟩
theorem t_b4 : bFill b00 4 0 = 3 ∧ bFill b00 4 1 = 300 ∧ bFill b00 4 2 = 2000 := ⟨rfl, rfl, rfl⟩
theorem t_ok : sp_ok (bFill b00) := by
  obtain ⟨a, b, c⟩ := t_b4
  refine ⟨by omega, by omega, by omega, by omega, by omega, by omega, fun i h0 h1 => ?_⟩
  rw [a] at h1
  obtain ⟨x0, x1, x2, x3⟩ := t_b00 i h0 h1
  rw [x0, x1, x2, x3]
  decide
theorem t_wZ : sp_wZ z00 := by
  refine ⟨by decide, fun x hx => absurd hx List.not_mem_nil, ⟨t_ok, rfl, by decide, fun x hx => absurd hx List.not_mem_nil, fun x hx => absurd hx List.not_mem_nil, rfl, by decide, fun x hx => absurd hx List.not_mem_nil, fun x hx => absurd hx List.not_mem_nil, fun k B h => ?_⟩, fun k M h => ?_, by decide, by decide, by decide, by decide⟩
  · cases h
  · cases h
theorem t_RC (hst : sg_St La) (V : tk_V s tkFL) (B : sp_cB s 5 (bFill b00)) : sp_RC La s z00 := by
  have e0 : s 4 0 = 5 := V (4, 0, 5) (by decide +kernel)
  have e1 : s 4 1 = 10 := V (4, 1, 10) (by decide +kernel)
  have e2 : s 4 2 = 13 := V (4, 2, 13) (by decide +kernel)
  have rw0 : ∀ o : Int, s o 1 = 0 → sp_rw s o [] := fun o h => ⟨h, trivial⟩
  rw [sp_RC_eq]
  refine ⟨⟨V (1, 1, 0) (by decide +kernel), trivial⟩, V (0, 16, 0) (by decide +kernel), ⟨⟨⟨?_, Or.inl e0⟩, ?_⟩, ⟨⟨?_, Or.inl e1⟩, ?_, trivial, trivial⟩, ⟨⟨?_, Or.inl e2⟩, ?_, ?_, ?_, Or.inl ⟨rfl, ?_⟩⟩, ⟨sp_ln hst 22 10040 rfl, sp_ln hst 24 10040 rfl, V (20, 2, 0) (by decide +kernel), rw0 21 (V (21, 1, 0) (by decide +kernel)), rw0 23 (V (23, 1, 0) (by decide +kernel))⟩, fun k h0 h4 => Or.inl ⟨rfl, ?_⟩⟩, ⟨fun k h0 h2 => Or.inl ⟨rfl, ?_⟩, fun h _ => ?_⟩,
    Or.inl ⟨V (37, 1, 0) (by decide +kernel), fun w _ _ => rfl⟩, rw0 38 (V (38, 1, 0) (by decide +kernel)), V (0, 17, 0) (by decide +kernel), V (0, 18, (-1)) (by decide +kernel), rw0 52 (V (52, 1, 0) (by decide +kernel)), rw0 54 (V (54, 1, 0) (by decide +kernel)), rw0 50 (V (50, 1, 0) (by decide +kernel)), fun h => absurd (V (58, 2, 0) (by decide +kernel)) h, fun h => absurd (V (62, 2, 0) (by decide +kernel)) h⟩
  · rw [e0]; exact (hst 5 1 rfl).2
  · rw [e0]; exact B
  · rw [e1]; exact (hst 10 3 rfl).2
  · rw [e1]; exact V (10, 2, 0) (by decide +kernel)
  · rw [e2]; exact (hst 13 5 rfl).2
  · rw [e2]; exact sp_ln hst 15 10040 rfl
  · rw [e2]; exact sp_ln hst 17 10040 rfl
  · rw [e2]; exact sp_ln hst 19 10040 rfl
  · rw [e2]; exact V (13, 3, 0) (by decide +kernel)
  · have hk : k = 0 ∨ k = 1 ∨ k = 2 ∨ k = 3 := by omega
    have g0 : s 25 0 = -1 := V (25, 0, (-1)) (by decide +kernel)
    have g1 : s 25 1 = -1 := V (25, 1, (-1)) (by decide +kernel)
    have g2 : s 25 2 = -1 := V (25, 2, (-1)) (by decide +kernel)
    have g3 : s 25 3 = -1 := V (25, 3, (-1)) (by decide +kernel)
    rcases hk with rfl | rfl | rfl | rfl <;> omega
  · have hk : k = 0 ∨ k = 1 := by omega
    have g0 : s 26 0 = -1 := V (26, 0, (-1)) (by decide +kernel)
    have g1 : s 26 1 = -1 := V (26, 1, (-1)) (by decide +kernel)
    rcases hk with rfl | rfl <;> omega
  · have g0 : s 26 0 = -1 := V (26, 0, (-1)) (by decide +kernel)
    omega
theorem t_RM (z : ∀ c i : Int, 65 ≤ c → c < 88 → c ≠ 77 → s c i = 0) (g : ∀ f, s 64 f = mv mvL f) (w : ∀ w, 0 ≤ w → w < 5 → s 77 w = -1) : sp_RM s z00 := by
  have h20 : s 64 20 = 0 := (g 20).trans (by decide +kernel)
  have y : ∀ i, sp_ly s 66 i = if i = 0 then 3 else if i = 1 then 300 else if i = 2 then 2000 else if i = 10 ∨ i = 14 ∨ i = 18 then 30 else if i = 11 ∨ i = 15 ∨ i = 19 then 5 else 0 := fun i => by
    unfold sp_ly
    rw [if_pos h20, if_neg (by omega), if_pos rfl, z 66 i (by omega) (by omega) (by omega)]
  have y0 : ∀ i, 20 ≤ i → sp_ly s 66 i = 0 := fun i hi => by rw [y, if_neg (by omega), if_neg (by omega), if_neg (by omega), if_neg (by omega), if_neg (by omega)]
  have l : ∀ f, f ≠ 20 → sp_ly s 64 f = mv mvL f := fun f hf => by rw [sp_ly_o (by omega) (fun _ => hf)]; exact g f
  obtain ⟨b0, b1, b2⟩ := t_b4
  refine ⟨⟨(l 2 (by omega)).trans (by decide +kernel), trivial⟩, (l 10 (by omega)).trans (by decide +kernel), ⟨⟨?_, ?_, ?_, fun i h0 h1 => ?_⟩, ⟨y0 1300 (by omega), trivial, trivial⟩, Or.inl ⟨rfl, y0 1790 (by omega)⟩, ⟨y0 1701 (by omega), trivial, trivial⟩, fun k h0 h4 => Or.inl ⟨rfl, y0 _ (by omega)⟩⟩, fun k h0 h2 => Or.inl ⟨rfl, ?_⟩, fun k h0 h5 => ?_, ⟨(l 37 (by omega)).trans (by decide +kernel), trivial⟩, (l 38 (by omega)).trans (by decide +kernel), (l 56 (by omega)).trans (by decide +kernel), ⟨(l 52 (by omega)).trans (by decide +kernel), trivial⟩, ⟨(l 55 (by omega)).trans (by decide +kernel), trivial⟩, (l 50 (by omega)).trans (by decide +kernel), trivial⟩
  · rw [y]; exact b0.symm
  · rw [y]; exact b1.symm
  · rw [y]; exact b2.symm
  · have h1 : i < 3 := by
      have : i < bFill b00 4 0 := h1
      omega
    obtain ⟨x0, x1, x2, x3⟩ := t_b00 i h0 h1
    have hi : i = 0 ∨ i = 1 ∨ i = 2 := by omega
    refine ⟨?_, ?_, ?_, ?_⟩
    · rw [y]; refine Eq.trans ?_ x0.symm; rcases hi with rfl | rfl | rfl <;> rfl
    · show sp_ly s 66 _ = _; rw [y]; refine Eq.trans ?_ x1.symm; rcases hi with rfl | rfl | rfl <;> rfl
    · rw [y]; refine Eq.trans ?_ x2.symm; rcases hi with rfl | rfl | rfl <;> rfl
    · rw [y]; refine Eq.trans ?_ x3.symm; rcases hi with rfl | rfl | rfl <;> rfl
  · rw [sp_ly_o (by omega) (by omega)]; exact z 71 k (by omega) (by omega) (by omega)
  · rw [sp_ly_o (by omega) (by omega)]; exact w k h0 h5
end SGNe
