theorem sg_vkN {Λ : sg_L} {v : Int} {k : Nat} (h : v = -1 ∨ sg_O Λ v k) : v.toNat < Λ.1 ∨ v < 0 := h.elim (fun z => Or.inr (by omega)) (fun z => Or.inl z.2.1)
theorem sg_vkR {Λ : sg_L} {v : Int} (h : v = -1 ∨ (0 ≤ v ∧ v.toNat < Λ.1)) : v.toNat < Λ.1 ∨ v < 0 := h.elim (fun z => Or.inr (by omega)) (fun z => Or.inl z.2)
theorem sg_X_sx {Λ Λ' : sg_L} {r kd : Nat} (h : sg_X Λ Λ') (hn : Λ.1 ≤ r) : sg_X Λ (sg_se Λ' r kd) := ⟨h.1, h.2.1, fun k hk => by
  show va_up Λ'.2.1 r kd k = _
  unfold va_up
  rw [if_neg (by omega)]
  exact h.2.2 k hk⟩
theorem ns_X0 : ∀ (ad : Nat → Nat) (n : Nat), sg_fs ad (sg_zero 20) n (sg_dsc 20) = [.null, .null, .null, .int 0, .int 0, .int 0, .int 0, .int 0, .int 0, .int 0, .int 0] := fun _ _ => rfl
theorem nf_X0 : ∀ j, j < 11 → defaultValue (tyX0 j) = vp_V [.null, .null, .null, .int 0, .int 0, .int 0, .int 0, .int 0, .int 0, .int 0, .int 0] j := by
  intro j hj
  match j, hj with
  | 0, _ => rfl
  | 1, _ => rfl
  | 2, _ => rfl
  | 3, _ => rfl
  | 4, _ => rfl
  | 5, _ => rfl
  | 6, _ => rfl
  | 7, _ => rfl
  | 8, _ => rfl
  | 9, _ => rfl
  | 10, _ => rfl
  | (j + 11), hj => exact absurd hj (by omega)
theorem nr_X0 : ∀ d ∈ sg_dsc 20, d.1 ≠ 3 ∧ d.1 ≠ 7 := by decide +kernel
theorem ns_X1 : ∀ (ad : Nat → Nat) (n : Nat), sg_fs ad (sg_zero 21) n (sg_dsc 21) = [.null, .null, .null, .null, .int 0, .int 0, .int 0] := fun _ _ => rfl
theorem nf_X1 : ∀ j, j < 7 → defaultValue (tyX1 j) = vp_V [.null, .null, .null, .null, .int 0, .int 0, .int 0] j := by
  intro j hj
  match j, hj with
  | 0, _ => rfl
  | 1, _ => rfl
  | 2, _ => rfl
  | 3, _ => rfl
  | 4, _ => rfl
  | 5, _ => rfl
  | 6, _ => rfl
  | (j + 7), hj => exact absurd hj (by omega)
theorem nr_X1 : ∀ d ∈ sg_dsc 21, d.1 ≠ 3 ∧ d.1 ≠ 7 := by decide +kernel
theorem ns_X2 : ∀ (ad : Nat → Nat) (n : Nat), sg_fs ad (sg_zero 22) n (sg_dsc 22) = [.null, .null, .int 0] := fun _ _ => rfl
theorem nf_X2 : ∀ j, j < 3 → defaultValue (tyX2 j) = vp_V [.null, .null, .int 0] j := by
  intro j hj
  match j, hj with
  | 0, _ => rfl
  | 1, _ => rfl
  | 2, _ => rfl
  | (j + 3), hj => exact absurd hj (by omega)
theorem nr_X2 : ∀ d ∈ sg_dsc 22, d.1 ≠ 3 ∧ d.1 ≠ 7 := by decide +kernel
theorem ns_X3 : ∀ (ad : Nat → Nat) (n : Nat), sg_fs ad (sg_zero 23) n (sg_dsc 23) = [.null, .null, .int 0, .int 0, .int 0] := fun _ _ => rfl
theorem nf_X3 : ∀ j, j < 5 → defaultValue (tyX3 j) = vp_V [.null, .null, .int 0, .int 0, .int 0] j := by
  intro j hj
  match j, hj with
  | 0, _ => rfl
  | 1, _ => rfl
  | 2, _ => rfl
  | 3, _ => rfl
  | 4, _ => rfl
  | (j + 5), hj => exact absurd hj (by omega)
theorem nr_X3 : ∀ d ∈ sg_dsc 23, d.1 ≠ 3 ∧ d.1 ≠ 7 := by decide +kernel
theorem ns_X4 : ∀ (ad : Nat → Nat) (n : Nat), sg_fs ad (sg_zero 24) n (sg_dsc 24) = [.null, .int 0, .int 0] := fun _ _ => rfl
theorem nf_X4 : ∀ j, j < 3 → defaultValue (tyX4 j) = vp_V [.null, .int 0, .int 0] j := by
  intro j hj
  match j, hj with
  | 0, _ => rfl
  | 1, _ => rfl
  | 2, _ => rfl
  | (j + 3), hj => exact absurd hj (by omega)
theorem nr_X4 : ∀ d ∈ sg_dsc 24, d.1 ≠ 3 ∧ d.1 ≠ 7 := by decide +kernel
theorem ns_X5 : ∀ (ad : Nat → Nat) (n : Nat), sg_fs ad (sg_zero 25) n (sg_dsc 25) = [.null, .null, .null, .int 0] := fun _ _ => rfl
theorem nf_X5 : ∀ j, j < 4 → defaultValue (tyX5 j) = vp_V [.null, .null, .null, .int 0] j := by
  intro j hj
  match j, hj with
  | 0, _ => rfl
  | 1, _ => rfl
  | 2, _ => rfl
  | 3, _ => rfl
  | (j + 4), hj => exact absurd hj (by omega)
theorem nr_X5 : ∀ d ∈ sg_dsc 25, d.1 ≠ 3 ∧ d.1 ≠ 7 := by decide +kernel
theorem ns_X6 : ∀ (ad : Nat → Nat) (n : Nat), sg_fs ad (sg_zero 26) n (sg_dsc 26) = [.null, .null, .null] := fun _ _ => rfl
theorem nf_X6 : ∀ j, j < 3 → defaultValue (tyX6 j) = vp_V [.null, .null, .null] j := by
  intro j hj
  match j, hj with
  | 0, _ => rfl
  | 1, _ => rfl
  | 2, _ => rfl
  | (j + 3), hj => exact absurd hj (by omega)
theorem nr_X6 : ∀ d ∈ sg_dsc 26, d.1 ≠ 3 ∧ d.1 ≠ 7 := by decide +kernel
theorem ns_X7 : ∀ (ad : Nat → Nat) (n : Nat), sg_fs ad (sg_zero 47) n (sg_dsc 47) = [.null, .null, .null, .null, .null] := fun _ _ => rfl
theorem nf_X7 : ∀ j, j < 5 → defaultValue (tyX7 j) = vp_V [.null, .null, .null, .null, .null] j := by
  intro j hj
  match j, hj with
  | 0, _ => rfl
  | 1, _ => rfl
  | 2, _ => rfl
  | 3, _ => rfl
  | 4, _ => rfl
  | (j + 5), hj => exact absurd hj (by omega)
theorem nr_X7 : ∀ d ∈ sg_dsc 47, d.1 ≠ 3 ∧ d.1 ≠ 7 := by decide +kernel
theorem ns_X8 : ∀ (ad : Nat → Nat) (n : Nat), sg_fs ad (sg_zero 28) n (sg_dsc 28) = [.null, .int 0] := fun _ _ => rfl
theorem nf_X8 : ∀ j, j < 2 → defaultValue (tyX8 j) = vp_V [.null, .int 0] j := by
  intro j hj
  match j, hj with
  | 0, _ => rfl
  | 1, _ => rfl
  | (j + 2), hj => exact absurd hj (by omega)
theorem nr_X8 : ∀ d ∈ sg_dsc 28, d.1 ≠ 3 ∧ d.1 ≠ 7 := by decide +kernel
theorem ns_X9 : ∀ (ad : Nat → Nat) (n : Nat), sg_fs ad (sg_zero 29) n (sg_dsc 29) = [.null, .int 0, .int 0, .int 0, .int 0, .int 0, .int 0, .int 0] := fun _ _ => rfl
theorem nf_X9 : ∀ j, j < 8 → defaultValue (tyX9 j) = vp_V [.null, .int 0, .int 0, .int 0, .int 0, .int 0, .int 0, .int 0] j := by
  intro j hj
  match j, hj with
  | 0, _ => rfl
  | 1, _ => rfl
  | 2, _ => rfl
  | 3, _ => rfl
  | 4, _ => rfl
  | 5, _ => rfl
  | 6, _ => rfl
  | 7, _ => rfl
  | (j + 8), hj => exact absurd hj (by omega)
theorem nr_X9 : ∀ d ∈ sg_dsc 29, d.1 ≠ 3 ∧ d.1 ≠ 7 := by decide +kernel
theorem ns_X10 : ∀ (ad : Nat → Nat) (n : Nat), sg_fs ad (sg_zero 30) n (sg_dsc 30) = [.null, .int 0, .int 0, .int 0, .int 0, .int 0, .int 0] := fun _ _ => rfl
theorem nf_X10 : ∀ j, j < 7 → defaultValue (tyX10 j) = vp_V [.null, .int 0, .int 0, .int 0, .int 0, .int 0, .int 0] j := by
  intro j hj
  match j, hj with
  | 0, _ => rfl
  | 1, _ => rfl
  | 2, _ => rfl
  | 3, _ => rfl
  | 4, _ => rfl
  | 5, _ => rfl
  | 6, _ => rfl
  | (j + 7), hj => exact absurd hj (by omega)
theorem nr_X10 : ∀ d ∈ sg_dsc 30, d.1 ≠ 3 ∧ d.1 ≠ 7 := by decide +kernel
theorem ns_X11 : ∀ (ad : Nat → Nat) (n : Nat), sg_fs ad (sg_zero 31) n (sg_dsc 31) = [.null, .null, .null, .null, .null, .null, .null, .null, .null, .null, .null, .null, .null, .null, .null, .null, .int 0, .int 0, .int 0] := by
  intro ad n
  apply List.ext_getElem?
  intro i
  match i with
  | 0 => exact (sg_fs_at (j := 0) (d := (5, 0, 0)) rfl).trans rfl
  | 1 => exact (sg_fs_at (j := 1) (d := (5, 0, 0)) rfl).trans rfl
  | 2 => exact (sg_fs_at (j := 2) (d := (5, 0, 0)) rfl).trans rfl
  | 3 => exact (sg_fs_at (j := 3) (d := (5, 0, 0)) rfl).trans rfl
  | 4 => exact (sg_fs_at (j := 4) (d := (5, 0, 0)) rfl).trans rfl
  | 5 => exact (sg_fs_at (j := 5) (d := (5, 0, 0)) rfl).trans rfl
  | 6 => exact (sg_fs_at (j := 6) (d := (5, 0, 0)) rfl).trans rfl
  | 7 => exact (sg_fs_at (j := 7) (d := (5, 0, 0)) rfl).trans rfl
  | 8 => exact (sg_fs_at (j := 8) (d := (5, 0, 0)) rfl).trans rfl
  | 9 => exact (sg_fs_at (j := 9) (d := (5, 0, 0)) rfl).trans rfl
  | 10 => exact (sg_fs_at (j := 10) (d := (5, 0, 0)) rfl).trans rfl
  | 11 => exact (sg_fs_at (j := 11) (d := (5, 0, 0)) rfl).trans rfl
  | 12 => exact (sg_fs_at (j := 12) (d := (5, 0, 0)) rfl).trans rfl
  | 13 => exact (sg_fs_at (j := 13) (d := (5, 0, 0)) rfl).trans rfl
  | 14 => exact (sg_fs_at (j := 14) (d := (5, 0, 0)) rfl).trans rfl
  | 15 => exact (sg_fs_at (j := 15) (d := (5, 0, 0)) rfl).trans rfl
  | 16 => exact (sg_fs_at (j := 16) (d := (0, 0, 0)) rfl).trans rfl
  | 17 => exact (sg_fs_at (j := 17) (d := (0, 0, 0)) rfl).trans rfl
  | 18 => exact (sg_fs_at (j := 18) (d := (0, 0, 0)) rfl).trans rfl
  | (i + 19) =>
    rw [List.getElem?_eq_none (by rw [sg_fs_len]; show 19 ≤ _; omega), List.getElem?_eq_none (by show 19 ≤ _; omega)]
theorem nf_X11 : ∀ j, j < 19 → defaultValue (tyX11 j) = vp_V [.null, .null, .null, .null, .null, .null, .null, .null, .null, .null, .null, .null, .null, .null, .null, .null, .int 0, .int 0, .int 0] j := by
  intro j hj
  match j, hj with
  | 0, _ => rfl
  | 1, _ => rfl
  | 2, _ => rfl
  | 3, _ => rfl
  | 4, _ => rfl
  | 5, _ => rfl
  | 6, _ => rfl
  | 7, _ => rfl
  | 8, _ => rfl
  | 9, _ => rfl
  | 10, _ => rfl
  | 11, _ => rfl
  | 12, _ => rfl
  | 13, _ => rfl
  | 14, _ => rfl
  | 15, _ => rfl
  | 16, _ => rfl
  | 17, _ => rfl
  | 18, _ => rfl
  | (j + 19), hj => exact absurd hj (by omega)
theorem nr_X11 : ∀ d ∈ sg_dsc 31, d.1 ≠ 3 ∧ d.1 ≠ 7 := by decide +kernel
theorem ns_X12 : ∀ (ad : Nat → Nat) (n : Nat), sg_fs ad (sg_zero 32) n (sg_dsc 32) = [.int 0, .null, .int 0, .int 0, .int 0, .int 0, .int 0, .int 0, .int 0, .int 0, .int 0, .int 0, .long 0, .int 0, .null, .null, .null, .null, .null, .null, .int 0, .int 0, .null, .null, .null, .null, .null, .int 0, .int 0, .int 0, .int 0, .int 0, .int 0, .int 0, .null, .null, .null, .int 0, .int 0, .int 0, .int 0, .int 0, .int 0, .int 0, .int 0, .int 0, .null, .null, .null, .null, .int 0, .null, .int 0, .null, .null, .int 0, .int 0, .null, .int 0, .int 0, .int 0, .int 0] := by
  intro ad n
  apply List.ext_getElem?
  intro i
  match i with
  | 0 => exact (sg_fs_at (j := 0) (d := (0, 0, 0)) rfl).trans rfl
  | 1 => exact (sg_fs_at (j := 1) (d := (5, 0, 0)) rfl).trans rfl
  | 2 => exact (sg_fs_at (j := 2) (d := (0, 0, 0)) rfl).trans rfl
  | 3 => exact (sg_fs_at (j := 3) (d := (0, 0, 0)) rfl).trans rfl
  | 4 => exact (sg_fs_at (j := 4) (d := (0, 0, 0)) rfl).trans rfl
  | 5 => exact (sg_fs_at (j := 5) (d := (0, 0, 0)) rfl).trans rfl
  | 6 => exact (sg_fs_at (j := 6) (d := (0, 0, 0)) rfl).trans rfl
  | 7 => exact (sg_fs_at (j := 7) (d := (0, 0, 0)) rfl).trans rfl
  | 8 => exact (sg_fs_at (j := 8) (d := (0, 0, 0)) rfl).trans rfl
  | 9 => exact (sg_fs_at (j := 9) (d := (0, 0, 0)) rfl).trans rfl
  | 10 => exact (sg_fs_at (j := 10) (d := (0, 0, 0)) rfl).trans rfl
  | 11 => exact (sg_fs_at (j := 11) (d := (0, 0, 0)) rfl).trans rfl
  | 12 => exact (sg_fs_at (j := 12) (d := (2, 0, 0)) rfl).trans rfl
  | 13 => exact (sg_fs_at (j := 13) (d := (0, 0, 0)) rfl).trans rfl
  | 14 => exact (sg_fs_at (j := 14) (d := (5, 0, 0)) rfl).trans rfl
  | 15 => exact (sg_fs_at (j := 15) (d := (5, 0, 0)) rfl).trans rfl
  | 16 => exact (sg_fs_at (j := 16) (d := (5, 0, 0)) rfl).trans rfl
  | 17 => exact (sg_fs_at (j := 17) (d := (5, 0, 0)) rfl).trans rfl
  | 18 => exact (sg_fs_at (j := 18) (d := (5, 0, 0)) rfl).trans rfl
  | 19 => exact (sg_fs_at (j := 19) (d := (5, 0, 0)) rfl).trans rfl
  | 20 => exact (sg_fs_at (j := 20) (d := (1, 0, 0)) rfl).trans rfl
  | 21 => exact (sg_fs_at (j := 21) (d := (0, 0, 0)) rfl).trans rfl
  | 22 => exact (sg_fs_at (j := 22) (d := (5, 0, 0)) rfl).trans rfl
  | 23 => exact (sg_fs_at (j := 23) (d := (5, 0, 0)) rfl).trans rfl
  | 24 => exact (sg_fs_at (j := 24) (d := (5, 0, 0)) rfl).trans rfl
  | 25 => exact (sg_fs_at (j := 25) (d := (5, 0, 0)) rfl).trans rfl
  | 26 => exact (sg_fs_at (j := 26) (d := (5, 0, 0)) rfl).trans rfl
  | 27 => exact (sg_fs_at (j := 27) (d := (0, 0, 0)) rfl).trans rfl
  | 28 => exact (sg_fs_at (j := 28) (d := (0, 0, 0)) rfl).trans rfl
  | 29 => exact (sg_fs_at (j := 29) (d := (0, 0, 0)) rfl).trans rfl
  | 30 => exact (sg_fs_at (j := 30) (d := (0, 0, 0)) rfl).trans rfl
  | 31 => exact (sg_fs_at (j := 31) (d := (0, 0, 0)) rfl).trans rfl
  | 32 => exact (sg_fs_at (j := 32) (d := (0, 0, 0)) rfl).trans rfl
  | 33 => exact (sg_fs_at (j := 33) (d := (0, 0, 0)) rfl).trans rfl
  | 34 => exact (sg_fs_at (j := 34) (d := (5, 0, 0)) rfl).trans rfl
  | 35 => exact (sg_fs_at (j := 35) (d := (5, 0, 0)) rfl).trans rfl
  | 36 => exact (sg_fs_at (j := 36) (d := (5, 0, 0)) rfl).trans rfl
  | 37 => exact (sg_fs_at (j := 37) (d := (0, 0, 0)) rfl).trans rfl
  | 38 => exact (sg_fs_at (j := 38) (d := (0, 0, 0)) rfl).trans rfl
  | 39 => exact (sg_fs_at (j := 39) (d := (0, 0, 0)) rfl).trans rfl
  | 40 => exact (sg_fs_at (j := 40) (d := (0, 0, 0)) rfl).trans rfl
  | 41 => exact (sg_fs_at (j := 41) (d := (0, 0, 0)) rfl).trans rfl
  | 42 => exact (sg_fs_at (j := 42) (d := (1, 0, 0)) rfl).trans rfl
  | 43 => exact (sg_fs_at (j := 43) (d := (0, 0, 0)) rfl).trans rfl
  | 44 => exact (sg_fs_at (j := 44) (d := (0, 0, 0)) rfl).trans rfl
  | 45 => exact (sg_fs_at (j := 45) (d := (0, 0, 0)) rfl).trans rfl
  | 46 => exact (sg_fs_at (j := 46) (d := (5, 0, 0)) rfl).trans rfl
  | 47 => exact (sg_fs_at (j := 47) (d := (5, 0, 0)) rfl).trans rfl
  | 48 => exact (sg_fs_at (j := 48) (d := (5, 0, 0)) rfl).trans rfl
  | 49 => exact (sg_fs_at (j := 49) (d := (5, 0, 0)) rfl).trans rfl
  | 50 => exact (sg_fs_at (j := 50) (d := (0, 0, 0)) rfl).trans rfl
  | 51 => exact (sg_fs_at (j := 51) (d := (5, 0, 0)) rfl).trans rfl
  | 52 => exact (sg_fs_at (j := 52) (d := (0, 0, 0)) rfl).trans rfl
  | 53 => exact (sg_fs_at (j := 53) (d := (5, 0, 0)) rfl).trans rfl
  | 54 => exact (sg_fs_at (j := 54) (d := (5, 0, 0)) rfl).trans rfl
  | 55 => exact (sg_fs_at (j := 55) (d := (0, 0, 0)) rfl).trans rfl
  | 56 => exact (sg_fs_at (j := 56) (d := (0, 0, 0)) rfl).trans rfl
  | 57 => exact (sg_fs_at (j := 57) (d := (5, 0, 0)) rfl).trans rfl
  | 58 => exact (sg_fs_at (j := 58) (d := (0, 0, 0)) rfl).trans rfl
  | 59 => exact (sg_fs_at (j := 59) (d := (0, 0, 0)) rfl).trans rfl
  | 60 => exact (sg_fs_at (j := 60) (d := (0, 0, 0)) rfl).trans rfl
  | 61 => exact (sg_fs_at (j := 61) (d := (0, 0, 0)) rfl).trans rfl
  | (i + 62) =>
    rw [List.getElem?_eq_none (by rw [sg_fs_len]; show 62 ≤ _; omega), List.getElem?_eq_none (by show 62 ≤ _; omega)]
theorem nf_X12 : ∀ j, j < 62 → defaultValue (tyX12 j) = vp_V [.int 0, .null, .int 0, .int 0, .int 0, .int 0, .int 0, .int 0, .int 0, .int 0, .int 0, .int 0, .long 0, .int 0, .null, .null, .null, .null, .null, .null, .int 0, .int 0, .null, .null, .null, .null, .null, .int 0, .int 0, .int 0, .int 0, .int 0, .int 0, .int 0, .null, .null, .null, .int 0, .int 0, .int 0, .int 0, .int 0, .int 0, .int 0, .int 0, .int 0, .null, .null, .null, .null, .int 0, .null, .int 0, .null, .null, .int 0, .int 0, .null, .int 0, .int 0, .int 0, .int 0] j := by
  intro j hj
  match j, hj with
  | 0, _ => rfl
  | 1, _ => rfl
  | 2, _ => rfl
  | 3, _ => rfl
  | 4, _ => rfl
  | 5, _ => rfl
  | 6, _ => rfl
  | 7, _ => rfl
  | 8, _ => rfl
  | 9, _ => rfl
  | 10, _ => rfl
  | 11, _ => rfl
  | 12, _ => rfl
  | 13, _ => rfl
  | 14, _ => rfl
  | 15, _ => rfl
  | 16, _ => rfl
  | 17, _ => rfl
  | 18, _ => rfl
  | 19, _ => rfl
  | 20, _ => rfl
  | 21, _ => rfl
  | 22, _ => rfl
  | 23, _ => rfl
  | 24, _ => rfl
  | 25, _ => rfl
  | 26, _ => rfl
  | 27, _ => rfl
  | 28, _ => rfl
  | 29, _ => rfl
  | 30, _ => rfl
  | 31, _ => rfl
  | 32, _ => rfl
  | 33, _ => rfl
  | 34, _ => rfl
  | 35, _ => rfl
  | 36, _ => rfl
  | 37, _ => rfl
  | 38, _ => rfl
  | 39, _ => rfl
  | 40, _ => rfl
  | 41, _ => rfl
  | 42, _ => rfl
  | 43, _ => rfl
  | 44, _ => rfl
  | 45, _ => rfl
  | 46, _ => rfl
  | 47, _ => rfl
  | 48, _ => rfl
  | 49, _ => rfl
  | 50, _ => rfl
  | 51, _ => rfl
  | 52, _ => rfl
  | 53, _ => rfl
  | 54, _ => rfl
  | 55, _ => rfl
  | 56, _ => rfl
  | 57, _ => rfl
  | 58, _ => rfl
  | 59, _ => rfl
  | 60, _ => rfl
  | 61, _ => rfl
  | (j + 62), hj => exact absurd hj (by omega)
theorem nr_X12 : ∀ d ∈ sg_dsc 32, d.1 ≠ 3 ∧ d.1 ≠ 7 := by decide +kernel
