/-! LEVEL 2, the small calls, on both sides: feed, end, fault, run, bow, worth, songAt, readAt, evenAt, formBy, count, breaks, place, piece, bend. -/
noncomputable section SGK1
theorem sp_and255 (x : Int) : 0 ≤ sg_and x 255 ∧ sg_and x 255 ≤ 255 := by
  unfold sg_and
  have e : (Int32.ofInt x &&& Int32.ofInt 255).toInt = ((Int32.ofInt x).toBitVec &&& 255#32).toInt := rfl
  rw [e]
  generalize (Int32.ofInt x).toBitVec = v
  have h : (v &&& 255#32).toNat ≤ 255 := by
    rw [BitVec.toNat_and]; exact Nat.and_le_right
  rw [BitVec.toInt_eq_toNat_of_lt (by omega)]
  omega
/-- four bytes of a word -/
def sp_by (x : Int) : List Int := [sg_and (sg_ushr x 24) 255, sg_and (sg_ushr x 16) 255, sg_and (sg_ushr x 8) 255, sg_and (sg_ushr x 0) 255]
theorem sp_by_rg (x y : Int) (h : y ∈ sp_by x) : 0 ≤ y ∧ y ≤ 255 := by
  unfold sp_by at h
  simp only [List.mem_cons, List.not_mem_nil, or_false] at h
  rcases h with h | h | h | h <;> rw [h] <;> exact sp_and255 _
theorem sp_apL {x : Int} {Q : sg_M → Prop} {s : sg_M} {T : List Int} {sh : Int} {n : Nat} (h0 : 0 ≤ sh) (h24 : sh ≤ 24) (hl : T.length < 540) (hT : s 1 1 = T.length ∧ sg_ar (s 2) 0 T)
    (h : ∀ s' : sg_M, (∀ c i, (c = 1 → i ≠ 1) → c ≠ 2 → s' c i = s c i) → (s' 1 1 = (T ++ [sg_and (sg_ushr x sh) 255]).length ∧ sg_ar (s' 2) 0 (T ++ [sg_and (sg_ushr x sh) 255])) → fX8_append_L3 x Q n s' (sh - 8)) : fX8_append_L3 x Q (n + 1) s sh := by
  obtain ⟨h1, h2⟩ := hT
  rw [fX8_append_L3]
  simp only [fX8_append_j52]
  refine ⟨fun g => absurd g (by omega), fun _ => ⟨fun g => absurd g (by omega), fun _ => ⟨by omega, fun g => absurd g (by omega), fun _ => ⟨by omega, fun s12 h12 => ?_⟩⟩⟩⟩
  have e : s12 1 1 = T.length := by rw [h12, sg_upN _ (by omega)]; exact h1
  rw [e]
  refine ⟨by omega, fun s16 h16 => ⟨by omega, h s16 (fun c i q1 q2 => ?_) ⟨?_, ?_⟩⟩⟩
  · rw [h16, sg_upN _ (by omega), h12, sg_upN _ (by omega)]
  · rw [h16, sg_upS]; simp
  · refine sg_ar_snoc _ 0 (sg_ar_congr _ 0 (fun i q1 q2 => ?_) h2) ?_
    · rw [h16, sg_upN _ (by omega), h12, sg_upN _ (by omega)]
    · rw [h16, sg_upN _ (by omega), h12, h1, Int.zero_add, sg_upS]
theorem tX8_append {x : Int} {Q : sg_M → Prop} {s : sg_M} {T : List Int} (hl : T.length + 4 ≤ 540) (hT : s 1 1 = T.length ∧ sg_ar (s 2) 0 T)
    (h : ∀ s' : sg_M, (∀ c i, (c = 1 → i ≠ 1) → c ≠ 2 → s' c i = s c i) → (s' 1 1 = (T ++ sp_by x).length ∧ sg_ar (s' 2) 0 (T ++ sp_by x)) → Q s') : fX8_append s x Q := by
  refine ⟨5, ?_⟩
  refine sp_apL (by omega) (by omega) (by omega) hT (fun s1 e1 t1 => ?_)
  refine sp_apL (by omega) (by omega) (by simp only [List.length_append, List.length_cons, List.length_nil]; omega) t1 (fun s2 e2 t2 => ?_)
  refine sp_apL (by omega) (by omega) (by simp only [List.length_append, List.length_cons, List.length_nil]; omega) t2 (fun s3 e3 t3 => ?_)
  refine sp_apL (by omega) (by omega) (by simp only [List.length_append, List.length_cons, List.length_nil]; omega) t3 (fun s4 e4 t4 => ?_)
  rw [fX8_append_L3]
  refine ⟨fun _ => h s4 (fun c i q1 q2 => ?_) ?_, fun g => absurd (show (24 : Int) - 8 - 8 - 8 - 8 < 0 by omega) g⟩
  · rw [e4 c i q1 q2, e3 c i q1 q2, e2 c i q1 q2, e1 c i q1 q2]
  · simp only [List.append_assoc, List.cons_append, List.nil_append] at t4
    exact t4
theorem sp_coL {x : Int} {Q : sg_M → Prop} {s : sg_M} {T : List Int} {sh : Int} {n : Nat} (h0 : 0 ≤ sh) (h24 : sh ≤ 24) (hl : T.length < 540) (hT : s 64 2 = T.length ∧ sg_ar (s 65) 0 T)
    (h : ∀ s' : sg_M, (∀ c i, (c = 64 → i ≠ 2) → c ≠ 65 → s' c i = s c i) → (s' 64 2 = (T ++ [sg_and (sg_ushr x sh) 255]).length ∧ sg_ar (s' 65) 0 (T ++ [sg_and (sg_ushr x sh) 255])) → fX12_come_L3 x Q n s' (sh - 8)) : fX12_come_L3 x Q (n + 1) s sh := by
  obtain ⟨h1, h2⟩ := hT
  rw [fX12_come_L3]
  refine ⟨fun g => absurd g (by omega), fun _ => ⟨by omega, fun s12 h12 => ?_⟩⟩
  have e : s12 64 2 = T.length := by rw [h12, sg_upN _ (by omega)]; exact h1
  rw [e]
  refine ⟨by omega, fun s16 h16 => ⟨by omega, h s16 (fun c i q1 q2 => ?_) ⟨?_, ?_⟩⟩⟩
  · rw [h16, sg_upN _ (by omega), h12, sg_upN _ (by omega)]
  · rw [h16, sg_upS]; simp
  · refine sg_ar_snoc _ 0 (sg_ar_congr _ 0 (fun i q1 q2 => ?_) h2) ?_
    · rw [h16, sg_upN _ (by omega), h12, sg_upN _ (by omega)]
    · rw [h16, sg_upN _ (by omega), h12, h1, Int.zero_add, sg_upS]
theorem tX12_come {x : Int} {Q : sg_M → Prop} {s : sg_M} {T : List Int} (hl : T.length + 4 ≤ 540) (hT : s 64 2 = T.length ∧ sg_ar (s 65) 0 T)
    (h : ∀ s' : sg_M, (∀ c i, (c = 64 → i ≠ 2) → c ≠ 65 → s' c i = s c i) → (s' 64 2 = (T ++ sp_by x).length ∧ sg_ar (s' 65) 0 (T ++ sp_by x)) → Q s') : fX12_come s x Q := by
  refine ⟨5, ?_⟩
  refine sp_coL (by omega) (by omega) (by omega) hT (fun s1 e1 t1 => ?_)
  refine sp_coL (by omega) (by omega) (by simp only [List.length_append, List.length_cons, List.length_nil]; omega) t1 (fun s2 e2 t2 => ?_)
  refine sp_coL (by omega) (by omega) (by simp only [List.length_append, List.length_cons, List.length_nil]; omega) t2 (fun s3 e3 t3 => ?_)
  refine sp_coL (by omega) (by omega) (by simp only [List.length_append, List.length_cons, List.length_nil]; omega) t3 (fun s4 e4 t4 => ?_)
  rw [fX12_come_L3]
  refine ⟨fun _ => h s4 (fun c i q1 q2 => ?_) ?_, fun g => absurd (show (24 : Int) - 8 - 8 - 8 - 8 < 0 by omega) g⟩
  · rw [e4 c i q1 q2, e3 c i q1 q2, e2 c i q1 q2, e1 c i q1 q2]
  · simp only [List.append_assoc, List.cons_append, List.nil_append] at t4
    exact t4
def sp_T5 (T : List Int) (a b c d e : Int) : List Int := T ++ sp_by a ++ sp_by b ++ sp_by c ++ sp_by d ++ sp_by e
theorem sp_T5_len (T : List Int) (a b c d e : Int) : (sp_T5 T a b c d e).length = T.length + 20 := by simp [sp_T5, sp_by]
/-- with another tape -/
def zT' (z : sp_Z) (T : List Int) : sp_Z := (T, z.2)
theorem sp_RC_T {La : sg_L} {s s' : sg_M} {z : sp_Z} {T : List Int} (H : sp_RC La s z) (h89 : 89 ≤ La.1) (e : ∀ c i, (c = 1 → i ≠ 1) → c ≠ 2 → s' c i = s c i) (hT : s' 1 1 = T.length ∧ sg_ar (s' 2) 0 T) : sp_RC La s' (zT' z T) := by
  rw [sp_RC_eq] at H ⊢
  obtain ⟨-, hF, hN, hI, hL, hG, hW, hR, hD, hE, hU, hQ, hK⟩ := H
  have f : ∀ c i, c ≠ 1 → c ≠ 2 → s' c i = s c i := fun c i h1 h2 => e c i (by omega) h2
  exact ⟨hT, by rw [f 0 16 (by omega) (by omega)]; exact hF, sp_kN hN (sp_X_refl La) h89 (fun c i _ => f c i (by omega) (by omega)), sp_kI hI (sp_X_refl La) h89 (fun c i _ => f c i (by omega) (by omega)), sp_kL hL (fun i => f 37 i (by omega) (by omega)),
    sp_kR hG (fun c i _ _ => f c i (by omega) (by omega)), by rw [f 0 17 (by omega) (by omega)]; exact hW, by rw [f 0 18 (by omega) (by omega)]; exact hR, sp_kR hD (fun c i _ _ => f c i (by omega) (by omega)), sp_kR hE (fun c i _ _ => f c i (by omega) (by omega)),
    sp_kR hU (fun c i _ _ => f c i (by omega) (by omega)), sp_kQ hQ (fun c i _ _ => f c i (by omega) (by omega)), sp_kK hK (fun c i _ _ => f c i (by omega) (by omega))⟩
theorem sp_R0_T {m m' : sg_M} {z : sp_Z} {T : List Int} (H : sp_R0 m z) (e : ∀ c i, (c = 64 → i ≠ 2) → c ≠ 65 → m' c i = m c i) (hT : m' 64 2 = T.length ∧ sg_ar (m' 65) 0 T) : sp_R0 m' (zT' z T) := by
  obtain ⟨-, hF, hN, hI, hL, hG, hW, hR, hD, hE, hU⟩ := H
  have f : ∀ c i, c ≠ 64 → c ≠ 65 → m' c i = m c i := fun c i h1 h2 => e c i (by omega) h2
  have g : ∀ i, i ≠ 2 → m' 64 i = m 64 i := fun i h => e 64 i (by omega) (by omega)
  exact ⟨hT, by rw [g 10 (by omega)]; exact hF, sp_mN0 hN (fun i => f 66 i (by omega) (by omega)), sp_mI0 hI (fun i => f 71 i (by omega) (by omega)) (fun i => f 68 i (by omega) (by omega)), fun w h1 h2 => by rw [f 77 w (by omega) (by omega)]; exact hL w h1 h2,
    sp_m2 hG (g 37 (by omega)) (fun i => f 78 i (by omega) (by omega)), by rw [g 38 (by omega)]; exact hW, by rw [g 56 (by omega)]; exact hR, sp_m2 hD (g 52 (by omega)) (fun i => f 84 i (by omega) (by omega)), sp_m2 hE (g 55 (by omega)) (fun i => f 86 i (by omega) (by omega)),
    sp_m2 hU (g 50 (by omega)) (fun i => f 83 i (by omega) (by omega))⟩
end SGK1
