/-! LEVEL 2: image, restore. -/
noncomputable section SGK9
variable {La : sg_L} {s : sg_M} {z : sp_Z}
theorem sp_copL {o o1 : Int} {l : List Int} {Q : sg_M → Prop} {s0 : sg_M} (hne : o ≠ o1 ∧ o + 1 ≠ o1 ∧ o ≠ o1 + 1) (hl1 : sg_ln La (o1 + 1) = 40) (hl : sg_ln La (o + 1) = 40) (h40 : l.length ≤ 40) (hr : sp_rw s0 o1 l)
    (h : ∀ t, (∀ c i, (c = o → i ≠ 1) → c ≠ o + 1 → t c i = s0 c i) → sp_rw t o l → Q t) :
    ∀ (r : List Int) (k : Int) (P : List Int) (t : sg_M), 0 ≤ k → k + r.length = l.length → (P.length : Int) = k → sg_ar (s0 (o1 + 1)) k r → (∀ c i, (c = o → i ≠ 1) → c ≠ o + 1 → t c i = s0 c i) → sp_rw t o P → P ++ r = l → fX4_copyFrom_L6 La o o1 Q (r.length + 1) t k
  | [], k, P, t, h0, hk, hP, har, hF, hu, he => by
    simp only [List.length_nil] at hk
    rw [List.length_nil, fX4_copyFrom_L6]
    rw [List.append_nil] at he
    rw [he] at hu
    exact ⟨fun _ => h t hF hu, fun hh => absurd (show t o1 1 ≤ k by rw [hF o1 1 (by omega) (by omega), hr.1]; omega) hh⟩
  | x :: r, k, P, t, h0, hk, hP, har, hF, hu, he => by
    simp only [List.length_cons] at hk
    have hu1 := hu.1
    rw [List.length_cons, fX4_copyFrom_L6]
    refine ⟨fun hh => absurd hh (by rw [hF o1 1 (by omega) (by omega), hr.1]; omega), fun _ => ?_⟩
    refine tX4_at (l := l) (c := 40) hl1 (by omega) (by rw [hF o1 1 (by omega) (by omega)]; exact hr.1) (by omega) (sg_ar_congr _ 0 (fun i _ _ => (hF _ i (by omega) (by omega)).symm) hr.2) ?_
    have ex : sp_at l k = x := by rw [← sp_at_in hr.2 h0 (by omega)]; exact har.1
    rw [ex]
    refine tX4_add (c := 40) hl (by omega) (by omega) (by omega) ⟨by omega, ?_⟩
    refine sp_copL hne hl1 hl h40 hr h r (k + 1) (P ++ [x]) _ (by omega) (by omega) (by simp only [List.length_append, List.length_cons, List.length_nil]; omega) har.2 (fun c i q1 q2 => ?_) (sp_rw_snoc hu) (by rw [List.append_assoc]; exact he)
    rw [sg_upN _ (by omega), sg_upN _ (by omega)]; exact hF c i q1 q2
theorem tX4_copyFrom {o o1 : Int} {l : List Int} {Q : sg_M → Prop} (hne : o ≠ o1 ∧ o + 1 ≠ o1 ∧ o ≠ o1 + 1) (hl1 : sg_ln La (o1 + 1) = 40) (hl : sg_ln La (o + 1) = 40) (h40 : l.length ≤ 40) (hr : sp_rw s o1 l)
    (h : ∀ t, (∀ c i, (c = o → i ≠ 1) → c ≠ o + 1 → t c i = s c i) → sp_rw t o l → Q t) : fX4_copyFrom La s o o1 Q := by
  refine tX4_clear ⟨l.length + 1, ?_⟩
  have e : ∀ c i, (c = o → i ≠ 1) → sg_up s o 1 0 c i = s c i := fun c i q => sg_upN _ (by omega)
  have hr' : sp_rw (sg_up s o 1 0) o1 l := sp_rw_same hr (e _ _ (by omega)) (fun i => e _ _ (by omega))
  exact sp_copL (s0 := sg_up s o 1 0) hne hl1 hl h40 hr' (fun t hF ht => h t (fun c i q1 q2 => by rw [hF c i q1 q2, e c i q1]) ht) l 0 [] _ (by omega) (by omega) rfl hr'.2 (fun _ _ _ _ => rfl) (sp_rw_nil _ _) rfl
theorem tX2_copyFrom {o o1 : Int} {A D : List Int} {Q : sg_M → Prop} (hne : o + 5 ≤ o1 ∨ o1 + 5 ≤ o) (l2 : sg_ln La (o + 2) = 40) (l4 : sg_ln La (o + 4) = 40) (h40 : A.length ≤ 40) (hAD : A.length = D.length) (hK : sp_cK La s o1 A D)
    (h : ∀ t, (∀ c i, c < o ∨ o + 5 ≤ c → t c i = s c i) → sp_cK La t o A D → Q t) : fX2_copyFrom La s o o1 Q := by
  obtain ⟨m2, m4, hn, hA, hD⟩ := hK
  refine tX4_copyFrom (l := A) (by omega) (by rw [show o1 + 1 + 1 = o1 + 2 by omega]; exact m2) (by rw [show o + 1 + 1 = o + 2 by omega]; exact l2) h40 hA (fun t hF hr => ?_)
  refine tX4_copyFrom (l := D) (by omega) (by rw [show o1 + 3 + 1 = o1 + 4 by omega]; exact m4) (by rw [show o + 3 + 1 = o + 4 by omega]; exact l4) (by omega) (sp_kR hD (fun c i q1 q2 => hF c i (by omega) (by omega))) (fun u hG hs s8 h8 => ?_)
  have e : ∀ c i, c < o ∨ o + 5 ≤ c → u c i = s c i := fun c i q => by rw [hG c i (by omega) (by omega), hF c i (by omega) (by omega)]
  refine h s8 (fun c i q => by rw [h8, sg_upN _ (by omega)]; exact e c i q) ⟨l2, l4, ?_, ?_, ?_⟩
  · rw [h8, sg_upS, e o1 2 (by omega)]; exact hn
  · refine sp_kR hr (fun c i q1 q2 => ?_)
    rw [h8, sg_upN _ (by omega), hG c i (by omega) (by omega)]
  · refine sp_kR hs (fun c i q1 q2 => ?_)
    rw [h8, sg_upN _ (by omega)]
theorem sp_shA {o1 : Int} {Q : sg_M → Prop} {s0 : sg_M} (ho : o1 + 6 ≠ 25) (h : ∀ t, (∀ c i, c ≠ 25 → t c i = s0 c i) → (∀ i, 0 ≤ i → i < 4 → t 25 i = s0 (o1 + 6) i) → Q t) : ∃ n, fX7_copyFrom_A_L37 o1 Q n s0 0 := by
  refine ⟨5, ?_⟩
  have step : ∀ (n : Nat) (i : Int) (t : sg_M), 0 ≤ i → i < 4 → (∀ c j, c ≠ 25 → t c j = s0 c j) → (∀ t', (∀ c j, c ≠ 25 → t' c j = s0 c j) → t' 25 i = s0 (o1 + 6) i → (∀ j, j ≠ i → t' 25 j = t 25 j) → fX7_copyFrom_A_L37 o1 Q n t' (i + 1)) → fX7_copyFrom_A_L37 o1 Q (n + 1) t i := by
    intro n i t i0 i4 hF hn
    rw [fX7_copyFrom_A_L37]
    refine ⟨fun hh => absurd hh (by omega), fun _ => ⟨by omega, by omega, fun s25 h25 => ⟨by omega, hn s25 (fun c j q => by rw [h25, sg_upN _ (by omega)]; exact hF c j q) ?_ (fun j q => by rw [h25, sg_upN _ (by omega)])⟩⟩⟩
    rw [h25, sg_upS]; exact hF _ _ ho
  refine step 4 0 s0 (by omega) (by omega) (fun _ _ _ => rfl) (fun t1 f1 a1 b1 => ?_)
  refine step 3 1 t1 (by omega) (by omega) f1 (fun t2 f2 a2 b2 => ?_)
  refine step 2 2 t2 (by omega) (by omega) f2 (fun t3 f3 a3 b3 => ?_)
  refine step 1 3 t3 (by omega) (by omega) f3 (fun t4 f4 a4 b4 => ?_)
  rw [fX7_copyFrom_A_L37]
  refine ⟨fun _ => h t4 f4 (fun i i0 i4 => ?_), fun hh => absurd (show (4 : Int) ≤ 3 + 1 by omega) hh⟩
  have hi : i = 0 ∨ i = 1 ∨ i = 2 ∨ i = 3 := by omega
  rcases hi with rfl | rfl | rfl | rfl
  · rw [b4 0 (by omega), b3 0 (by omega), b2 0 (by omega)]; exact a1
  · rw [b4 1 (by omega), b3 1 (by omega)]; exact a2
  · rw [b4 2 (by omega)]; exact a3
  · exact a4
theorem sp_shB {o : Int} {Q : sg_M → Prop} {s0 : sg_M} (ho : o + 6 ≠ 25) (h : ∀ t, (∀ c i, c ≠ o + 6 → t c i = s0 c i) → (∀ i, 0 ≤ i → i < 4 → t (o + 6) i = s0 25 i) → Q t) : ∃ n, fX7_copyFrom_B_L37 o Q n s0 0 := by
  refine ⟨5, ?_⟩
  have step : ∀ (n : Nat) (i : Int) (t : sg_M), 0 ≤ i → i < 4 → (∀ c j, c ≠ o + 6 → t c j = s0 c j) → (∀ t', (∀ c j, c ≠ o + 6 → t' c j = s0 c j) → t' (o + 6) i = s0 25 i → (∀ j, j ≠ i → t' (o + 6) j = t (o + 6) j) → fX7_copyFrom_B_L37 o Q n t' (i + 1)) → fX7_copyFrom_B_L37 o Q (n + 1) t i := by
    intro n i t i0 i4 hF hn
    rw [fX7_copyFrom_B_L37]
    refine ⟨fun hh => absurd hh (by omega), fun _ => ⟨by omega, by omega, fun s25 h25 => ⟨by omega, hn s25 (fun c j q => by rw [h25, sg_upN _ (by omega)]; exact hF c j q) ?_ (fun j q => by rw [h25, sg_upN _ (by omega)])⟩⟩⟩
    rw [h25, sg_upS]; exact hF _ _ (fun e => ho e.symm)
  refine step 4 0 s0 (by omega) (by omega) (fun _ _ _ => rfl) (fun t1 f1 a1 b1 => ?_)
  refine step 3 1 t1 (by omega) (by omega) f1 (fun t2 f2 a2 b2 => ?_)
  refine step 2 2 t2 (by omega) (by omega) f2 (fun t3 f3 a3 b3 => ?_)
  refine step 1 3 t3 (by omega) (by omega) f3 (fun t4 f4 a4 b4 => ?_)
  rw [fX7_copyFrom_B_L37]
  refine ⟨fun _ => h t4 f4 (fun i i0 i4 => ?_), fun hh => absurd (show (4 : Int) ≤ 3 + 1 by omega) hh⟩
  have hi : i = 0 ∨ i = 1 ∨ i = 2 ∨ i = 3 := by omega
  rcases hi with rfl | rfl | rfl | rfl
  · rw [b4 0 (by omega), b3 0 (by omega), b2 0 (by omega)]; exact a1
  · rw [b4 1 (by omega), b3 1 (by omega)]; exact a2
  · rw [b4 2 (by omega)]; exact a3
  · exact a4
theorem tX7_copyFrom_A {o : Int} {M : sp_N} {Q : sg_M → Prop} (h89 : 89 ≤ La.1) (hw : sp_wN M) (ho : 89 ≤ o ∧ o + 7 ≤ La.1) (l22 : sg_ln La 22 = 40) (l24 : sg_ln La 24 = 40) (hM : sp_cN La s o (o + 1) (o + 6) M)
    (h : ∀ t, (∀ c i, c ≠ 4 → c < 20 ∨ 25 < c → t c i = s c i) → sp_cN La t 4 20 25 M → Q t) : fX7_copyFrom_A La s o Q := by
  obtain ⟨n1, n2, n3, n4, n5⟩ := hM
  have r0 := sp_rg0 n1.1 (by omega)
  have r1 := sp_rg0 n2.1 (by omega)
  have r2 := sp_rg0 n3.1 (by omega)
  refine ⟨r0, fun s4 h4 => ?_⟩
  have e1 : s4 o 1 = s o 1 := by rw [h4, sg_upN _ (by omega)]
  rw [e1]
  refine ⟨r1, fun s9 h9 => ?_⟩
  have e2 : s9 o 2 = s o 2 := by rw [h9, sg_upN _ (by omega), h4, sg_upN _ (by omega)]
  rw [e2]
  refine ⟨r2, fun s14 h14 => ?_⟩
  have f14 : ∀ c i, c ≠ 4 → s14 c i = s c i := fun c i q => by rw [h14, sg_upN _ (by omega), h9, sg_upN _ (by omega), h4, sg_upN _ (by omega)]
  have a0 : s14 4 0 = s o 0 := by rw [h14, sg_upN _ (by omega), h9, sg_upN _ (by omega), h4, sg_upS]
  have a1 : s14 4 1 = s o 1 := by rw [h14, sg_upN _ (by omega), h9, sg_upS]
  have a2 : s14 4 2 = s o 2 := by rw [h14, sg_upS]
  have X := sp_X_refl La
  refine tX2_copyFrom (o1 := o + 1) (A := nKa M) (D := nKb M) (by omega) l22 l24 hw.2.2.2.2.2.2.1 hw.2.2.2.2.2.1 (sp_cK_same n4 X (by omega) (by omega) (fun c i q1 q2 => f14 c i (by omega))) (fun t hF hK => sp_shA (by omega) (fun u hG hs => ?_))
  have f : ∀ c i, c ≠ 4 → c < 20 ∨ 25 < c → u c i = s c i := fun c i q1 q2 => by rw [hG c i (by omega), hF c i (by omega), f14 c i q1]
  have hk : sp_kp La s u := ⟨fun c i hc => f c i (by omega) (by omega), fun j _ _ => Or.inl (f 26 j (by omega) (by omega))⟩
  have b4 : ∀ i, u 4 i = s14 4 i := fun i => by rw [hG 4 i (by omega), hF 4 i (by omega)]
  refine h u f ⟨?_, ?_, ?_, sp_cK_same hK X (by omega) (by omega) (fun c i q1 q2 => hG c i (by omega)), fun k k0 k1 => ?_⟩
  · rw [b4, a0]; exact sp_cBl_same n1 X h89 hk
  · rw [b4, a1]; exact sp_cH_same n2 X h89 hk
  · rw [b4, a2]; exact sp_cS_same n3 X h89 hk
  · rw [hs k k0 k1, hF _ _ (by omega), f14 _ _ (by omega)]
    rcases n5 k k0 k1 with q | ⟨q, B, q1, q2⟩
    · exact Or.inl q
    · exact Or.inr ⟨q, B, q1, sp_cBl_same q2 X h89 hk⟩
theorem tX7_copyFrom_B {o : Int} {M : sp_N} {Q : sg_M → Prop} (h89 : 89 ≤ La.1) (hw : sp_wN M) (ho : 89 ≤ o ∧ o + 7 ≤ La.1) (l3 : sg_ln La (o + 3) = 40) (l5 : sg_ln La (o + 5) = 40) (him : ∃ k, 0 ≤ k ∧ k < 2 ∧ s 26 k = o) (hM : sp_cN La s 4 20 25 M)
    (h : ∀ t, (∀ c i, c < o ∨ o + 7 ≤ c → t c i = s c i) → sp_cN La t o (o + 1) (o + 6) M → Q t) : fX7_copyFrom_B La s o Q := by
  obtain ⟨n1, n2, n3, n4, n5⟩ := hM
  have r0 := sp_rg0 n1.1 (by omega)
  have r1 := sp_rg0 n2.1 (by omega)
  have r2 := sp_rg0 n3.1 (by omega)
  refine ⟨r0, fun s4 h4 => ?_⟩
  have e1 : s4 4 1 = s 4 1 := by rw [h4, sg_upN _ (by omega)]
  rw [e1]
  refine ⟨r1, fun s9 h9 => ?_⟩
  have e2 : s9 4 2 = s 4 2 := by rw [h9, sg_upN _ (by omega), h4, sg_upN _ (by omega)]
  rw [e2]
  refine ⟨r2, fun s14 h14 => ?_⟩
  have f14 : ∀ c i, c ≠ o → s14 c i = s c i := fun c i q => by rw [h14, sg_upN _ (by omega), h9, sg_upN _ (by omega), h4, sg_upN _ (by omega)]
  have a0 : s14 o 0 = s 4 0 := by rw [h14, sg_upN _ (by omega), h9, sg_upN _ (by omega), h4, sg_upS]
  have a1 : s14 o 1 = s 4 1 := by rw [h14, sg_upN _ (by omega), h9, sg_upS]
  have a2 : s14 o 2 = s 4 2 := by rw [h14, sg_upS]
  have X := sp_X_refl La
  refine tX2_copyFrom (o := o + 1) (o1 := 20) (A := nKa M) (D := nKb M) (by omega) (by rw [show o + 1 + 2 = o + 3 by omega]; exact l3) (by rw [show o + 1 + 4 = o + 5 by omega]; exact l5) hw.2.2.2.2.2.2.1 hw.2.2.2.2.2.1 (sp_cK_same n4 X (by omega) (by omega) (fun c i q1 q2 => f14 c i (by omega))) (fun t hF hK => sp_shB (by omega) (fun u hG hs => ?_))
  have f : ∀ c i, c < o ∨ o + 7 ≤ c → u c i = s c i := fun c i q2 => by rw [hG c i (by omega), hF c i (by omega), f14 c i (by omega)]
  obtain ⟨k', k0', k1', ek⟩ := him
  have hk : sp_kp La s u := ⟨fun c i hc => f c i (by
      rcases hc with hc | ⟨q1, q2, q3⟩
      · omega
      · have := q3 k' k0' k1' (by omega)
        omega), fun j _ _ => Or.inl (f 26 j (by omega))⟩
  have b4 : ∀ i, u o i = s14 o i := fun i => by rw [hG o i (by omega), hF o i (by omega)]
  refine h u f ⟨?_, ?_, ?_, sp_cK_same hK X (by omega) (by omega) (fun c i q1 q2 => hG c i (by omega)), fun k k0 k1 => ?_⟩
  · rw [b4, a0]; exact sp_cBl_same n1 X h89 hk
  · rw [b4, a1]; exact sp_cH_same n2 X h89 hk
  · rw [b4, a2]; exact sp_cS_same n3 X h89 hk
  · rw [hs k k0 k1, hF _ _ (by omega), f14 _ _ (by omega)]
    rcases n5 k k0 k1 with q | ⟨q, B, q1, q2⟩
    · exact Or.inl q
    · exact Or.inr ⟨q, B, q1, sp_cBl_same q2 X h89 hk⟩
/-! restore -/
def sp_im (z : sp_Z) (k : Int) : Option sp_N := if 0 ≤ k ∧ k < 2 then zI z k else none
def aRestore (z : sp_Z) (k : Int) : Int := match sp_im z k with
  | some _ => 1
  | none => 0
def yRestore (z : sp_Z) (k : Int) : sp_Z := match sp_im z k with
  | some M => zN' z M
  | none => z
theorem k1Restore {k : Int} {Q : Int → sg_M → Prop} (hst : sg_St La) (h89 : 89 ≤ La.1) (hw : sp_wZ z) (H : sp_RC La s z) (h : ∀ s', sp_FM s s' → sp_RC La s' (yRestore z k) → Q (aRestore z k) s') : fX11_restore La s k Q := by
  have no : sp_im z k = none → Q 0 s := fun e => by
    unfold aRestore yRestore at h; rw [e] at h; exact h s (fun _ _ _ _ => rfl) H
  have H' := H
  rw [sp_RC_eq] at H'
  obtain ⟨-, -, -, ⟨hI, -⟩, -⟩ := H'
  refine ⟨fun g => no (by unfold sp_im; rw [if_neg (by omega)]), fun g => ⟨fun g2 => no (by unfold sp_im; rw [if_neg (by omega)]), fun g2 => ⟨by omega, fun g3 => ⟨by omega, g3, ?_⟩, fun g3 => ?_⟩⟩⟩
  · rcases hI k (by omega) (by omega) with ⟨-, q⟩ | ⟨q1, q2, q3, M, q4, q5⟩
    · omega
    · have e : sp_im z k = some M := by unfold sp_im; rw [if_pos (by omega)]; exact q4
      unfold aRestore yRestore at h
      rw [e] at h
      refine tX7_copyFrom_A h89 (hw.2.2.2.1 k M q4) ⟨q2, q3⟩ (sp_ln hst 22 10040 rfl) (sp_ln hst 24 10040 rfl) q5 (fun t hF hN => tX11_forgetAnswers (fun u hG h58 h62 => ?_))
      have f : ∀ c i, c ≠ 4 → (c < 20 ∨ 25 < c) → (c = 58 → i ≠ 2) → (c = 62 → i ≠ 2) → u c i = s c i := fun c i q1 q2 q3 q4 => by rw [hG c i q3 q4, hF c i q1 q2]
      refine h u (fun c i q1 q2 => f c i (by omega) (by omega) (by omega) (by omega)) (sp_RC_N H (sp_X_refl La) h89 (fun c i q1 q2 q3 q4 q5 q6 => f c i q1 q2 q3 q4) h58 h62 (sp_kN hN (sp_X_refl La) h89 (fun c i q => hG c i (by omega) (by omega))))
  · rcases hI k (by omega) (by omega) with ⟨q, -⟩ | ⟨q, -⟩
    · exact no (by unfold sp_im; rw [if_pos (by omega)]; exact q)
    · omega
theorem sp_reL {k : Int} {Q : Int → sg_M → Prop} {s0 : sg_M} (hk : 0 ≤ k ∧ k < 2) (h : ∀ t, (∀ c i, (c = 66 → i < 0 ∨ 2040 ≤ i) → t c i = s0 c i) → (∀ i, 0 ≤ i → i < 2040 → t 66 i = s0 68 (2040 * k + i)) → Q 1 t) :
    ∀ (r m : Nat) (t : sg_M), m + r = 2040 → (∀ c i, (c = 66 → i < 0 ∨ 2040 ≤ i) → t c i = s0 c i) → (∀ i : Int, 0 ≤ i → i < m → t 66 i = s0 68 (2040 * k + i)) → fX12_restore_L31 k Q (r + 1) t m
  | 0, m, t, hm, hF, hc => by
    rw [fX12_restore_L31]
    exact ⟨fun _ => h t hF (fun i q1 q2 => hc i q1 (by omega)), fun hh => absurd (show (2040 : Int) ≤ m by omega) hh⟩
  | r + 1, m, t, hm, hF, hc => by
    rw [fX12_restore_L31]
    refine ⟨fun hh => absurd hh (by omega), fun _ => ⟨by omega, by omega, fun v13 hv13 => fun s13 h13 => ⟨by omega, ?_⟩⟩⟩
    have ih := sp_reL hk h r (m + 1) s13 (by omega) (fun c i q => by rw [h13, sg_upN _ (by omega)]; exact hF c i q) (fun i q1 q2 => ?_)
    · rw [show ((m + 1 : Nat) : Int) = (m : Int) + 1 by omega] at ih; exact ih
    · by_cases hi : i = m
      · rw [hi, h13, sg_upS, hv13]; exact hF 68 _ (by omega)
      · rw [h13, sg_upN _ (by omega)]; exact hc i q1 (by omega)
theorem sp_mN_sh {f g : Int → Int} {N : sp_N} (hw : sp_wN N) (h : sp_mN f N) (e : ∀ i, 0 ≤ i → i < 2040 → g i = f i) : sp_mN g N := by
  rw [sp_mN_eq2] at h ⊢
  obtain ⟨n1, n2, n3, n4, n5⟩ := h
  exact ⟨sp_mBl_eq hw.1 n1 (fun i q1 q2 => e i q1 (by omega)), sp_mH_eq n2 hw.2.1 hw.2.2.1 (fun i q1 q2 => e i (by omega) (by omega)), sp_mS_eq n3 (fun i q1 q2 => e i (by omega) q2), sp_mK_eq n4 hw.2.2.2.2.2.1 hw.2.2.2.2.2.2.1 (fun i q1 q2 => e i (by omega) (by omega)), sp_mF_eq hw.2.2.2.2.2.2.2.2.2 n5 (fun i q1 q2 => e i (by omega) (by omega))⟩
theorem k2Restore {k : Int} {Q : Int → sg_M → Prop} (hw : sp_wZ z) (H : sp_RM s z) (h : ∀ s', sp_FC s s' → sp_RM s' (yRestore z k) → Q (aRestore z k) s') : fX12_restore s k Q := by
  obtain ⟨H0, h20, F0, -⟩ := sp_go H
  intro s1 h1
  rw [← h1] at H0 F0 h20
  have no : sp_im z k = none → Q 0 (sp_ly s1) := fun e => by
    unfold aRestore yRestore at h; rw [e] at h; exact h _ F0 (sp_RM_of H0 h20)
  refine tX12_lay (tX12_isIn ?_)
  split
  · rename_i g
    refine ⟨fun hh => absurd hh (by omega), fun _ => ⟨by omega, fun g2 => ⟨2041, ?_⟩, fun g2 => ?_⟩⟩
    · rcases H0.2.2.2.1 k (by omega) (by omega) with ⟨-, q⟩ | ⟨-, M, q1, q2⟩
      · exact absurd q g2
      · have e : sp_im z k = some M := by unfold sp_im; rw [if_pos (by omega)]; exact q1
        unfold aRestore yRestore at h
        rw [e] at h
        refine sp_reL (s0 := sp_ly s1) (by omega) (fun t hF hc => ?_) 2040 0 _ (by omega) (fun _ _ _ => rfl) (fun i q1 q2 => by omega)
        exact h t (fun c i q => by rw [hF c i (by omega)]; exact F0 c i q) (sp_RM_of (sp_R0_N H0 (fun c i q1 q2 q3 => hF c i (by omega)) (fun c i q1 q2 q3 => hF c i (by omega)) (sp_mN_sh (hw.2.2.2.1 k M q1) q2 hc)) (by rw [hF 64 20 (by omega)]; exact h20))
    · rcases H0.2.2.2.1 k (by omega) (by omega) with ⟨q, -⟩ | ⟨q, -⟩
      · exact no (by unfold sp_im; rw [if_pos (by omega)]; exact q)
      · exact absurd g2 q
  · rename_i g
    exact ⟨fun _ => no (by unfold sp_im; rw [if_neg (by omega)]), fun hh => absurd rfl hh⟩
theorem wRestore {k : Int} (hw : sp_wZ z) : sp_wZ (yRestore z k) := by
  unfold yRestore
  cases hs : sp_im z k with
  | none => exact hw
  | some M =>
    have hS : zI z k = some M := by
      unfold sp_im at hs; split at hs
      · exact hs
      · cases hs
    exact sp_wN' hw (hw.2.2.2.1 k M hS)
/-! image -/
def aImage (k : Int) : Int := if 0 ≤ k ∧ k < 2 then 1 else 0
def zI' (z : sp_Z) (I : Int → Option sp_N) : sp_Z := (zT z, zF z, zN z, I, zL z, zG z, zW z, zR z, zD z, zE z, zU z)
def yImage (z : sp_Z) (k : Int) : sp_Z := if 0 ≤ k ∧ k < 2 then zI' z (fun j => if j = k then some (zN z) else zI z j) else z
theorem k1ImageB {La' : sg_L} {s' : sg_M} {k o : Int} {Q : Int → sg_L → sg_M → Prop} (h89 : 89 ≤ La.1) (hX : sg_X La La') (hw : sp_wZ z) (H : sp_RC La s z) (hk : 0 ≤ k ∧ k < 2) (ho : 89 ≤ o ∧ o + 7 ≤ La'.1) (e : ∀ c i : Int, c < La.1 → (c = 26 → i ≠ k) → s' c i = s c i) (ek : s' 26 k = o)
    (hnew : o = s 26 k ∨ (La.1 : Int) ≤ o) (l3 : sg_ln La' (o + 3) = 40) (l5 : sg_ln La' (o + 5) = 40) (h : ∀ t, sp_FM s t → sp_RC La' t (yImage z k) → Q 1 La' t) : fX7_copyFrom_B La' s' o (fun t => Q 1 La' t) := by
  have hx := hX.1
  have H' := H
  rw [sp_RC_eq] at H'
  obtain ⟨hT, hF, hN, ⟨hI, hI2⟩, hL, hG, hW, hR, hD, hE, hU, hQ, hK⟩ := H'
  -- the images' places before and behind
  have e26 : ∀ j, j ≠ k → s' 26 j = s 26 j := fun j q => e 26 j (by omega) (by omega)
  have hkp : sp_kp La s s' := by
    refine ⟨fun c i hc => e c i (by omega) (by omega), fun j j0 j1 => ?_⟩
    by_cases hj : j = k
    · rw [hj, ek]
      rcases hnew with q | q
      · exact Or.inl q
      · exact Or.inr q
    · exact Or.inl (e26 j hj)
  have hN' : sp_cN La' s' 4 20 25 (zN z) := sp_cN_same hN hX h89 (by omega) (by omega) hkp (fun i => e 4 i (by omega) (by omega)) (fun c i q1 q2 => e c i (by omega) (by omega)) (fun i => e 25 i (by omega) (by omega))
  refine tX7_copyFrom_B (by omega) hw.2.2.1 ho l3 l5 ⟨k, hk.1, hk.2, ek⟩ hN' (fun t hG' hM => ?_)
  have f : ∀ c i : Int, c < La.1 → (c = 26 → i ≠ k) → (c < o ∨ o + 7 ≤ c) → t c i = s c i := fun c i q1 q2 q3 => by rw [hG' c i q3, e c i q1 q2]
  -- images are apart
  have hap : ∀ j, 0 ≤ j → j < 2 → j ≠ k → 0 ≤ s 26 j → o + 7 ≤ s 26 j ∨ s 26 j + 7 ≤ o := by
    intro j j0 j1 hj h26
    rcases hI j j0 j1 with ⟨-, q⟩ | ⟨q1, q2, q3, -⟩
    · omega
    · rcases hnew with q | q
      · have hh : (j = 0 ∧ k = 1) ∨ (j = 1 ∧ k = 0) := by omega
        rcases hh with ⟨rfl, rfl⟩ | ⟨rfl, rfl⟩
        · have := hI2 h26 (by omega); omega
        · have := hI2 (by omega) h26; omega
      · omega
  have hkt : sp_kp La s t := by
    refine ⟨fun c i hc => ?_, fun j j0 j1 => ?_⟩
    · refine f c i (by omega) (by omega) ?_
      rcases hc with q | ⟨q1, q2, q3⟩
      · omega
      · rcases hnew with q | q
        · have := q3 k hk.1 hk.2 (by omega); omega
        · omega
    · have et : t 26 j = s' 26 j := hG' 26 j (by omega)
      rw [et]; exact hkp.2 j j0 j1
  refine h t (fun c i q1 q2 => f c i (by omega) (by omega) (by omega)) ?_
  rw [sp_RC_eq]
  unfold yImage
  rw [if_pos hk]
  have f2 : ∀ c i : Int, c < 89 → (c = 26 → i ≠ k) → t c i = s c i := fun c i q1 q2 => f c i (by omega) q2 (by omega)
  refine ⟨sp_kT hT (fun c i q => f2 c i (by omega) (by omega)), by rw [f2 0 16 (by omega) (by omega)]; exact hF, sp_cN_same hN hX h89 (by omega) (by omega) hkt (fun i => f2 4 i (by omega) (by omega)) (fun c i q1 q2 => f2 c i (by omega) (by omega)) (fun i => f2 25 i (by omega) (by omega)),
    ⟨fun j j0 j1 => ?_, ?_⟩, sp_kL hL (fun i => f2 37 i (by omega) (by omega)), sp_kR hG (fun c i _ _ => f2 c i (by omega) (by omega)), by rw [f2 0 17 (by omega) (by omega)]; exact hW, by rw [f2 0 18 (by omega) (by omega)]; exact hR, sp_kR hD (fun c i _ _ => f2 c i (by omega) (by omega)),
    sp_kR hE (fun c i _ _ => f2 c i (by omega) (by omega)), sp_kR hU (fun c i _ _ => f2 c i (by omega) (by omega)), sp_kQ hQ (fun c i _ _ => f2 c i (by omega) (by omega)), sp_kK hK (fun c i _ _ => f2 c i (by omega) (by omega))⟩
  · by_cases hj : j = k
    · rw [hj]
      have et : t 26 k = o := by rw [hG' 26 k (by omega)]; exact ek
      rw [et]
      refine Or.inr ⟨by omega, ho.1, ho.2, zN z, ?_, hM⟩
      show (if k = k then some (zN z) else _) = _; rw [if_pos rfl]
    · have et : t 26 j = s 26 j := f2 26 j (by omega) (by omega)
      have ej : zI (zI' z (fun j => if j = k then some (zN z) else zI z j)) j = zI z j := by show (if j = k then _ else _) = _; rw [if_neg hj]
      rw [et, ej]
      rcases hI j j0 j1 with q | ⟨q1, q2, q3, M, q4, q5⟩
      · exact Or.inl q
      · have := hap j j0 j1 hj q1
        exact Or.inr ⟨q1, q2, by omega, M, q4, sp_cN_same q5 hX h89 (by omega) (by omega) hkt (fun i => f _ i (by omega) (by omega) (by omega)) (fun c i _ _ => f c i (by omega) (by omega) (by omega)) (fun i => f _ i (by omega) (by omega) (by omega))⟩
  · have et : ∀ j, t 26 j = s' 26 j := fun j => hG' 26 j (by omega)
    rw [et, et]
    have hh : k = 0 ∨ k = 1 := by omega
    rcases hh with rfl | rfl
    · rw [ek, e26 1 (by omega)]
      intro _ q; have := hap 1 (by omega) (by omega) (by omega) q; omega
    · rw [ek, e26 0 (by omega)]
      intro q _; have := hap 0 (by omega) (by omega) (by omega) q; omega
end SGK9
noncomputable section SGKa
variable {La : sg_L} {s : sg_M} {z : sp_Z}
theorem k1Image {k : Int} {Q : Int → sg_L → sg_M → Prop} (h89 : 89 ≤ La.1) (hw : sp_wZ z) (H : sp_RC La s z) (h : ∀ La' s', sg_X La La' → La'.1 ≤ La.1 + 7 → sp_FM s s' → sp_RC La' s' (yImage z k) → Q (aImage k) La' s') : fX11_image La s k Q := by
  have H' := H
  rw [sp_RC_eq] at H'
  obtain ⟨hT, hF, hN, ⟨hI, hI2⟩, -⟩ := H'
  have hn0 : ¬ (0 ≤ k ∧ k < 2) → Q 0 La s := fun g => by
    unfold aImage yImage at h; rw [if_neg g, if_neg g] at h; exact h La s (sp_X_refl La) (by omega) (fun _ _ _ _ => rfl) H
  refine ⟨fun g => hn0 (by omega), fun g => ⟨fun g2 => ⟨by omega, fun g3 => ⟨by omega, g3, ?_⟩, fun g3 => ?_⟩, fun g2 => hn0 (by omega)⟩⟩
  · have ha : aImage k = 1 := by unfold aImage; rw [if_pos (by omega)]
    rw [ha] at h
    rcases hI k (by omega) (by omega) with ⟨-, q⟩ | ⟨q1, q2, q3, M, q4, q5⟩
    · omega
    · have m := q5.2.2.2.1
      refine k1ImageB (Q := Q) h89 (sp_X_refl La) hw H (by omega) ⟨q2, q3⟩ (fun _ _ _ _ => rfl) rfl (Or.inl rfl) ?_ ?_ (fun t hFM hRC => h La t (sp_X_refl La) (by omega) hFM hRC)
      · rw [show s 26 k + 3 = s 26 k + 1 + 2 by omega]; exact m.1
      · rw [show s 26 k + 5 = s 26 k + 1 + 4 by omega]; exact m.2.1
  · have ha : aImage k = 1 := by unfold aImage; rw [if_pos (by omega)]
    rw [ha] at h
    obtain ⟨n1, n2, n3, n4, n5⟩ := hN
    have r0 := sp_rg0 n1.1 (by omega)
    have r1 := sp_rg0 n2.1 (by omega)
    have r2 := sp_rg0 n3.1 (by omega)
    intro q16 La17 hL17 s18 h18 o19 h19
    subst hL17; subst h18; subst h19
    have e18 : ∀ c i : Int, c < La.1 → sg_nw s La.1 47 c i = s c i := fun c i hc => sp_nwN (by omega)
    rw [e18 4 0 (by omega), e18 4 1 (by omega), e18 4 2 (by omega)]
    refine ⟨r0, r1, r2, ?_⟩
    intro q1 La2 hL2 s3 h3 o4 h4
    subst hL2; subst h3; subst h4
    refine tX2_new (fun La16 s17 X16 n16 k16 k16' k16'' f16 a2 a1 => ?_)
    simp only [sp_pu1] at n16 k16 k16' k16'' f16 a2 a1
    intro s25 h25 q27 La28 hL28 s29 h29 o30 h30 s42 h42 s44 h44 s46 h46 s48 h48
    have n28 : La28.1 = La.1 + 7 := by rw [hL28, sp_pu1, n16]
    have X28 : sg_X La La28 := by rw [hL28]; exact sg_X.tr sg_X.pu (sg_X.tr X16 sg_X.pu)
    have K1 : La28.2.1 (La.1 + 1) = 2 := by rw [hL28, sg_pu_kd (by omega)]; exact k16
    have K3 : La28.2.1 (La.1 + 3) = 10040 := by rw [hL28, sg_pu_kd (by omega), show La.1 + 3 = La.1 + 1 + 2 by omega]; exact k16' 2 (Or.inl rfl)
    have K5 : La28.2.1 (La.1 + 5) = 10040 := by rw [hL28, sg_pu_kd (by omega), show La.1 + 5 = La.1 + 1 + 4 by omega]; exact k16' 4 (Or.inr rfl)
    have K6 : La28.2.1 (La.1 + 6) = 30004 := by rw [hL28, show La.1 + 6 = La16.1 by omega]; exact sg_pu_new
    have m30 : o30 = (La.1 : Int) + 6 := by rw [h30, n16]; omega
    have w29 : ∀ c b : Int, c ≠ (La.1 : Int) + 6 → s29 c b = s25 c b := fun c b hc => by rw [h29]; exact sp_nwN (by rw [n16]; omega)
    have v0 : s48 La.1 0 = s 4 0 := by rw [h48, sg_upN _ (by omega), h46, sg_upN _ (by omega), h44, sg_upS]
    have v1 : s48 La.1 1 = s 4 1 := by rw [h48, sg_upN _ (by omega), h46, sg_upS]
    have v2 : s48 La.1 2 = s 4 2 := by rw [h48, sg_upS]
    have v4 : s48 La.1 4 = (La.1 : Int) + 6 := by rw [h48, sg_upN _ (by omega), h46, sg_upN _ (by omega), h44, sg_upN _ (by omega), h42, sg_upS, m30]
    have v3 : s48 La.1 3 = (La.1 : Int) + 1 := by rw [h48, sg_upN _ (by omega), h46, sg_upN _ (by omega), h44, sg_upN _ (by omega), h42, sg_upN _ (by omega), w29 _ _ (by omega), h25, sg_upS, sp_pu1]; omega
    have rs : ∀ c i : Int, c < La.1 → s48 c i = s c i := fun c i hc => by
      rw [h48, sg_upN _ (by omega), h46, sg_upN _ (by omega), h44, sg_upN _ (by omega), h42, sg_upN _ (by omega), w29 _ _ (by omega), h25, sg_upN _ (by omega), f16 _ _ (by omega), e18 c i hc]
    have kd : ∀ (r c w : Int) (kk : Nat), sp_rg La s r c w kk → 0 ≤ c → c < 20 → 0 < w → 0 ≤ r ∧ r.toNat < La28.1 ∧ La28.2.1 r.toNat = kk ∧ r.toNat ≠ La.1 := fun r c w kk hr c0 c20 w0 => by
      obtain ⟨q0, q⟩ := hr
      have hlt : r.toNat < La.1 := by omega
      exact ⟨by omega, by omega, by rw [X28.2.2 _ hlt]; exact q0, by omega⟩
    have kB := kd _ _ _ _ n1.1 (by omega) (by omega) (by omega)
    have kH := kd _ _ _ _ n2.1 (by omega) (by omega) (by omega)
    have kS := kd _ _ _ _ n3.1 (by omega) (by omega) (by omega)
    refine ⟨⟨fun ad => ?_, fun j d hd => ?_⟩, fun La50 hL50 => ?_⟩
    · show List.mapIdx _ [(5, 0, 0), (5, 0, 0), (5, 0, 0), (5, 0, 0), (5, 0, 0)] = List.mapIdx _ [(4, 0, 1), (4, 0, 3), (4, 0, 5), (3, 1, 2), (3, 6, 30004)]
      simp [List.mapIdx_cons, sg_sv, sg_rf, v3, v4]
      exact ⟨by omega, by rw [show ((La.1 : Int) + 6).toNat = La.1 + 6 by omega, if_neg (by omega)]⟩
    · rw [Int.toNat_natCast]
      match j, hd with
      | 0, hd =>
        cases Option.some.inj hd
        show s48 La.1 0 = -1 ∨ (0 ≤ s48 La.1 0 ∧ (s48 La.1 0).toNat < (sg_se La28 La.1 7).1 ∧ (sg_se La28 La.1 7).2.1 (s48 La.1 0).toNat = 1)
        rw [v0, sp_se1, sp_se_kd kB.2.2.2]; exact Or.inr ⟨kB.1, kB.2.1, kB.2.2.1⟩
      | 1, hd =>
        cases Option.some.inj hd
        show s48 La.1 1 = -1 ∨ (0 ≤ s48 La.1 1 ∧ (s48 La.1 1).toNat < (sg_se La28 La.1 7).1 ∧ (sg_se La28 La.1 7).2.1 (s48 La.1 1).toNat = 3)
        rw [v1, sp_se1, sp_se_kd kH.2.2.2]; exact Or.inr ⟨kH.1, kH.2.1, kH.2.2.1⟩
      | 2, hd =>
        cases Option.some.inj hd
        show s48 La.1 2 = -1 ∨ (0 ≤ s48 La.1 2 ∧ (s48 La.1 2).toNat < (sg_se La28 La.1 7).1 ∧ (sg_se La28 La.1 7).2.1 (s48 La.1 2).toNat = 5)
        rw [v2, sp_se1, sp_se_kd kS.2.2.2]; exact Or.inr ⟨kS.1, kS.2.1, kS.2.2.1⟩
      | 3, hd =>
        cases Option.some.inj hd
        show La.1 + 1 < (sg_se La28 La.1 7).1 ∧ sg_isK ((sg_se La28 La.1 7).2.1 (La.1 + 1)) 2
        rw [sp_se1, n28, sp_se_kd (by omega), K1]; exact ⟨by omega, rfl⟩
      | 4, hd =>
        cases Option.some.inj hd
        show La.1 + 6 < (sg_se La28 La.1 7).1 ∧ sg_isK ((sg_se La28 La.1 7).2.1 (La.1 + 6)) 30004
        rw [sp_se1, n28, sp_se_kd (by omega), K6]; exact ⟨by omega, rfl⟩
      | j + 5, hd => cases hd
    · rw [Int.toNat_natCast] at hL50
      have X50 : sg_X La La50 := by rw [hL50]; exact sg_X_sx X28 (Nat.le_refl _)
      have n50 : La50.1 = La.1 + 7 := by rw [hL50, sp_se1, n28]
      refine ⟨by omega, fun s47 h47 => ⟨by omega, ?_⟩⟩
      have e47 : s47 26 k = (La.1 : Int) := by rw [h47, sg_upS]
      rw [e47]
      refine ⟨by omega, ?_⟩
      refine k1ImageB (Q := Q) h89 X50 hw H (by omega) (by omega) (fun c i hc q => by rw [h47, sg_upN _ (by omega)]; exact rs c i hc) e47 (Or.inr (by omega)) ?_ ?_ (fun t hFM hRC => h La50 t X50 (by omega) hFM hRC)
      · unfold sg_ln; rw [show ((La.1 : Int) + 3).toNat = La.1 + 3 by omega, hL50, sp_se_kd (by omega), K3]; rfl
      · unfold sg_ln; rw [show ((La.1 : Int) + 5).toNat = La.1 + 5 by omega, hL50, sp_se_kd (by omega), K5]; rfl
theorem sp_imL {k : Int} {Q : Int → sg_M → Prop} {s0 : sg_M} (hk : 0 ≤ k ∧ k < 2) (h : ∀ t, (∀ c i, (c = 68 → i < 2040 * k ∨ 2040 * k + 2040 ≤ i) → (c = 71 → i ≠ k) → t c i = s0 c i) → (∀ i, 0 ≤ i → i < 2040 → t 68 (2040 * k + i) = s0 66 i) → t 71 k = 1 → Q 1 t) :
    ∀ (r m : Nat) (t : sg_M), m + r = 2040 → (∀ c i, (c = 68 → i < 2040 * k ∨ 2040 * k + 2040 ≤ i) → t c i = s0 c i) → (∀ i : Int, 0 ≤ i → i < m → t 68 (2040 * k + i) = s0 66 i) → fX12_image_L22 k Q (r + 1) t m
  | 0, m, t, hm, hF, hc => by
    rw [fX12_image_L22]
    refine ⟨fun _ => ⟨by omega, fun s10 h10 => h s10 (fun c i q1 q2 => by rw [h10, sg_upN _ (by omega)]; exact hF c i q1) (fun i q1 q2 => by rw [h10, sg_upN _ (by omega)]; exact hc i q1 (by omega)) (by rw [h10, sg_upS])⟩, fun hh => absurd (show (2040 : Int) ≤ m by omega) hh⟩
  | r + 1, m, t, hm, hF, hc => by
    rw [fX12_image_L22]
    refine ⟨fun hh => absurd hh (by omega), fun _ => ⟨by omega, by omega, fun s13 h13 => ⟨by omega, ?_⟩⟩⟩
    have ih := sp_imL hk h r (m + 1) s13 (by omega) (fun c i q => by rw [h13, sg_upN _ (by omega)]; exact hF c i q) (fun i q1 q2 => ?_)
    · rw [show ((m + 1 : Nat) : Int) = (m : Int) + 1 by omega] at ih; exact ih
    · by_cases hi : i = m
      · rw [hi, h13, sg_upS]; exact hF 66 m (by omega)
      · rw [h13, sg_upN _ (by omega)]; exact hc i q1 (by omega)
theorem k2Image {k : Int} {Q : Int → sg_M → Prop} (hw : sp_wZ z) (H : sp_RM s z) (h : ∀ s', sp_FC s s' → sp_RM s' (yImage z k) → Q (aImage k) s') : fX12_image s k Q := by
  obtain ⟨H0, h20, F0, -⟩ := sp_go H
  intro s1 h1
  rw [← h1] at H0 F0 h20
  unfold aImage yImage at h
  refine tX12_lay (tX12_isIn ?_)
  split
  · rename_i g
    rw [if_pos (by omega), if_pos (by omega)] at h
    refine ⟨fun _ => ⟨2041, ?_⟩, fun hh => absurd hh (by omega)⟩
    refine sp_imL (s0 := sp_ly s1) (by omega) (fun t hF hc h71 => ?_) 2040 0 _ (by omega) (fun _ _ _ => rfl) (fun i q1 q2 => by omega)
    refine h t (fun c i q => by rw [hF c i (by omega) (by omega)]; exact F0 c i q) (sp_RM_of ?_ (by rw [hF 64 20 (by omega) (by omega)]; exact h20))
    obtain ⟨hT, hFa, hN, hI, hL, hG, hW, hR, hD, hE, hU⟩ := H0
    have f : ∀ c i, c ≠ 68 → c ≠ 71 → t c i = sp_ly s1 c i := fun c i q1 q2 => hF c i (by omega) (by omega)
    refine ⟨sp_m2 hT (f 64 2 (by omega) (by omega)) (fun i => f 65 i (by omega) (by omega)), by rw [f 64 10 (by omega) (by omega)]; exact hFa, sp_mN0 hN (fun i => f 66 i (by omega) (by omega)), fun j j0 j1 => ?_, fun w h1 h2 => by rw [f 77 w (by omega) (by omega)]; exact hL w h1 h2,
      sp_m2 hG (f 64 37 (by omega) (by omega)) (fun i => f 78 i (by omega) (by omega)), by rw [f 64 38 (by omega) (by omega)]; exact hW, by rw [f 64 56 (by omega) (by omega)]; exact hR, sp_m2 hD (f 64 52 (by omega) (by omega)) (fun i => f 84 i (by omega) (by omega)),
      sp_m2 hE (f 64 55 (by omega) (by omega)) (fun i => f 86 i (by omega) (by omega)), sp_m2 hU (f 64 50 (by omega) (by omega)) (fun i => f 83 i (by omega) (by omega))⟩
    by_cases hj : j = k
    · rw [hj]
      refine Or.inr ⟨by rw [h71]; omega, zN z, ?_, sp_mN_sh hw.2.2.1 hN (fun i q1 q2 => hc i q1 q2)⟩
      show (if k = k then some (zN z) else _) = _; rw [if_pos rfl]
    · have ej : zI (zI' z (fun j => if j = k then some (zN z) else zI z j)) j = zI z j := by show (if j = k then _ else _) = _; rw [if_neg hj]
      rw [ej, hF 71 j (by omega) (by omega)]
      rcases hI j j0 j1 with q | ⟨q1, M, q4, q5⟩
      · exact Or.inl q
      · exact Or.inr ⟨q1, M, q4, sp_mN_sh (hw.2.2.2.1 j M q4) q5 (fun i q1 q2 => hF 68 _ (by omega) (by omega))⟩
  · rename_i g
    rw [if_neg (by omega), if_neg (by omega)] at h
    exact ⟨fun hh => absurd rfl hh, fun _ => h _ F0 (sp_RM_of H0 h20)⟩
theorem wImage {k : Int} (hw : sp_wZ z) : sp_wZ (yImage z k) := by
  unfold yImage; split
  · obtain ⟨h1, h2, h3, h4, h5, h6, h7, h8⟩ := hw
    refine ⟨h1, h2, h3, fun j M hj => ?_, h5, h6, h7, h8⟩
    change (if j = k then some (zN z) else zI z j) = some M at hj
    split at hj
    · cases hj; exact h3
    · exact h4 j M hj
  · exact hw
end SGKa
