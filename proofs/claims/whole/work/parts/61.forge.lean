/-! LEVEL 2: addAlike, copies of blades, thicken, forge. -/
noncomputable section SGKb
variable {La : sg_L} {s : sg_M} {z : sp_Z}
theorem sp_aaL {o k w t h n : Int} {Q : sg_M → Prop} {s0 : sg_M} {m : Int} (hm0 : 0 ≤ m) (hmk : m + k ≤ 60)
    (hQ : ∀ u, (∀ c i, (c = o → i ≠ 4) → (o + 1 ≤ c → c ≤ o + 4 → i < m ∨ m + k ≤ i) → u c i = s0 c i) → u o 4 = m + k → (∀ i, m ≤ i → i < m + k → u (o + 1) i = w ∧ u (o + 2) i = t ∧ u (o + 3) i = h ∧ u (o + 4) i = n) → Q u) :
    ∀ (r : Nat) (j : Int) (u : sg_M), 0 ≤ j → j + r = k → (∀ c i, (c = o → i ≠ 4) → (o + 1 ≤ c → c ≤ o + 4 → i < m ∨ m + k ≤ i) → u c i = s0 c i) → u o 4 = m + j → (∀ i, m ≤ i → i < m + j → u (o + 1) i = w ∧ u (o + 2) i = t ∧ u (o + 3) i = h ∧ u (o + 4) i = n) → fX1_addAlike_L3 o k w t h n Q (r + 1) u j
  | 0, j, u, h0, hj, hF, hs, hv => by
    rw [fX1_addAlike_L3]
    have e : j = k := by omega
    rw [e] at hs hv
    exact ⟨fun _ => hQ u hF hs hv, fun hh => absurd (show k ≤ j by omega) hh⟩
  | r + 1, j, u, h0, hj, hF, hs, hv => by
    rw [fX1_addAlike_L3]
    refine ⟨fun hh => absurd hh (by omega), fun _ => ⟨fun hh => absurd hh (by omega), fun _ => ⟨fun hh => absurd hh (by omega), fun _ => ⟨by omega, fun s9 h9 => ?_⟩⟩⟩⟩
    have e9 : s9 o 4 = m + j := by rw [h9, sg_upN _ (by omega)]; exact hs
    refine ⟨by omega, fun s14 h14 => ?_⟩
    have e14 : s14 o 4 = m + j := by rw [h14, sg_upN _ (by omega)]; exact e9
    refine ⟨by omega, fun s19 h19 => ?_⟩
    have e19 : s19 o 4 = m + j := by rw [h19, sg_upN _ (by omega)]; exact e14
    refine ⟨by omega, fun s24 h24 => ?_⟩
    have e24 : s24 o 4 = m + j := by rw [h24, sg_upN _ (by omega)]; exact e19
    rw [e24]
    refine ⟨by omega, fun s28 h28 => ⟨by omega, ?_⟩⟩
    rw [hs] at h9
    rw [e9] at h14
    rw [e14] at h19
    rw [e19] at h24
    refine sp_aaL hm0 hmk hQ r (j + 1) s28 (by omega) (by omega) (fun c i q1 q2 => ?_) ?_ (fun i q1 q2 => ?_)
    · rw [h28, sg_upN _ (by omega), h24, sg_upN _ (by omega), h19, sg_upN _ (by omega), h14, sg_upN _ (by omega), h9, sg_upN _ (by omega)]; exact hF c i q1 q2
    · rw [h28, sg_upS]; omega
    · by_cases hi : i = m + j
      · rw [hi]
        refine ⟨?_, ?_, ?_, ?_⟩
        · rw [h28, sg_upN _ (by omega), h24, sg_upN _ (by omega), h19, sg_upN _ (by omega), h14, sg_upN _ (by omega), h9, sg_upS]
        · rw [h28, sg_upN _ (by omega), h24, sg_upN _ (by omega), h19, sg_upN _ (by omega), h14, sg_upS]
        · rw [h28, sg_upN _ (by omega), h24, sg_upN _ (by omega), h19, sg_upS]
        · rw [h28, sg_upN _ (by omega), h24, sg_upS]
      · have f : ∀ c, o + 1 ≤ c → s28 c i = u c i := fun c q => by rw [h28, sg_upN _ (by omega), h24, sg_upN _ (by omega), h19, sg_upN _ (by omega), h14, sg_upN _ (by omega), h9, sg_upN _ (by omega)]
        rw [f _ (by omega), f _ (by omega), f _ (by omega), f _ (by omega)]
        exact hv i q1 (by omega)
theorem tX1_addAlike {o k w t h n m : Int} {Q : sg_M → Prop} (hm : s o 4 = m) (hm0 : 0 ≤ m) (hk : 0 ≤ k) (hmk : m + k ≤ 60)
    (hQ : ∀ u, (∀ c i, (c = o → i ≠ 4) → (o + 1 ≤ c → c ≤ o + 4 → i < m ∨ m + k ≤ i) → u c i = s c i) → u o 4 = m + k → (∀ i, m ≤ i → i < m + k → u (o + 1) i = w ∧ u (o + 2) i = t ∧ u (o + 3) i = h ∧ u (o + 4) i = n) → Q u) : fX1_addAlike s o k w t h n Q :=
  ⟨k.toNat + 1, sp_aaL hm0 hmk hQ k.toNat 0 s (by omega) (by omega) (fun _ _ _ _ => rfl) (by omega) (fun i q1 q2 => by omega)⟩
theorem sp_bcL {o o1 : Int} {B : sg_M} {Q : sg_M → Prop} {s0 : sg_M} (hok : sp_ok B) (hne : o + 5 ≤ o1 ∨ o1 + 5 ≤ o) (hB : sp_cB s0 o1 B) (hQ : ∀ u, (∀ c i, (c = o → i < 4) → (c < o + 1 ∨ o + 4 < c) → u c i = s0 c i) → sp_cB u o B → Q u) :
    ∀ (r : Nat) (j : Int) (u : sg_M), 0 ≤ j → j + r = B 4 0 → (∀ c i, (c = o → i ≠ 4) → (c < o + 1 ∨ o + 4 < c) → u c i = s0 c i) → u o 4 = j → (∀ i, 0 ≤ i → i < j → u (o + 1) i = B 0 i ∧ u (o + 2) i = B 1 i ∧ u (o + 3) i = B 2 i ∧ u (o + 4) i = B 3 i) → fX1_copyFrom_L7 o o1 Q (r + 1) u j
  | 0, j, u, h0, hj, hF, hs, hv => by
    obtain ⟨b0, b1, b2, b3⟩ := hB
    rw [fX1_copyFrom_L7, hF o1 4 (by omega) (by omega), b0]
    refine ⟨fun _ s6 h6 s9 h9 => ?_, fun hh => absurd (show B 4 0 ≤ j by omega) hh⟩
    have e6 : s6 o1 6 = B 4 2 := by rw [h6, sg_upN _ (by omega), hF o1 6 (by omega) (by omega)]; exact b2
    refine hQ s9 (fun c i q1 q2 => by rw [h9, sg_upN _ (by omega), h6, sg_upN _ (by omega)]; exact hF c i (by omega) q2) ⟨?_, ?_, ?_, fun i q1 q2 => ?_⟩
    · rw [h9, sg_upN _ (by omega), h6, sg_upN _ (by omega)]; omega
    · rw [h9, sg_upN _ (by omega), h6, sg_upS, hF o1 5 (by omega) (by omega)]; exact b1
    · rw [h9, sg_upS]; exact e6
    · have f : ∀ c, o + 1 ≤ c → s9 c i = u c i := fun c q => by rw [h9, sg_upN _ (by omega), h6, sg_upN _ (by omega)]
      rw [f _ (by omega), f _ (by omega), f _ (by omega), f _ (by omega)]
      exact hv i q1 (by omega)
  | r + 1, j, u, h0, hj, hF, hs, hv => by
    have hB' := hB
    obtain ⟨b0, b1, b2, b3⟩ := hB
    have hn := hok.2.1
    obtain ⟨c0, c1, c2, c3⟩ := b3 j h0 (by omega)
    rw [fX1_copyFrom_L7, hF o1 4 (by omega) (by omega), b0, hF (o1 + 1) j (by omega) (by omega), hF (o1 + 2) j (by omega) (by omega), hF (o1 + 3) j (by omega) (by omega), hF (o1 + 4) j (by omega) (by omega), c0, c1, c2, c3]
    refine ⟨fun hh => absurd hh (by omega), fun _ => ⟨fun hh => absurd hh (by omega), fun _ => ⟨by omega, by omega, by omega, by omega, ?_⟩⟩⟩
    refine tX1_addAlike (m := j) hs h0 (by omega) (by omega) (fun v fv sv vv => ⟨by omega, ?_⟩)
    refine sp_bcL hok hne hB' hQ r (j + 1) v (by omega) (by omega) (fun c i q1 q2 => by rw [fv c i q1 (by omega)]; exact hF c i q1 q2) sv (fun i q1 q2 => ?_)
    by_cases hi : i = j
    · rw [hi]; exact vv j (by omega) (by omega)
    · rw [fv (o + 1) i (by omega) (by omega), fv (o + 2) i (by omega) (by omega), fv (o + 3) i (by omega) (by omega), fv (o + 4) i (by omega) (by omega)]
      exact hv i q1 (by omega)
theorem tX1_copyFrom {o o1 : Int} {B : sg_M} {Q : sg_M → Prop} (hok : sp_ok B) (hne : o + 5 ≤ o1 ∨ o1 + 5 ≤ o) (hB : sp_cB s o1 B) (hQ : ∀ u, (∀ c i, (c = o → i < 4) → (c < o + 1 ∨ o + 4 < c) → u c i = s c i) → sp_cB u o B → Q u) : fX1_copyFrom s o o1 Q := by
  have hn := hok.1
  intro s1 h1
  have e : ∀ c i, (c = o → i ≠ 4) → s1 c i = s c i := fun c i q => by rw [h1, sg_upN _ (by omega)]
  refine ⟨(B 4 0).toNat + 1, sp_bcL (s0 := s1) hok hne (sp_cB_same hB (fun i => e _ _ (by omega)) (fun i => e _ _ (by omega)) (fun i => e _ _ (by omega)) (fun i => e _ _ (by omega)) (fun i => e _ _ (by omega))) (fun u hF hu => hQ u (fun c i q1 q2 => by rw [hF c i q1 q2, e c i (by omega)]) hu) (B 4 0).toNat 0 s1 (by omega) (by omega) (fun _ _ _ _ => rfl) (by rw [h1, sg_upS]) (fun i q1 q2 => by omega)⟩
theorem sp_thkL {o a b : Int} {B : sg_M} {Q : sg_M → Prop} {s0 : sg_M} (hok : sp_ok B) (hB : sp_cB s0 o B) (ha : 1 ≤ a ∧ a ≤ 20) (hb : 1 ≤ b ∧ b ≤ 20) (hQ : ∀ u, (∀ c i, c ≠ o + 2 → u c i = s0 c i) → sp_cB u o (sp_th B a b) → Q u) :
    ∀ (r : Nat) (j : Int) (u : sg_M), 0 ≤ j → j + r = B 4 0 → (∀ c i, c ≠ o + 2 → u c i = s0 c i) → (∀ i, 0 ≤ i → i < j → u (o + 2) i = sp_th B a b 1 i) → fX1_thicken_L16 s0 o a b Q (r + 1) u j
  | 0, j, u, h0, hj, hF, hv => by
    obtain ⟨b0, b1, b2, b3⟩ := hB
    rw [fX1_thicken_L16, hF o 4 (by omega), b0]
    refine ⟨fun _ => hQ u hF ⟨?_, ?_, ?_, fun i q1 q2 => ?_⟩, fun hh => absurd (show B 4 0 ≤ j by omega) hh⟩
    · rw [hF o 4 (by omega)]; exact b0
    · rw [hF o 5 (by omega)]; exact b1
    · rw [hF o 6 (by omega)]; exact b2
    · obtain ⟨c0, c1, c2, c3⟩ := b3 i q1 q2
      change i < B 4 0 at q2
      exact ⟨by rw [hF _ _ (by omega)]; exact c0, hv i q1 (by omega), by rw [hF _ _ (by omega)]; exact c2, by rw [hF _ _ (by omega)]; exact c3⟩
  | r + 1, j, u, h0, hj, hF, hv => by
    have hB' := hB
    obtain ⟨b0, b1, b2, b3⟩ := hB
    have hn := hok.2.1
    have hn3 := hok.1
    have k := sp_th_rg hok ha hb h0 (show j < B 4 0 by omega)
    rw [fX1_thicken_L16, hF o 4 (by omega), b0]
    refine ⟨fun hh => absurd hh (by omega), fun _ => ⟨fun hh => absurd hh (by omega), fun _ => ⟨by omega, by omega, by omega, by omega, fun v12 h12 s14 h14 => ⟨by omega, ?_⟩⟩⟩⟩
    refine sp_thkL hok hB' ha hb hQ r (j + 1) s14 (by omega) (by omega) (fun c i q => by rw [h14, sg_upN _ (by omega)]; exact hF c i q) (fun i q1 q2 => ?_)
    by_cases hi : i = j
    · rw [hi, h14, sg_upS, h12]; unfold sp_th; rw [if_pos rfl, if_pos ⟨h0, by omega⟩]
    · rw [h14, sg_upN _ (by omega)]; exact hv i q1 (by omega)
theorem tX1_thicken {o a b : Int} {B : sg_M} {Q : sg_M → Prop} (hok : sp_ok B) (hB : sp_cB s o B) (ha : 1 ≤ a ∧ a ≤ 20) (hb : 1 ≤ b ∧ b ≤ 20) (hQ : ∀ u, (∀ c i, c ≠ o + 2 → u c i = s c i) → sp_cB u o (sp_th B a b) → Q u) : fX1_thicken s o a b Q := by
  have hn3 := hok.1
  have hn := hok.2.1
  refine ⟨by rw [hB.1]; omega, fun _ => ⟨(B 4 0).toNat + 1, sp_thkL hok hB ha hb hQ (B 4 0).toNat 0 s (by omega) (by omega) (fun _ _ _ => rfl) (fun i q1 q2 => by omega)⟩, fun hh => absurd (show 1 ≤ s o 4 - 1 by rw [hB.1]; omega) hh⟩
def aForge (a b : Int) : Int := if 1 ≤ a ∧ a ≤ 20 ∧ 1 ≤ b ∧ b ≤ 20 then 1 else 0
def yForge (z : sp_Z) (a b : Int) : sp_Z := if 1 ≤ a ∧ a ≤ 20 ∧ 1 ≤ b ∧ b ≤ 20 then zN' z (sp_yB (zN z) (sp_th (nB (zN z)) a b)) else z
theorem k1Forge {a b : Int} {Q : Int → sg_L → sg_M → Prop} (h89 : 89 ≤ La.1) (hw : sp_wZ z) (H : sp_RC La s z) (h : ∀ La' s', sg_X La La' → La'.1 ≤ La.1 + 7 → sp_FM s s' → sp_RC La' s' (yForge z a b) → Q (aForge a b) La' s') : fX11_forge La s a b Q := by
  have no : ¬ (1 ≤ a ∧ a ≤ 20 ∧ 1 ≤ b ∧ b ≤ 20) → Q 0 La s := fun g => by
    unfold aForge yForge at h; rw [if_neg g, if_neg g] at h; exact h La s (sp_X_refl La) (by omega) (fun _ _ _ _ => rfl) H
  refine ⟨fun g => no (by omega), fun g1 => ⟨fun g => no (by omega), fun g2 => ⟨fun g => no (by omega), fun g3 => ⟨fun g4 => ?_, fun g => no (by omega)⟩⟩⟩⟩
  have hg : 1 ≤ a ∧ a ≤ 20 ∧ 1 ≤ b ∧ b ≤ 20 := by omega
  unfold aForge yForge at h
  rw [if_pos hg, if_pos hg] at h
  intro q5 La6 hL6 s7 h7 o8 h8
  subst hL6; subst h7; subst h8
  have H' := H
  rw [sp_RC_eq] at H'
  obtain ⟨-, -, ⟨n1, n2, n3, n4, n5⟩, hI, -⟩ := H'
  have hok := hw.2.2.1.1
  have r0 := sp_rg0 n1.1 (by omega)
  refine tX1_new (fun La17 s18 X17 n17 k0 k17 f18 a4 a5 a6 => ?_)
  rw [f18 4 0 (by omega)]
  refine ⟨r0, ?_⟩
  have hB18 : sp_cB s18 (s 4 0) (nB (zN z)) ∧ s 4 0 + 5 ≤ La.1 := by
    have hlt : s 4 0 + 5 ≤ La.1 := by
      rcases n1.1.2 with q | q <;> omega
    exact ⟨sp_cB_same n1.2 (fun i => f18 _ _ (by omega)) (fun i => f18 _ _ (by omega)) (fun i => f18 _ _ (by omega)) (fun i => f18 _ _ (by omega)) (fun i => f18 _ _ (by omega)), hlt⟩
  refine tX1_copyFrom hok (by omega) hB18.1 (fun u fu hu => ?_)
  refine tX1_thicken hok hu ⟨hg.1, hg.2.1⟩ ⟨hg.2.2.1, hg.2.2.2⟩ (fun v fv hv => ?_)
  intro s30 h30
  refine tX11_forgetAnswers (fun t hF h58 h62 => ?_)
  have f : ∀ c i : Int, c < La.1 → c ≠ 4 → (c = 58 → i ≠ 2) → (c = 62 → i ≠ 2) → t c i = s c i := fun c i q1 q2 q3 q4 => by
    rw [hF c i q3 q4, h30, sg_upN _ (by omega), fv c i (by omega), fu c i (by omega) (by omega), f18 c i q1]
  have f4 : ∀ i, i ≠ 0 → t 4 i = s 4 i := fun i q => by
    rw [hF 4 i (by omega) (by omega), h30, sg_upN _ (by omega), fv 4 i (by omega), fu 4 i (by omega) (by omega), f18 4 i (by omega)]
  have f40 : t 4 0 = (La.1 : Int) := by rw [hF 4 0 (by omega) (by omega), h30, sg_upS]
  have fo : ∀ c i : Int, (La.1 : Int) ≤ c → t c i = v c i := fun c i q => by rw [hF c i (by omega) (by omega), h30, sg_upN _ (by omega)]
  have hk : sp_kp La s t := ⟨fun c i hc => f c i (by omega) (by omega) (by omega) (by omega), fun j _ _ => Or.inl (f 26 j (by omega) (by omega) (by omega) (by omega))⟩
  refine h La17 t X17 (by omega) (fun c i q1 q2 => f c i (by omega) (by omega) (by omega) (by omega)) (sp_RC_N H X17 h89 (fun c i q1 q2 q3 q4 q5 q6 => f c i q6 q1 q3 q4) h58 h62 ⟨?_, ?_, ?_, sp_cK_same n4 X17 (by omega) (by omega) (fun c i q1 q2 => f c i (by omega) (by omega) (by omega) (by omega)), sp_cF_same n5 X17 h89 hk (fun i => f 25 i (by omega) (by omega) (by omega) (by omega))⟩)
  · rw [f40]
    refine ⟨⟨?_, Or.inr ⟨by omega, by omega, fun k k0' k1 => ?_⟩⟩, ?_⟩
    · rw [Int.toNat_natCast]; exact k0
    · rw [f 26 k (by omega) (by omega) (by omega) (by omega)]
      intro q
      rcases hI.1 k k0' k1 with ⟨-, q2⟩ | ⟨q1, q2, q3, -⟩
      · omega
      · right; omega
    · exact sp_cB_same hv (fun i => fo _ _ (by omega)) (fun i => fo _ _ (by omega)) (fun i => fo _ _ (by omega)) (fun i => fo _ _ (by omega)) (fun i => fo _ _ (by omega))
  · rw [f4 1 (by omega)]; exact sp_cH_same n2 X17 h89 hk
  · rw [f4 2 (by omega)]; exact sp_cS_same n3 X17 h89 hk
theorem sp_foL {a b : Int} {B : sg_M} {Q : Int → sg_M → Prop} {s0 : sg_M} (hok : sp_ok B) (hB : sp_mBl (s0 66) 0 B) (ha : 1 ≤ a ∧ a ≤ 20) (hb : 1 ≤ b ∧ b ≤ 20) (hQ : ∀ u, (∀ c i, (c = 66 → i < 0 ∨ 260 ≤ i) → u c i = s0 c i) → sp_mBl (u 66) 0 (sp_th B a b) → Q 1 u) :
    ∀ (r : Nat) (j : Int) (u : sg_M), 0 ≤ j → j + r = B 4 0 → (∀ c i, (c = 66 → ∀ k, 0 ≤ k → k < B 4 0 → i ≠ 10 + 4 * k + 1) → u c i = s0 c i) → (∀ i, 0 ≤ i → i < j → u 66 (10 + 4 * i + 1) = sp_th B a b 1 i) → fX12_forge_L33 a b Q (r + 1) u j
  | 0, j, u, h0, hj, hF, hv => by
    obtain ⟨b0, b1, b2, b3⟩ := hB
    have hn := hok.2.1
    rw [Int.zero_add] at b1 b2
    rw [fX12_forge_L33]
    unfold fX12_pieces
    rw [hF 66 0 (by omega), b0]
    refine ⟨fun _ => hQ u (fun c i q => hF c i (fun hc k k0 k1 => by have := q hc; omega)) ⟨?_, ?_, ?_, fun i q1 q2 => ?_⟩, fun hh => absurd (show B 4 0 ≤ j by omega) hh⟩
    · rw [hF 66 0 (by omega)]; exact b0
    · rw [Int.zero_add, hF 66 1 (by omega)]; exact b1
    · rw [Int.zero_add, hF 66 2 (by omega)]; exact b2
    · change i < B 4 0 at q2
      obtain ⟨c0, c1, c2, c3⟩ := b3 i q1 q2
      rw [Int.zero_add] at c0 c2 c3 ⊢
      rw [hF 66 _ (by omega), hF 66 _ (by omega), hF 66 _ (by omega)]
      refine ⟨c0, ?_, c2, c3⟩
      show u 66 (0 + 10 + 4 * i + 1) = _
      rw [Int.zero_add]; exact hv i q1 (by omega)
  | r + 1, j, u, h0, hj, hF, hv => by
    have hB' := hB
    obtain ⟨b0, b1, b2, b3⟩ := hB
    have hn := hok.2.1
    have hn3 := hok.1
    have k := sp_th_rg hok ha hb h0 (show j < B 4 0 by omega)
    rw [fX12_forge_L33]
    unfold fX12_pieces
    rw [hF 66 0 (by omega), b0]
    refine ⟨fun hh => absurd hh (by omega), fun _ => ⟨by omega, by omega, by omega, by omega, by omega, fun v21 h21 s23 h23 => ⟨by omega, ?_⟩⟩⟩
    refine sp_foL hok hB' ha hb hQ r (j + 1) s23 (by omega) (by omega) (fun c i q => ?_) (fun i q1 q2 => ?_)
    · rw [h23, sg_upN _ (fun e1 e2 => q e1 j h0 (by omega) e2)]; exact hF c i q
    · by_cases hi : i = j
      · rw [hi, h23, sg_upS, h21]; unfold sp_th; rw [if_pos rfl, if_pos ⟨h0, by omega⟩]
      · rw [h23, sg_upN _ (by omega)]; exact hv i q1 (by omega)
theorem k2Forge {a b : Int} {Q : Int → sg_M → Prop} (hw : sp_wZ z) (H : sp_RM s z) (h : ∀ s', sp_FC s s' → sp_RM s' (yForge z a b) → Q (aForge a b) s') : fX12_forge s a b Q := by
  obtain ⟨H0, h20, F0, -⟩ := sp_go H
  intro s1 h1
  rw [← h1] at H0 F0 h20
  have no : ¬ (1 ≤ a ∧ a ≤ 20 ∧ 1 ≤ b ∧ b ≤ 20) → Q 0 (sp_ly s1) := fun g => by
    unfold aForge yForge at h; rw [if_neg g, if_neg g] at h; exact h _ F0 (sp_RM_of H0 h20)
  refine tX12_lay (tX12_isIn ?_)
  split
  · rename_i g
    refine ⟨fun hh => absurd hh (by omega), fun _ => tX12_isIn ?_⟩
    split
    · rename_i g2
      have hg : 1 ≤ a ∧ a ≤ 20 ∧ 1 ≤ b ∧ b ≤ 20 := by omega
      unfold aForge yForge at h
      rw [if_pos hg, if_pos hg] at h
      have hN := H0.2.2.1
      rw [sp_mN_eq2] at hN
      obtain ⟨n1, n2, n3, n4, n5⟩ := hN
      have hok := hw.2.2.1.1
      have hn3 := hok.1
      refine ⟨fun _ => ⟨(nB (zN z) 4 0).toNat + 1, ?_⟩, fun hh => absurd hh (by omega)⟩
      refine sp_foL (s0 := sp_ly s1) hok n1 g g2 (fun t hF hB => ?_) (nB (zN z) 4 0).toNat 0 _ (by omega) (by omega) (fun _ _ _ => rfl) (fun i q1 q2 => by omega)
      refine h t (fun c i q => by rw [hF c i (by omega)]; exact F0 c i q) (sp_RM_of (sp_R0_N H0 (fun c i q1 q2 q3 => hF c i (by omega)) (fun c i q1 q2 q3 => hF c i (by omega)) ?_) (by rw [hF 64 20 (by omega)]; exact h20))
      rw [sp_mN_eq2]
      exact ⟨hB, sp_mH_eq n2 hw.2.2.1.2.1 hw.2.2.1.2.2.1 (fun i q1 q2 => hF 66 i (by omega)), sp_mS_eq n3 (fun i q1 q2 => hF 66 i (by omega)), sp_mK_eq n4 hw.2.2.1.2.2.2.2.2.1 hw.2.2.1.2.2.2.2.2.2.1 (fun i q1 q2 => hF 66 i (by omega)), sp_mF_eq hw.2.2.1.2.2.2.2.2.2.2.2.2 n5 (fun i q1 q2 => hF 66 i (by omega))⟩
    · rename_i g2
      exact ⟨fun hh => absurd rfl hh, fun _ => no (by omega)⟩
  · rename_i g
    exact ⟨fun _ => no (by omega), fun hh => absurd rfl hh⟩
theorem wForge {a b : Int} (hw : sp_wZ z) : sp_wZ (yForge z a b) := by
  unfold yForge; split
  · rename_i g
    obtain ⟨a1, a2, a3, a4, a5, a6, a7, a8, a9, a10⟩ := hw.2.2.1
    exact sp_wN' hw ⟨sp_th_ok a1 ⟨g.1, g.2.1⟩ ⟨g.2.2.1, g.2.2.2⟩, a2, a3, a4, a5, a6, a7, a8, a9, a10⟩
  · exact hw
end SGKb
