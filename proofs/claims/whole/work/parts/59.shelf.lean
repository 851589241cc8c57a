/-! LEVEL 2: keep, take, image, restore. -/
noncomputable section SGK8
variable {La : sg_L} {s : sg_M} {z : sp_Z}
def sp_yk (N : sp_N) (k : Int) : sp_N := (nB N, (nHa N, nHb N), (nKa N, nKb N), fun j => if j = k then some (nB N) else nS N j, nC N)
def aKeep (k : Int) : Int := if 0 ≤ k ∧ k < 4 then 1 else 0
def yKeep (z : sp_Z) (k : Int) : sp_Z := if 0 ≤ k ∧ k < 4 then zN' z (sp_yk (zN z) k) else z
theorem k1Keep {k : Int} {Q : Int → sg_M → Prop} (h89 : 89 ≤ La.1) (H : sp_RC La s z) (h : ∀ s', sp_FM s s' → sp_RC La s' (yKeep z k) → Q (aKeep k) s') : fX11_keep s k Q := by
  unfold aKeep yKeep at h
  refine ⟨fun g => ?_, fun g => ⟨fun g2 => ⟨by omega, fun s8 h8 => ?_⟩, fun g2 => ?_⟩⟩
  · rw [if_neg (by omega), if_neg (by omega)] at h; exact h s (fun _ _ _ _ => rfl) H
  · rw [if_pos (by omega), if_pos (by omega)] at h
    have e : ∀ c i, c ≠ 25 → s8 c i = s c i := fun c i q => by rw [h8, sg_upN _ (by omega)]
    have hk : sp_kp La s s8 := ⟨fun c i hc => e c i (by omega), fun j _ _ => Or.inl (e 26 j (by omega))⟩
    refine h s8 (fun c i q1 q2 => e c i (by omega)) ?_
    rw [sp_RC_eq] at H ⊢
    obtain ⟨hT, hF, ⟨n1, n2, n3, n4, n5⟩, hI, hL, hG, hW, hR, hD, hE, hU, hQ, hK⟩ := H
    have X := sp_X_refl La
    refine ⟨sp_kT hT (fun c i q => e c i (by omega)), by rw [e 0 16 (by omega)]; exact hF, ⟨by rw [e 4 0 (by omega)]; exact sp_cBl_same n1 X h89 hk, by rw [e 4 1 (by omega)]; exact sp_cH_same n2 X h89 hk, by rw [e 4 2 (by omega)]; exact sp_cS_same n3 X h89 hk, sp_cK_same n4 X (by omega) (by omega) (fun c i q1 q2 => e c i (by omega)), fun j j0 j1 => ?_⟩,
      sp_kI hI X h89 (fun c i q => e c i (by omega)), sp_kL hL (fun i => e 37 i (by omega)), sp_kR hG (fun c i _ _ => e c i (by omega)), by rw [e 0 17 (by omega)]; exact hW, by rw [e 0 18 (by omega)]; exact hR, sp_kR hD (fun c i _ _ => e c i (by omega)), sp_kR hE (fun c i _ _ => e c i (by omega)),
      sp_kR hU (fun c i _ _ => e c i (by omega)), sp_kQ hQ (fun c i _ _ => e c i (by omega)), sp_kK hK (fun c i _ _ => e c i (by omega))⟩
    by_cases hj : j = k
    · rw [h8, hj, sg_upS]
      have r0 := sp_rg0 n1.1 (by omega)
      refine Or.inr ⟨r0, nB (zN z), ?_, ?_⟩
      · show (if k = k then some (nB (zN z)) else _) = _; rw [if_pos rfl]
      · rw [← h8]; exact sp_cBl_same n1 X h89 hk
    · rw [h8, sg_upN _ (by omega), ← h8]
      have ej : nS (sp_yk (zN z) k) j = nS (zN z) j := by show (if j = k then _ else _) = _; rw [if_neg hj]
      change (nS (sp_yk (zN z) k) j = none ∧ _) ∨ (_ ∧ ∃ B, nS (sp_yk (zN z) k) j = some B ∧ _)
      rw [ej]
      rcases n5 j j0 j1 with q | ⟨q, B, q1, q2⟩
      · exact Or.inl q
      · exact Or.inr ⟨q, B, q1, sp_cBl_same q2 X h89 hk⟩
  · rw [if_neg (by omega), if_neg (by omega)] at h; exact h s (fun _ _ _ _ => rfl) H
theorem sp_mBl_sh {f g : Int → Int} {b b' : Int} {B : sg_M} (hok : sp_ok B) (h : sp_mBl f b B) (e : ∀ i, 0 ≤ i → i < 260 → g (b' + i) = f (b + i)) : sp_mBl g b' B := by
  obtain ⟨h0, h1, h2, h3⟩ := h
  have hn := hok.2.1
  have e0 := e 0 (by omega) (by omega)
  rw [Int.add_zero, Int.add_zero] at e0
  refine ⟨by rw [e0]; exact h0, by rw [e 1 (by omega) (by omega)]; exact h1, by rw [e 2 (by omega) (by omega)]; exact h2, fun i q1 q2 => ?_⟩
  have a1 := e (10 + 4 * i) (by omega) (by omega)
  have a2 := e (10 + 4 * i + 1) (by omega) (by omega)
  have a3 := e (10 + 4 * i + 2) (by omega) (by omega)
  have a4 := e (10 + 4 * i + 3) (by omega) (by omega)
  have k := h3 i q1 q2
  rw [show b' + (10 + 4 * i) = b' + 10 + 4 * i by omega, show b + (10 + 4 * i) = b + 10 + 4 * i by omega] at a1
  rw [show b' + (10 + 4 * i + 1) = b' + 10 + 4 * i + 1 by omega, show b + (10 + 4 * i + 1) = b + 10 + 4 * i + 1 by omega] at a2
  rw [show b' + (10 + 4 * i + 2) = b' + 10 + 4 * i + 2 by omega, show b + (10 + 4 * i + 2) = b + 10 + 4 * i + 2 by omega] at a3
  rw [show b' + (10 + 4 * i + 3) = b' + 10 + 4 * i + 3 by omega, show b + (10 + 4 * i + 3) = b + 10 + 4 * i + 3 by omega] at a4
  rw [a1, a3, a4]
  show _ ∧ g (b' + 10 + 4 * i + 1) = B 1 i ∧ _
  rw [a2]; exact k
theorem sp_keL {k : Int} {Q : Int → sg_M → Prop} {s0 : sg_M} (hk : 0 ≤ k ∧ k < 4) (h : ∀ t, (∀ c i, (c = 66 → i < 260 + 260 * k ∨ 520 + 260 * k ≤ i) → t c i = s0 c i) → (∀ i, 0 ≤ i → i < 260 → t 66 (260 + 260 * k + i) = s0 66 i) → Q 1 t) :
    ∀ (r m : Nat) (t : sg_M), m + r = 260 → (∀ c i, (c = 66 → i < 260 + 260 * k ∨ 520 + 260 * k ≤ i) → t c i = s0 c i) → (∀ i : Int, 0 ≤ i → i < m → t 66 (260 + 260 * k + i) = s0 66 i) → fX12_keep_L22 k Q (r + 1) t m
  | 0, m, t, hm, hF, hc => by
    rw [fX12_keep_L22]
    exact ⟨fun _ => h t hF (fun i q1 q2 => hc i q1 (by omega)), fun hh => absurd (show (260 : Int) ≤ m by omega) hh⟩
  | r + 1, m, t, hm, hF, hc => by
    rw [fX12_keep_L22]
    refine ⟨fun hh => absurd hh (by omega), fun _ => ⟨by omega, by omega, fun s13 h13 => ⟨by omega, ?_⟩⟩⟩
    have ih := sp_keL hk h r (m + 1) s13 (by omega) (fun c i q => by rw [h13, sg_upN _ (by omega)]; exact hF c i q) (fun i q1 q2 => ?_)
    · rw [show ((m + 1 : Nat) : Int) = (m : Int) + 1 by omega] at ih; exact ih
    · by_cases hi : i = m
      · rw [hi, h13, sg_upS]; exact hF 66 m (by omega)
      · rw [h13, sg_upN _ (by omega)]; exact hc i q1 (by omega)
theorem k2Keep {k : Int} {Q : Int → sg_M → Prop} (hw : sp_wZ z) (H : sp_RM s z) (h : ∀ s', sp_FC s s' → sp_RM s' (yKeep z k) → Q (aKeep k) s') : fX12_keep s k Q := by
  obtain ⟨H0, h20, F0, -⟩ := sp_go H
  intro s1 h1
  rw [← h1] at H0 F0 h20
  unfold aKeep yKeep at h
  refine tX12_lay (tX12_isIn ?_)
  split
  · rename_i g
    rw [if_pos (by omega), if_pos (by omega)] at h
    refine ⟨fun _ => ⟨261, ?_⟩, fun hh => absurd hh (by omega)⟩
    refine sp_keL (s0 := sp_ly s1) (by omega) (fun t hF hc => ?_) 260 0 _ (by omega) (fun _ _ _ => rfl) (fun i q1 q2 => by omega)
    have hN := H0.2.2.1
    rw [sp_mN_eq2] at hN
    obtain ⟨n1, n2, n3, n4, n5⟩ := hN
    refine h t (fun c i q => by rw [hF c i (by omega)]; exact F0 c i q) (sp_RM_of (sp_R0_N H0 (fun c i q1 q2 q3 => hF c i (by omega)) (fun c i q1 q2 q3 => hF c i (by omega)) ?_) (by rw [hF 64 20 (by omega)]; exact h20))
    rw [sp_mN_eq2]
    refine ⟨sp_mBl_eq hw.2.2.1.1 n1 (fun i q1 q2 => hF 66 i (by omega)), sp_mH_eq n2 hw.2.2.1.2.1 hw.2.2.1.2.2.1 (fun i q1 q2 => hF 66 i (by omega)), sp_mS_eq n3 (fun i q1 q2 => hF 66 i (by omega)), sp_mK_eq n4 hw.2.2.1.2.2.2.2.2.1 hw.2.2.1.2.2.2.2.2.2.1 (fun i q1 q2 => hF 66 i (by omega)), fun j j0 j1 => ?_⟩
    by_cases hj : j = k
    · refine Or.inr ⟨nB (zN z), ?_, ?_⟩
      · show (if j = k then some (nB (zN z)) else _) = _; rw [if_pos hj]
      · rw [hj]; exact sp_mBl_sh hw.2.2.1.1 n1 (fun i q1 q2 => by rw [Int.zero_add]; exact hc i q1 q2)
    · have ej : nS (sp_yk (zN z) k) j = nS (zN z) j := by show (if j = k then _ else _) = _; rw [if_neg hj]
      rw [ej]
      rcases n5 j j0 j1 with ⟨q1, q2⟩ | ⟨B, q1, q2⟩
      · exact Or.inl ⟨q1, by rw [hF 66 _ (by omega)]; exact q2⟩
      · exact Or.inr ⟨B, q1, sp_mBl_eq (hw.2.2.1.2.2.2.2.2.2.2.2.2 j B q1) q2 (fun i q1 q2 => hF 66 i (by omega))⟩
  · rename_i g
    rw [if_neg (by omega), if_neg (by omega)] at h
    exact ⟨fun hh => absurd rfl hh, fun _ => h _ F0 (sp_RM_of H0 h20)⟩
theorem wKeep {k : Int} (hw : sp_wZ z) : sp_wZ (yKeep z k) := by
  unfold yKeep; split
  · obtain ⟨a1, a2, a3, a4, a5, a6, a7, a8, a9, a10⟩ := hw.2.2.1
    refine sp_wN' hw ⟨a1, a2, a3, a4, a5, a6, a7, a8, a9, fun j B hj => ?_⟩
    change (if j = k then some (nB (zN z)) else nS (zN z) j) = some B at hj
    split at hj
    · cases hj; exact a1
    · exact a10 j B hj
  · exact hw
/-! take -/
def sp_yB (N : sp_N) (B : sg_M) : sp_N := (B, (nHa N, nHb N), (nKa N, nKb N), nS N, nC N)
def sp_sh (z : sp_Z) (k : Int) : Option sg_M := if 0 ≤ k ∧ k < 4 then nS (zN z) k else none
def aTake (z : sp_Z) (k : Int) : Int := match sp_sh z k with
  | some _ => 1
  | none => 0
def yTake (z : sp_Z) (k : Int) : sp_Z := match sp_sh z k with
  | some B => zN' z (sp_yB (zN z) B)
  | none => z
theorem k1Take {k : Int} {Q : Int → sg_M → Prop} (h89 : 89 ≤ La.1) (H : sp_RC La s z) (h : ∀ s', sp_FM s s' → sp_RC La s' (yTake z k) → Q (aTake z k) s') : fX11_take s k Q := by
  have no : sp_sh z k = none → Q 0 s := fun e => by
    unfold aTake yTake at h; rw [e] at h; exact h s (fun _ _ _ _ => rfl) H
  have H' := H
  rw [sp_RC_eq] at H'
  obtain ⟨-, -, ⟨n1, n2, n3, n4, n5⟩, -⟩ := H'
  refine ⟨fun g => no (by unfold sp_sh; rw [if_neg (by omega)]), fun g => ⟨fun g2 => no (by unfold sp_sh; rw [if_neg (by omega)]), fun g2 => ⟨by omega, fun g3 => ⟨by omega, g3, fun s16 h16 => tX11_forgetAnswers (fun t hF h58 h62 => ?_)⟩, fun g3 => ?_⟩⟩⟩
  · rcases n5 k (by omega) (by omega) with ⟨-, q⟩ | ⟨-, B, q1, q2⟩
    · omega
    · have e : sp_sh z k = some B := by unfold sp_sh; rw [if_pos (by omega)]; exact q1
      unfold aTake yTake at h
      rw [e] at h
      have f : ∀ c i, c ≠ 4 → (c = 58 → i ≠ 2) → (c = 62 → i ≠ 2) → t c i = s c i := fun c i q1 q2 q3 => by rw [hF c i q2 q3, h16, sg_upN _ (by omega)]
      have f4 : ∀ i, i ≠ 0 → t 4 i = s 4 i := fun i q => by rw [hF 4 i (by omega) (by omega), h16, sg_upN _ (by omega)]
      have f40 : t 4 0 = s 25 k := by rw [hF 4 0 (by omega) (by omega), h16, sg_upS]
      have X := sp_X_refl La
      have hk : sp_kp La s t := ⟨fun c i hc => f c i (by omega) (by omega) (by omega), fun j _ _ => Or.inl (f 26 j (by omega) (by omega) (by omega))⟩
      refine h t (fun c i q1 q2 => f c i (by omega) (by omega) (by omega)) (sp_RC_N H X h89 (fun c i q1 q2 q3 q4 q5 q6 => f c i q1 q3 q4) h58 h62 ⟨?_, ?_, ?_, sp_cK_same n4 X (by omega) (by omega) (fun c i q1 q2 => f c i (by omega) (by omega) (by omega)), sp_cF_same n5 X h89 hk (fun i => f 25 i (by omega) (by omega) (by omega))⟩)
      · rw [f40]; exact sp_cBl_same q2 X h89 hk
      · rw [f4 1 (by omega)]; exact sp_cH_same n2 X h89 hk
      · rw [f4 2 (by omega)]; exact sp_cS_same n3 X h89 hk
  · rcases n5 k (by omega) (by omega) with ⟨q, -⟩ | ⟨q, -⟩
    · exact no (by unfold sp_sh; rw [if_pos (by omega)]; exact q)
    · omega
theorem sp_taL {k : Int} {Q : Int → sg_M → Prop} {s0 : sg_M} (hk : 0 ≤ k ∧ k < 4) (h : ∀ t, (∀ c i, (c = 66 → i < 0 ∨ 260 ≤ i) → t c i = s0 c i) → (∀ i, 0 ≤ i → i < 260 → t 66 i = s0 66 (260 + 260 * k + i)) → Q 1 t) :
    ∀ (r m : Nat) (t : sg_M), m + r = 260 → (∀ c i, (c = 66 → i < 0 ∨ 260 ≤ i) → t c i = s0 c i) → (∀ i : Int, 0 ≤ i → i < m → t 66 i = s0 66 (260 + 260 * k + i)) → fX12_take_L21 k Q (r + 1) t m
  | 0, m, t, hm, hF, hc => by
    rw [fX12_take_L21]
    exact ⟨fun _ => h t hF (fun i q1 q2 => hc i q1 (by omega)), fun hh => absurd (show (260 : Int) ≤ m by omega) hh⟩
  | r + 1, m, t, hm, hF, hc => by
    rw [fX12_take_L21]
    refine ⟨fun hh => absurd hh (by omega), fun _ => ⟨by omega, by omega, fun v13 hv13 => fun s13 h13 => ⟨by omega, ?_⟩⟩⟩
    have ih := sp_taL hk h r (m + 1) s13 (by omega) (fun c i q => by rw [h13, sg_upN _ (by omega)]; exact hF c i q) (fun i q1 q2 => ?_)
    · rw [show ((m + 1 : Nat) : Int) = (m : Int) + 1 by omega] at ih; exact ih
    · by_cases hi : i = m
      · rw [hi, h13, sg_upS, hv13]; exact hF 66 _ (by omega)
      · rw [h13, sg_upN _ (by omega)]; exact hc i q1 (by omega)
theorem tX12_isThere {t : sg_M} {k : Int} {Q : Int → Prop} (hw : sp_wZ z) (HR : sp_R0 t z) (h : Q (match sp_sh z k with
  | some _ => 1
  | none => 0)) : fX12_isThere t k Q := by
  have hN := HR.2.2.1
  rw [sp_mN_eq2] at hN
  obtain ⟨n1, n2, n3, n4, n5⟩ := hN
  refine tX12_isIn ?_
  split
  · rename_i g
    have e : sp_sh z k = nS (zN z) k := by unfold sp_sh; rw [if_pos (by omega)]
    rw [e] at h
    refine ⟨fun hh => absurd hh (by omega), fun _ => ⟨by omega, ?_⟩⟩
    rw [Int.add_zero]
    rcases n5 k (by omega) (by omega) with ⟨q1, q2⟩ | ⟨B, q1, q2⟩
    · rw [q1] at h
      exact ⟨fun _ => h, fun hh => absurd (show t 66 (260 + 260 * k) ≤ 0 by omega) hh⟩
    · rw [q1] at h
      have hB := (hw.2.2.1.2.2.2.2.2.2.2.2.2 k B q1).1
      have := q2.1
      exact ⟨fun hh => absurd hh (by omega), fun _ => h⟩
  · rename_i g
    have e : sp_sh z k = none := by unfold sp_sh; rw [if_neg (by omega)]
    rw [e] at h
    exact ⟨fun _ => h, fun hh => absurd rfl hh⟩
theorem k2Take {k : Int} {Q : Int → sg_M → Prop} (hw : sp_wZ z) (H : sp_RM s z) (h : ∀ s', sp_FC s s' → sp_RM s' (yTake z k) → Q (aTake z k) s') : fX12_take s k Q := by
  obtain ⟨H0, h20, F0, -⟩ := sp_go H
  intro s1 h1
  rw [← h1] at H0 F0 h20
  unfold aTake yTake at h
  refine tX12_lay (tX12_isThere hw H0 ?_)
  have hN := H0.2.2.1
  rw [sp_mN_eq2] at hN
  obtain ⟨n1, n2, n3, n4, n5⟩ := hN
  cases hs : sp_sh z k with
  | none =>
    rw [hs] at h
    exact ⟨fun hh => absurd rfl hh, fun _ => h _ F0 (sp_RM_of H0 h20)⟩
  | some B =>
    rw [hs] at h
    have hk : 0 ≤ k ∧ k < 4 := by
      unfold sp_sh at hs; split at hs
      · assumption
      · cases hs
    have hS : nS (zN z) k = some B := by unfold sp_sh at hs; rw [if_pos hk] at hs; exact hs
    have hB := hw.2.2.1.2.2.2.2.2.2.2.2.2 k B hS
    refine ⟨fun _ => ⟨261, ?_⟩, fun hh => absurd (show (1 : Int) = 0 from hh) (by decide)⟩
    refine sp_taL (s0 := sp_ly s1) hk (fun t hF hc => ?_) 260 0 _ (by omega) (fun _ _ _ => rfl) (fun i q1 q2 => by omega)
    refine h t (fun c i q => by rw [hF c i (by omega)]; exact F0 c i q) (sp_RM_of (sp_R0_N H0 (fun c i q1 q2 q3 => hF c i (by omega)) (fun c i q1 q2 q3 => hF c i (by omega)) ?_) (by rw [hF 64 20 (by omega)]; exact h20))
    rw [sp_mN_eq2]
    refine ⟨?_, sp_mH_eq n2 hw.2.2.1.2.1 hw.2.2.1.2.2.1 (fun i q1 q2 => hF 66 i (by omega)), sp_mS_eq n3 (fun i q1 q2 => hF 66 i (by omega)), sp_mK_eq n4 hw.2.2.1.2.2.2.2.2.1 hw.2.2.1.2.2.2.2.2.2.1 (fun i q1 q2 => hF 66 i (by omega)), sp_mF_eq hw.2.2.1.2.2.2.2.2.2.2.2.2 n5 (fun i q1 q2 => hF 66 i (by omega))⟩
    rcases n5 k hk.1 hk.2 with ⟨q1, -⟩ | ⟨B', q1, q2⟩
    · rw [hS] at q1; cases q1
    · rw [hS] at q1; cases q1
      exact sp_mBl_sh hB q2 (fun i q1 q2 => by rw [Int.zero_add]; exact hc i q1 q2)
theorem wTake {k : Int} (hw : sp_wZ z) : sp_wZ (yTake z k) := by
  unfold yTake
  cases hs : sp_sh z k with
  | none => exact hw
  | some B =>
    have hk : 0 ≤ k ∧ k < 4 := by
      unfold sp_sh at hs; split at hs
      · assumption
      · cases hs
    have hS : nS (zN z) k = some B := by unfold sp_sh at hs; rw [if_pos hk] at hs; exact hs
    obtain ⟨a1, a2, a3, a4, a5, a6, a7, a8, a9, a10⟩ := hw.2.2.1
    exact sp_wN' hw ⟨a10 k B hS, a2, a3, a4, a5, a6, a7, a8, a9, a10⟩
end SGK8
