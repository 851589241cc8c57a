/-! LEVEL 2: hand(), the reference's side. -/
noncomputable section SGHc
variable {T : List Int} {lim : Int} {r : sp_rp} {s : sg_M} {g : sp_hh} {z : sp_Z}
/-- the reference's ticks -/
def sp_mHh (s : sg_M) (g : sp_hh) : Prop := s 64 43 = g.1.1.length ∧ sg_ar (s 69) 0 g.1.1 ∧ sg_ar (s 70) 0 g.1.2 ∧ s 64 44 = g.2.1 ∧ s 64 45 = g.2.2
theorem sp_mHh_kp {t : sg_M} (h : sp_mHh s g) (e : ∀ c i, c = 69 ∨ c = 70 ∨ (c = 64 ∧ 43 ≤ i ∧ i ≤ 45) → t c i = s c i) : sp_mHh t g := by
  obtain ⟨h1, h2, h3, h4, h5⟩ := h
  exact ⟨by rw [e 64 43 (by omega)]; exact h1, sg_ar_congr _ 0 (fun i _ _ => (e _ i (by omega)).symm) h2, sg_ar_congr _ 0 (fun i _ _ => (e _ i (by omega)).symm) h3, by rw [e 64 44 (by omega)]; exact h4, by rw [e 64 45 (by omega)]; exact h5⟩
theorem sp_mHh_tF {t : sg_M} (h : sp_mHh s g) (e : sp_tF s t) : sp_mHh t g := sp_mHh_kp h (fun c i q => e c i (by omega))
abbrev sp_gF (s t : sg_M) : Prop := ∀ c i, (c = 64 → i < 5 ∨ (13 < i ∧ (i < 43 ∨ 45 < i))) → c ≠ 69 → c ≠ 70 → t c i = s c i
/-- what the ticks' maker writes -/
abbrev sp_uF (s t : sg_M) : Prop := ∀ c i, (c = 64 → i < 43 ∨ 45 < i) → c ≠ 69 → c ≠ 70 → t c i = s c i
theorem tX12_tickTo {x y : Int} {A D : List Int} {a b : Int} {Q : sg_M → Prop} (h : sp_mHh s ((A, D), a, b)) (hl : A.length = D.length) (h200 : A.length < 200) (hQ : ∀ u, sp_uF s u → sp_mHh u ((A ++ [x], D ++ [y]), a, b) → Q u) : fX12_tickTo s x y Q := by
  obtain ⟨h1, h2, h3, h4, h5⟩ := h
  have h1 : s 64 43 = A.length := h1
  unfold fX12_tickTo
  rw [h1]
  refine ⟨by omega, fun s4 e4 => ?_⟩
  have a4 : s4 64 43 = A.length := by rw [e4, sg_upN _ (by omega)]; exact h1
  rw [a4]
  refine ⟨by omega, fun s9 e9 => ?_⟩
  have a9 : s9 64 43 = A.length := by rw [e9, sg_upN _ (by omega)]; exact a4
  rw [a9]
  refine ⟨by omega, fun s13 e13 => hQ s13 (fun c i z1 z2 z3 => by rw [e13, sg_upN _ (by omega), e9, sg_upN _ (by omega), e4, sg_upN _ (by omega)]) ⟨?_, ?_, ?_, ?_, ?_⟩⟩
  · rw [e13, sg_upS]; simp
  · refine sg_ar_snoc _ 0 (sg_ar_congr _ 0 (fun i q1 q2 => ?_) h2) ?_
    · change i < 0 + (A.length : Int) at q2
      rw [e13, sg_upN _ (by omega), e9, sg_upN _ (by omega), e4, sg_upN _ (by omega)]
    · show s13 69 (0 + (A.length : Int)) = x
      rw [Int.zero_add, e13, sg_upN _ (by omega), e9, sg_upN _ (by omega), e4, sg_upS]
  · refine sg_ar_snoc _ 0 (sg_ar_congr _ 0 (fun i q1 q2 => ?_) h3) ?_
    · change i < 0 + (D.length : Int) at q2
      rw [e13, sg_upN _ (by omega), e9, sg_upN _ (by omega), e4, sg_upN _ (by omega)]
    · show s13 70 (0 + (D.length : Int)) = y
      rw [Int.zero_add, ← hl, e13, sg_upN _ (by omega), e9, sg_upS]
  · show s13 64 44 = a
    rw [e13, sg_upN _ (by omega), e9, sg_upN _ (by omega), e4, sg_upN _ (by omega)]; exact h4
  · show s13 64 45 = b
    rw [e13, sg_upN _ (by omega), e9, sg_upN _ (by omega), e4, sg_upN _ (by omega)]; exact h5
/-- ticks of any rule -/
theorem hTl_snoc (A : List Int) (f : Int → Int) (m : Nat) : A ++ hTl f (m + 1) = (A ++ hTl f m) ++ [f ((m : Int) + 1)] := by rw [hTl, List.append_assoc]
theorem tq_toL {x y t a b : Int} {A D : List Int} {s8 s13 : sg_M} {Q : Int → sg_M → Prop} {s0 : sg_M} (e8 : s8 64 13 = x) (e13 : s13 64 13 = y) (hl : A.length = D.length) (hA : (A.length : Int) + t ≤ 200) (ht : 0 ≤ t ∧ t ≤ 99) (ha : -9999 ≤ a ∧ a ≤ 9999) (hb : -9999 ≤ b ∧ b ≤ 9999) (hx : -9999 ≤ x ∧ x ≤ 9999) (hy : -9999 ≤ y ∧ y ≤ 9999)
    (hQ : ∀ u, sp_uF s0 u → sp_mHh u ((A ++ hTl (fun j => sp_ge a x j t) t.toNat, D ++ hTl (fun j => sp_ge b y j t) t.toNat), x, y) → fX12_readEnd u (fun u21 s23 => Q u21 s23)) :
    ∀ (r m : Nat) (u : sg_M), (m : Int) + r = t → sp_uF s0 u → sp_mHh u ((A ++ hTl (fun j => sp_ge a x j t) m, D ++ hTl (fun j => sp_ge b y j t) m), a, b) → fX12_readStep_L87 s8 s13 t Q (r + 1) u ((m : Int) + 1)
  | 0, m, u, hm, hF, h => by
    rw [fX12_readStep_L87]
    refine ⟨fun _ s17 e17 s19 e19 => hQ s19 (fun c i z1 z2 z3 => by rw [e19, sg_upN _ (by omega), e17, sg_upN _ (by omega)]; exact hF c i z1 z2 z3) ?_, fun q => absurd (show t < (m : Int) + 1 by omega) q⟩
    obtain ⟨h1, h2, h3, h4, h5⟩ := h
    have em : t.toNat = m := by omega
    rw [em]
    refine ⟨by rw [e19, sg_upN _ (by omega), e17, sg_upN _ (by omega)]; exact h1, sg_ar_congr _ 0 (fun i _ _ => by rw [e19, sg_upN _ (by omega), e17, sg_upN _ (by omega)]) h2, sg_ar_congr _ 0 (fun i _ _ => by rw [e19, sg_upN _ (by omega), e17, sg_upN _ (by omega)]) h3, ?_, ?_⟩
    · rw [e19, sg_upN _ (by omega), e17, sg_upS]; exact e8
    · rw [e19, sg_upS]; exact e13
  | r + 1, m, u, hm, hF, h => by
    have h4 : u 64 44 = a := h.2.2.2.1
    have h5 : u 64 45 = b := h.2.2.2.2
    have r1 := sp_ge_mu (p := (m : Int) + 1) ha hx (by omega) (by omega)
    have r2 := sp_ge_mu (p := (m : Int) + 1) hb hy (by omega) (by omega)
    have v1 := sp_ge_bd (p := (m : Int) + 1) (n := t) ha hx (by omega) (by omega) (by omega)
    have v2 := sp_ge_bd (p := (m : Int) + 1) (n := t) hb hy (by omega) (by omega) (by omega)
    rw [fX12_readStep_L87, h4, h5, e8, e13]
    refine ⟨fun q => absurd q (by omega), fun _ => ⟨r1, by omega, r2, by omega, ⟨by have := v1.1; unfold sp_ge at this; omega, by have := v1.2; unfold sp_ge at this; omega⟩, ⟨by have := v2.1; unfold sp_ge at this; omega, by have := v2.2; unfold sp_ge at this; omega⟩, ?_⟩⟩
    refine tX12_tickTo h ?_ ?_ (fun v fv hv => ⟨by omega, ?_⟩)
    · simp only [List.length_append, hTl_len]; omega
    · simp only [List.length_append, hTl_len]; omega
    · refine tq_toL e8 e13 hl hA ht ha hb hx hy hQ r (m + 1) v (by omega) (fun c i z1 z2 z3 => by rw [fv c i z1 z2 z3]; exact hF c i z1 z2 z3) ?_
      rw [hTl_snoc, hTl_snoc]; exact hv
theorem tq_msL {v t a b : Int} {A D : List Int} {s71 s76 : sg_M} {Q : Int → sg_M → Prop} {s0 : sg_M} (e71 : s71 64 13 = v) (e76 : s76 64 13 = t) (hl : A.length = D.length) (hA : (A.length : Int) + t ≤ 200) (ht : 0 ≤ t ∧ t ≤ 99) (hv : 0 ≤ v ∧ v ≤ 9999) (hb : -9999 ≤ b ∧ b ≤ 9999)
    (hQ : ∀ u, sp_uF s0 u → sp_mHh u ((A ++ hTl (fun _ => a) t.toNat, D ++ hTl (fun j => hSk b v j) t.toNat), a, b) → fX12_readEnd u (fun u80 s82 => Q u80 s82)) :
    ∀ (r m : Nat) (u : sg_M), (m : Int) + r = t → sp_uF s0 u → sp_mHh u ((A ++ hTl (fun _ => a) m, D ++ hTl (fun j => hSk b v j) m), a, b) → fX12_readStep_L200 s71 s76 Q (r + 1) u ((m : Int) + 1)
  | 0, m, u, hm, hF, h => by
    rw [fX12_readStep_L200, e76]
    have em : t.toNat = m := by omega
    rw [em] at hQ
    exact ⟨fun _ => hQ u hF h, fun q => absurd (show t < (m : Int) + 1 by omega) q⟩
  | r + 1, m, u, hm, hF, h => by
    have h4 : u 64 44 = a := h.2.2.2.1
    have h5 : u 64 45 = b := h.2.2.2.2
    have m4 : 0 ≤ Int.tmod ((m : Int) + 1) 4 ∧ Int.tmod ((m : Int) + 1) 4 < 4 := ⟨Int.tmod_nonneg _ (by omega), Int.tmod_lt_of_pos _ (by omega)⟩
    have go : ∀ w, w = hSk b v ((m : Int) + 1) → fX12_readStep_j252 u ((m : Int) + 1) (fX12_readStep_L200 s71 s76 Q (r + 1)) w := by
      intro w ew
      unfold fX12_readStep_j252
      rw [h4, ew]
      refine tX12_tickTo h ?_ ?_ (fun w2 fw hw => ⟨by omega, ?_⟩)
      · simp only [List.length_append, hTl_len]; omega
      · simp only [List.length_append, hTl_len]; omega
      · refine tq_msL e71 e76 hl hA ht hv hb hQ r (m + 1) w2 (by omega) (fun c i z1 z2 z3 => by rw [fw c i z1 z2 z3]; exact hF c i z1 z2 z3) ?_
        rw [hTl_snoc, hTl_snoc]; exact hw
    rw [fX12_readStep_L200, e76, e71, h5]
    refine ⟨fun q => absurd q (by omega), fun _ => ⟨by omega, fun q => ⟨by omega, fun q2 => go b ?_, fun q2 => ⟨by omega, tX12_cut (go _ ?_)⟩⟩, fun q => ⟨by omega, tX12_cut (go _ ?_)⟩⟩⟩
    · unfold hSk; rw [if_neg q, if_neg q2]
    · unfold hSk; rw [if_neg q, if_pos q2]
    · unfold hSk; rw [if_pos q]
theorem tq_waL {t a b : Int} {A D : List Int} {s56 : sg_M} {Q : Int → sg_M → Prop} {s0 : sg_M} (e56 : s56 64 13 = t) (hl : A.length = D.length) (hA : (A.length : Int) + t ≤ 200) (ht : 0 ≤ t ∧ t ≤ 99)
    (hQ : ∀ u, sp_uF s0 u → sp_mHh u ((A ++ hTl (fun _ => a) t.toNat, D ++ hTl (fun _ => b) t.toNat), a, b) → fX12_readEnd u (fun u60 s62 => Q u60 s62)) :
    ∀ (r m : Nat) (u : sg_M), (m : Int) + r = t → sp_uF s0 u → sp_mHh u ((A ++ hTl (fun _ => a) m, D ++ hTl (fun _ => b) m), a, b) → fX12_readStep_L291 s56 Q (r + 1) u m
  | 0, m, u, hm, hF, h => by
    rw [fX12_readStep_L291, e56]
    have em : t.toNat = m := by omega
    rw [em] at hQ
    exact ⟨fun _ => hQ u hF h, fun q => absurd (show t ≤ (m : Int) by omega) q⟩
  | r + 1, m, u, hm, hF, h => by
    have h4 : u 64 44 = a := h.2.2.2.1
    have h5 : u 64 45 = b := h.2.2.2.2
    rw [fX12_readStep_L291, e56, h4, h5]
    refine ⟨fun q => absurd q (by omega), fun _ => tX12_tickTo h ?_ ?_ (fun v fv hv => ⟨by omega, ?_⟩)⟩
    · simp only [List.length_append, hTl_len]; omega
    · simp only [List.length_append, hTl_len]; omega
    · refine tq_waL e56 hl hA ht hQ r (m + 1) v (by omega) (fun c i z1 z2 z3 => by rw [fv c i z1 z2 z3]; exact hF c i z1 z2 z3) ?_
      rw [hTl_snoc, hTl_snoc]; exact hv
theorem sp_ge_id (a p n : Int) : sp_ge a a p n = a := by unfold sp_ge; rw [Int.sub_self, Int.zero_mul, Int.zero_tdiv, Int.add_zero]
theorem hMv_wait {t : Int} (h : 1 ≤ t) : hMv g g.2.1 g.2.2 t = ((g.1.1 ++ hTl (fun _ => g.2.1) t.toNat, g.1.2 ++ hTl (fun _ => g.2.2) t.toNat), g.2) := by
  unfold hMv; rw [if_pos h]
  simp only [sp_ge_id]
/-- a time -/
theorem tX12_readLast {q : Int} {Q : Int → sg_M → Prop} (hq : sp_tq T lim) (H : sp_tM T lim (.inr q) s) (hg : sp_mHh s g) (hi : hI g) (h : ∀ t, sp_tF s t → sp_tM T lim (hTr T lim g (.inr q)) t → (pOk (hTr T lim g (.inr q)) = 1 → t 64 13 = hTv T lim g (.inr q)) → Q (pOk (hTr T lim g (.inr q))) t) : fX12_readLast s Q := by
  have H' := H
  obtain ⟨k1, k2, k3, k4⟩ := H'
  have e7 : s 64 7 = tK T lim q := k4.2.2.2.1
  have h2 := hi.2.1
  have eR : hRoom g = 200 - (g.1.1.length : Int) := rfl
  have eN : hTr T lim g (.inr q) = if tK T lim q ≠ 3 then .inl (1, tA T lim q) else if tV T q < 1 ∨ 99 < tV T q then .inl (2, tA T lim q) else if hRoom g < tV T q then .inl (4, tA T lim q) else .inr (tO T q) := rfl
  have eV : hTv T lim g (.inr q) = if tK T lim q ≠ 3 then 0 else if tV T q < 1 ∨ 99 < tV T q then 0 else if hRoom g < tV T q then 0 else tV T q := rfl
  have bd : ∀ k, 1 ≤ k ∧ k ≤ 4 → (tK T lim q = 1 → k = 1) → hTr T lim g (.inr q) = .inl (k, tA T lim q) → fX12_bad s k (fun u s => Q u s) := fun k hk h1k e => by
    rw [e] at h
    exact tX12_bad hq H hk h1k (fun t hF ht => h t hF ht (fun z => absurd (show (0 : Int) = 1 from z) (by omega)))
  refine ⟨fun c => ?_, fun c => ?_⟩
  · have hk : tK T lim q = 3 := by rw [← e7]; exact c
    have e8 : s 64 8 = tV T q := k4.2.2.2.2.2.1 hk
    have hv := tV_rg k2.2 hk
    rw [if_neg (by omega)] at eN eV
    rw [e8]
    refine tX12_isIn ?_
    split
    · rename_i g2
      rw [if_neg (by omega)] at eN eV
      rw [hg.1]
      refine ⟨fun _ => ⟨by omega, fun c2 s12 e12 => ?_, fun c2 => ?_⟩, fun w => absurd w (by omega)⟩
      · rw [if_neg (by omega)] at eN eV
        rw [eN, eV] at h
        have H8 : sp_tM T lim (.inr q) s12 := sp_tM_kp H (fun c i w => by rw [e12, sg_upN _ (by omega)])
        refine tX12_adv hq H8 (by omega) (fun t hF h13 ht => h t (fun c i w => by rw [hF c i w, e12, sg_upN _ (by omega)]) ht (fun _ => ?_))
        rw [h13, e12, sg_upS]
      · rw [if_pos (by omega)] at eN
        exact bd 4 (by omega) (by omega) eN
    · rename_i g2
      rw [if_pos (by omega)] at eN
      exact ⟨fun w => absurd rfl w, fun _ => bd 2 (by omega) (by omega) eN⟩
  · rw [if_pos (fun w => c (by rw [e7]; exact w))] at eN
    exact bd 1 (by omega) (fun _ => rfl) eN
theorem hTr_inl {f : Int × Int} : hTr T lim g (.inl f) = .inl f := rfl
theorem tX12_readTime {q : Int} {Q : Int → sg_M → Prop} (hq : sp_tq T lim) (H : sp_tM T lim (.inr q) s) (hg : sp_mHh s g) (hi : hI g) (h : ∀ t, sp_tF s t → sp_tM T lim (hTr T lim g (pMw T lim 7 (.inr q))) t → (pOk (hTr T lim g (pMw T lim 7 (.inr q))) = 1 → t 64 13 = hTv T lim g (pMw T lim 7 (.inr q))) → Q (pOk (hTr T lim g (pMw T lim 7 (.inr q)))) t) : fX12_readTime s Q := by
  refine tX12_readWord (k := 7) (by omega) hq H (fun t1 f1 h1 => ?_)
  have e7 : sp_wx 7 = 7 := rfl
  rw [e7] at h1 ⊢
  rcases hr : pMw T lim 7 (.inr q) with f | q1
  · rw [hr] at h h1
    rw [hTr_inl] at h
    exact ⟨fun w => absurd rfl w, fun _ => h t1 f1 h1 (fun w => absurd (show (0 : Int) = 1 from w) (by omega))⟩
  · rw [hr] at h h1
    exact ⟨fun _ => tX12_readLast hq h1 (sp_mHh_tF hg f1) hi (fun t f2 h2 h13 => h t (sp_tF_tr f1 f2) h2 h13), fun w => absurd (show (1 : Int) = 0 from w) (by omega)⟩
theorem hTv_ok (h : pOk (hTr T lim g r) ≠ 0) (hi : hI g) : 1 ≤ hTv T lim g r ∧ hTv T lim g r ≤ 99 ∧ (g.1.1.length : Int) + hTv T lim g r ≤ 200 := by
  have k := pNm_ok1 h
  have eR : hRoom g = 200 - (g.1.1.length : Int) := rfl
  have e : hTv T lim g r = pNv T lim 1 99 (hRoom g) r := rfl
  omega
theorem pSv_bd {most : Int} {q : Int} (h0 : 0 ≤ most ∧ most ≤ 9999) (h : pOk (pSm T lim most r) ≠ 0) : -9999 ≤ pSv T lim most r ∧ pSv T lim most r ≤ 9999 := by
  have := pSv_ok h0.1 h
  omega
theorem hLn_e5 (h : pWd T lim 5 r ≠ 0) : hLn T lim g r = ((g.1, pSv T lim 9999 (pAd T r), pSv T lim 9999 (pSm T lim 9999 (pAd T r))), pSm T lim 9999 (pSm T lim 9999 (pAd T r))) := by unfold hLn; rw [if_neg h]
theorem hLn_e6 (h : pWd T lim 6 r ≠ 0) : hLn T lim g r = hTo T lim g (pSv T lim 9999 (pAd T r)) (pSv T lim 9999 (pSm T lim 9999 (pAd T r))) (pSm T lim 9999 (pSm T lim 9999 (pAd T r))) := by
  unfold hLn; rw [if_pos (pWd_ex h (by decide +kernel)), if_neg h]
theorem hLn_e8 (h : pWd T lim 8 r ≠ 0) : hLn T lim g r = hSa T lim g (pNv T lim 0 999 999 (pAd T r)) (pNm T lim 0 999 999 (pAd T r)) := by
  unfold hLn; rw [if_pos (pWd_ex h (by decide +kernel)), if_pos (pWd_ex h (by decide +kernel)), if_neg h]
theorem hLn_e9 (h : pWd T lim 9 r ≠ 0) : hLn T lim g r = (hMv g g.2.1 g.2.2 (hTv T lim g (pAd T r)), hTr T lim g (pAd T r)) := by
  unfold hLn; rw [if_pos (pWd_ex h (by decide +kernel)), if_pos (pWd_ex h (by decide +kernel)), if_pos (pWd_ex h (by decide +kernel)), if_neg h]
theorem hLn_e (h5 : pWd T lim 5 r = 0) (h6 : pWd T lim 6 r = 0) (h8 : pWd T lim 8 r = 0) (h9 : pWd T lim 9 r = 0) : hLn T lim g r = (g, pFl T lim 1 r) := by
  unfold hLn; rw [if_pos h5, if_pos h6, if_pos h8, if_pos h9]
theorem pSm_inl {most : Int} {f : Int × Int} : pSm T lim most (.inl f) = .inl f := rfl
/-- at and to -/
theorem tX12_atto {q u3 : Int} {Q : Int → sg_M → Prop} (hq : sp_tq T lim) (H : sp_tM T lim (.inr q) s) (hk : tK T lim q = 2) (hg : sp_mHh s g) (hi : hI g)
    (hc : (u3 = 0 ∧ pWd T lim 5 (.inr q) ≠ 0) ∨ (u3 ≠ 0 ∧ pWd T lim 6 (.inr q) ≠ 0))
    (h : ∀ t, sp_gF s t → sp_tM T lim (pMs T lim 59 (hLn T lim g (.inr q)).2) t → (pOk (pMs T lim 59 (hLn T lim g (.inr q)).2) ≠ 0 → sp_mHh t (hLn T lim g (.inr q)).1) → Q (pOk (pMs T lim 59 (hLn T lim g (.inr q)).2)) t) :
    fX12_go s (fun s5 => fX12_readSigned s5 9999 (fun u6 s8 => ((u6 ≠ 0 → fX12_readSigned s8 9999 (fun u11 s13 => ((u11 ≠ 0 → ((u3 = 0 → (fX12_readStep_j84 s8 s13 Q) s13 0) ∧ (¬ (u3 = 0) → fX12_readTime s13 (fun u38 s40 => ((u38 ≠ 0 → (fX12_readStep_j84 s8 s13 Q) s40 (s40 64 13)) ∧ (u38 = 0 → Q 0 s40)))))) ∧ (u11 = 0 → Q 0 s13)))) ∧ (u6 = 0 → Q 0 s8)))) := by
  have fault : ∀ f t, (hLn T lim g (.inr q)).2 = .inl f → sp_gF s t → sp_tM T lim (.inl f) t → Q 0 t := fun f t e ht h2 => by
    rw [e] at h
    exact h t ht h2 (fun w => absurd rfl w)
  have e2 : ∀ f, pSm T lim 9999 (pSm T lim 9999 (pAd T (.inr q))) = .inl f → (hLn T lim g (.inr q)).2 = .inl f := fun f e => by
    rcases hc with ⟨-, h5⟩ | ⟨-, h6⟩
    · rw [hLn_e5 h5]; exact e
    · rw [hLn_e6 h6, e]; rfl
  refine tX12_adv hq H (by omega) (fun t1 f1 _ h1 => tX12_readSigned hq h1 (fun t2 f2 h2 v2 => ?_))
  have ea : (Sum.inr (tO T q) : sp_rp) = pAd T (.inr q) := rfl
  rw [ea] at h2 v2 ⊢
  have G2 : sp_gF s t2 := fun c i z1 z2 z3 => by rw [f2 c i (by omega)]; exact f1 c i (by omega)
  rcases hr : pSm T lim 9999 (pAd T (.inr q)) with f | q2
  · rw [hr] at h2
    refine ⟨fun w => absurd rfl w, fun _ => fault f t2 (e2 f (by rw [hr]; rfl)) G2 h2⟩
  · have k2 := pSv_bd (T := T) (lim := lim) (most := 9999) (r := pAd T (.inr q)) (q := 0) (by omega) (by rw [hr]; exact (show (1 : Int) ≠ 0 by omega))
    rw [hr] at h2 v2
    have v2 := v2 rfl
    refine ⟨fun _ => tX12_readSigned hq h2 (fun t3 f3 h3 v3 => ?_), fun w => absurd (show (1 : Int) = 0 from w) (by omega)⟩
    have G3 : sp_gF s t3 := fun c i z1 z2 z3 => by rw [f3 c i (by omega)]; exact G2 c i z1 z2 z3
    rcases hr3 : pSm T lim 9999 (.inr q2) with f | q3
    · rw [hr3] at h3
      refine ⟨fun w => absurd rfl w, fun _ => fault f t3 (e2 f (by rw [hr, hr3])) G3 h3⟩
    · have k3 := pSv_bd (T := T) (lim := lim) (most := 9999) (r := .inr q2) (q := 0) (by omega) (by rw [hr3]; exact (show (1 : Int) ≠ 0 by omega))
      rw [hr3] at h3 v3
      have v3 := v3 rfl
      have g3 := sp_mHh_tF (sp_mHh_tF (sp_mHh_tF hg f1) f2) f3
      refine ⟨fun _ => ⟨fun w => ?_, fun w => ?_⟩, fun w => absurd (show (1 : Int) = 0 from w) (by omega)⟩
      · have h5 := (hc.resolve_right (fun z => z.1 w)).2
        rw [hLn_e5 h5, hr, hr3] at h
        dsimp only at h
        refine ⟨1, ?_⟩
        rw [fX12_readStep_L87]
        refine ⟨fun _ s17 e17 s19 e19 => ?_, fun w2 => absurd (show (0 : Int) < 1 by omega) w2⟩
        have f19 : ∀ c i, (c = 64 → i ≠ 44 ∧ i ≠ 45) → s19 c i = t3 c i := fun c i w => by rw [e19, sg_upN _ (by omega), e17, sg_upN _ (by omega)]
        refine tX12_readEnd hq (sp_tM_kp h3 (fun c i w => f19 c i (by omega))) (fun t ft ht => h t (fun c i z1 z2 z3 => by rw [ft c i (by omega), f19 c i (by omega)]; exact G3 c i z1 z2 z3) ht (fun _ => sp_mHh_tF ?_ ft))
        refine ⟨by rw [f19 64 43 (by omega)]; exact g3.1, sg_ar_congr _ 0 (fun i _ _ => (f19 _ i (by omega)).symm) g3.2.1, sg_ar_congr _ 0 (fun i _ _ => (f19 _ i (by omega)).symm) g3.2.2.1, ?_, ?_⟩
        · rw [e19, sg_upN _ (by omega), e17, sg_upS]; exact v2
        · rw [e19, sg_upS]; exact v3
      · have h6 := (hc.resolve_left (fun z => w z.1)).2
        rw [hLn_e6 h6, hr, hr3] at h
        refine tX12_readTime hq h3 g3 hi (fun t4 f4 h4 v4 => ?_)
        unfold hTo at h
        dsimp only at h
        have G4 : sp_gF s t4 := fun c i z1 z2 z3 => by rw [f4 c i (by omega)]; exact G3 c i z1 z2 z3
        have rv := fun z => hTv_ok (T := T) (lim := lim) (g := g) (r := pMw T lim 7 (.inr q3)) z hi
        generalize hTv T lim g (pMw T lim 7 (.inr q3)) = tt at *
        rcases hr4 : hTr T lim g (pMw T lim 7 (.inr q3)) with f | q4
        · rw [hr4] at h4 h
          exact ⟨fun w => absurd rfl w, fun _ => h t4 G4 h4 (fun w => absurd rfl w)⟩
        · have rv := rv (by rw [hr4]; exact (show (1 : Int) ≠ 0 by omega))
          rw [hr4] at h4 h v4
          have v4 := v4 rfl
          refine ⟨fun _ => ⟨tt.toNat + 1, ?_⟩, fun w => absurd (show (1 : Int) = 0 from w) (by omega)⟩
          rw [v4]
          have g4 := sp_mHh_tF g3 f4
          unfold hMv at h
          rw [if_pos rv.1] at h
          exact tq_toL (s0 := t4) v2 v3 hi.1 rv.2.2 (by omega) hi.2.2.2.2.1 hi.2.2.2.2.2 k2 k3 (fun u fu hu => tX12_readEnd hq (sp_tM_kp h4 (fun c i w => fu c i (by omega) (by omega) (by omega))) (fun t ft ht => h t (fun c i z1 z2 z3 => by rw [ft c i (by omega), fu c i (by omega) z2 z3]; exact G4 c i z1 z2 z3) ht (fun _ => sp_mHh_tF hu ft))) tt.toNat 0 t4 (by omega) (fun _ _ _ _ _ => rfl) (by simp only [hTl, List.append_nil]; exact g4)
theorem tX12_readStep {q : Int} {Q : Int → sg_M → Prop} (hq : sp_tq T lim) (H : sp_tM T lim (.inr q) s) (hg : sp_mHh s g) (hi : hI g)
    (h : ∀ t, sp_gF s t → sp_tM T lim (pMs T lim 59 (hLn T lim g (.inr q)).2) t → (pOk (pMs T lim 59 (hLn T lim g (.inr q)).2) ≠ 0 → sp_mHh t (hLn T lim g (.inr q)).1) → Q (pOk (pMs T lim 59 (hLn T lim g (.inr q)).2)) t) : fX12_readStep s Q := by
  refine tX12_isW (k := 5) (w := 5) rfl (by omega) H ⟨fun c5 => ?_, fun c5 => ?_⟩
  · have hk := (pWd_1 c5).1
    refine tX12_isW (k := 6) (w := 6) rfl (by omega) H ?_
    rw [pWd_ex c5 (by decide +kernel)]
    exact tX12_atto hq H hk hg hi (Or.inl ⟨rfl, c5⟩) h
  · refine tX12_isW (k := 6) (w := 6) rfl (by omega) H ⟨fun c6 => ?_, fun c6 => ?_⟩
    · refine tX12_isW (k := 8) (w := 8) rfl (by omega) H ⟨fun c8 => ?_, fun c8 => ?_⟩
      · refine tX12_readWord (k := 9) (by omega) hq H (fun t1 f1 h1 => ?_)
        have e9 : sp_wx 9 = 9 := rfl
        rw [e9] at h1 ⊢
        by_cases c9 : pWd T lim 9 (.inr q) = 0
        · have er : pMw T lim 9 (.inr q) = .inl (1, tA T lim q) := by unfold pMw; rw [if_pos c9]; rfl
          rw [hLn_e c5 c6 c8 c9] at h
          rw [er] at h1 ⊢
          exact ⟨fun _ => h t1 (fun c i z1 z2 z3 => f1 c i (by omega)) h1 (fun w => absurd rfl w), fun w => absurd rfl w⟩
        · have er : pMw T lim 9 (.inr q) = .inr (tO T q) := by unfold pMw; rw [if_neg c9]; rfl
          rw [hLn_e9 c9] at h
          rw [er] at h1 ⊢
          refine ⟨fun w => absurd (show (1 : Int) = 0 from w) (by omega), fun _ => tX12_readLast hq h1 (sp_mHh_tF hg f1) hi (fun t2 f2 h2 v2 => ?_)⟩
          have G2 : sp_gF s t2 := fun c i z1 z2 z3 => by rw [f2 c i (by omega)]; exact f1 c i (by omega)
          have ea : (Sum.inr (tO T q) : sp_rp) = pAd T (.inr q) := rfl
          rw [ea] at h2 v2 ⊢
          dsimp only at h
          have rv := fun z => hTv_ok (T := T) (lim := lim) (g := g) (r := pAd T (.inr q)) z hi
          generalize hTv T lim g (pAd T (.inr q)) = tt at *
          rcases hr : hTr T lim g (pAd T (.inr q)) with f | q2
          · rw [hr] at h2 h
            exact ⟨fun w => absurd rfl w, fun _ => h t2 G2 h2 (fun w => absurd rfl w)⟩
          · have rv := rv (by rw [hr]; exact (show (1 : Int) ≠ 0 by omega))
            rw [hr] at h2 h v2
            have v2 := v2 rfl
            have g2 := sp_mHh_tF (sp_mHh_tF hg f1) f2
            rw [hMv_wait rv.1] at h
            refine ⟨fun _ => ⟨tt.toNat + 1, ?_⟩, fun w => absurd (show (1 : Int) = 0 from w) (by omega)⟩
            exact tq_waL (s0 := t2) v2 hi.1 rv.2.2 (by omega) (fun u fu hu => tX12_readEnd hq (sp_tM_kp h2 (fun c i w => fu c i (by omega) (by omega) (by omega))) (fun t ft ht => h t (fun c i z1 z2 z3 => by rw [ft c i (by omega), fu c i (by omega) z2 z3]; exact G2 c i z1 z2 z3) ht (fun _ => sp_mHh_tF hu ft))) tt.toNat 0 t2 (by omega) (fun _ _ _ _ _ => rfl) (by simp only [hTl, List.append_nil]; exact g2)
      · rw [hLn_e8 c8] at h
        have hk := (pWd_1 c8).1
        refine tX12_adv hq H (by omega) (fun t1 f1 _ h1 => tX12_readNumber hq h1 (fun t2 f2 h2 v2 => ?_))
        have ea : (Sum.inr (tO T q) : sp_rp) = pAd T (.inr q) := rfl
        rw [ea] at h2 v2 ⊢
        have G2 : sp_gF s t2 := fun c i z1 z2 z3 => by rw [f2 c i (by omega)]; exact f1 c i (by omega)
        have hb := pNv_rg (T := T) (lim := lim) (r := pAd T (.inr q)) 0 999 999 (pIn_adw (w := 8) H.2.1 c8)
        generalize pNv T lim 0 999 999 (pAd T (.inr q)) = v at *
        rcases hr : pNm T lim 0 999 999 (pAd T (.inr q)) with f | q2
        · rw [hr] at h2 h
          exact ⟨fun w => absurd rfl w, fun _ => h t2 G2 h2 (fun w => absurd rfl w)⟩
        · rw [hr] at h2 h v2
          have v2 := v2 rfl
          have g2 := sp_mHh_tF (sp_mHh_tF hg f1) f2
          refine ⟨fun _ => tX12_readTime hq h2 g2 hi (fun t3 f3 h3 v3 => ?_), fun w => absurd (show (1 : Int) = 0 from w) (by omega)⟩
          unfold hSa at h
          dsimp only at h
          have G3 : sp_gF s t3 := fun c i z1 z2 z3 => by rw [f3 c i (by omega)]; exact G2 c i z1 z2 z3
          have rv := fun z => hTv_ok (T := T) (lim := lim) (g := g) (r := pMw T lim 7 (.inr q2)) z hi
          generalize hTv T lim g (pMw T lim 7 (.inr q2)) = tt at *
          rcases hr3 : hTr T lim g (pMw T lim 7 (.inr q2)) with f | q3
          · rw [hr3] at h3 h
            exact ⟨fun w => absurd rfl w, fun _ => h t3 G3 h3 (fun w => absurd rfl w)⟩
          · have rv := rv (by rw [hr3]; exact (show (1 : Int) ≠ 0 by omega))
            rw [hr3] at h3 h v3
            have v3 := v3 rfl
            have g3 := sp_mHh_tF g2 f3
            refine ⟨fun _ => ⟨tt.toNat + 1, ?_⟩, fun w => absurd (show (1 : Int) = 0 from w) (by omega)⟩
            exact tq_msL (s0 := t3) v2 v3 hi.1 rv.2.2 (by omega) hb hi.2.2.2.2.2 (fun u fu hu => tX12_readEnd hq (sp_tM_kp h3 (fun c i w => fu c i (by omega) (by omega) (by omega))) (fun t ft ht => h t (fun c i z1 z2 z3 => by rw [ft c i (by omega), fu c i (by omega) z2 z3]; exact G3 c i z1 z2 z3) ht (fun _ => sp_mHh_tF hu ft))) tt.toNat 0 t3 (by omega) (fun _ _ _ _ _ => rfl) (by simp only [hTl, List.append_nil]; exact g3)
    · have hk := (pWd_1 c6).1
      refine tX12_isW (k := 6) (w := 6) rfl (by omega) H ?_
      exact tX12_atto hq H hk hg hi (Or.inr ⟨c6, c6⟩) h
end SGHc
