/-! LEVEL 2: hand(), the reference's loop and end. -/
noncomputable section SGHd
variable {T : List Int} {lim : Int} {r : sp_rp} {s : sg_M} {g : sp_hh} {z : sp_Z}
theorem hLs_inl {f : Int × Int} : ∀ n : Nat, hLs T lim n g (.inl f) = (g, .inl f)
  | 0 => rfl
  | n + 1 => by rw [hLs, if_pos (show pGo T lim (.inl f) = 0 from rfl)]
theorem hTr_mo {q : Int} (h : pMo q r) : pMo (q + 1) (hTr T lim g r) := pMo_nm h
theorem hLn_mo {q : Int} (h : pMo q r) : pMo (q + 1) (hLn T lim g r).2 := by
  unfold hLn; split
  · split
    · split
      · split
        · exact pMo_fl
        · exact pMo_lt (hTr_mo (pMo_ad h)) (by omega)
      · exact pMo_lt (hTr_mo (pMo_mw (pMo_nm (pMo_ad h)))) (by omega)
    · exact pMo_lt (hTr_mo (pMo_mw (pMo_sm (pMo_sm (pMo_ad h))))) (by omega)
  · exact pMo_lt (pMo_sm (pMo_sm (pMo_ad h))) (by omega)
theorem pIn_tr (hq : sp_tq T lim) (h : pIn T r) : pIn T (hTr T lim g r) := pIn_nm hq h
theorem hLn_in (hq : sp_tq T lim) (h : pIn T r) : pIn T (hLn T lim g r).2 := by
  unfold hLn; split
  · split
    · split
      · split
        · exact pIn_fl hq (by omega) h
        · rename_i c; exact pIn_tr hq (pIn_adw h c)
      · rename_i c; exact pIn_tr hq (pIn_mw hq (pIn_nm hq (pIn_adw h c)))
    · rename_i c; exact pIn_tr hq (pIn_mw hq (pIn_sm hq (pIn_sm hq (pIn_adw h c))))
  · rename_i c; exact pIn_sm hq (pIn_sm hq (pIn_adw h c))
theorem hLn_I (hq : sp_tq T lim) (hi : hI g) (h : pIn T r) : hI (hLn T lim g r).1 := by
  have sg : ∀ {r}, pIn T r → -9999 ≤ pSv T lim 9999 r ∧ pSv T lim 9999 r ≤ 9999 := fun {r} h => pSv_rg h (pIn_sk h)
  unfold hLn; split
  · split
    · split
      · split
        · exact hi
        · rename_i c
          have rv := hTv_rg (T := T) (lim := lim) (g := g) (pIn_adw h c) hi
          exact hMv_I hi hi.2.2.2.2.1 hi.2.2.2.2.2 rv.2.2
      · rename_i c
        have rv := hTv_rg (T := T) (lim := lim) (g := g) (pIn_mw (w := 7) hq (pIn_nm (lo := 0) (hi := 999) (room := 999) hq (pIn_adw h c))) hi
        exact hSh_I hi rv.1 rv.2.2
    · rename_i c
      have i1 := pIn_adw h c
      have i2 := pIn_sm (most := 9999) hq i1
      have rv := hTv_rg (T := T) (lim := lim) (g := g) (pIn_mw (w := 7) hq (pIn_sm (most := 9999) hq i2)) hi
      exact hMv_I hi (sg i1) (sg i2) rv.2.2
  · rename_i c
    have i1 := pIn_adw h c
    have i2 := pIn_sm (most := 9999) hq i1
    exact ⟨hi.1, hi.2.1, hi.2.2.1, hi.2.2.2.1, sg i1, sg i2⟩
theorem hLs_I (hq : sp_tq T lim) : ∀ (n : Nat) (g : sp_hh) (r : sp_rp), hI g → pIn T r → hI (hLs T lim n g r).1
  | 0, g, r, hi, hr => hi
  | n + 1, g, r, hi, hr => by
    rw [hLs]; split
    · exact hi
    · exact hLs_I hq n _ _ (hLn_I hq hi hr) (pIn_ms hq (hLn_in hq hr))
theorem tq_rhL {Q : Int → sg_M → Prop} {K : sg_M → Prop} {s0 : sg_M} (hq : sp_tq T lim) {p : sp_hh × sp_rp}
    (hK : ∀ t q, p.2 = .inr q → sp_gF s0 t → sp_tM T lim (.inr q) t → sp_mHh t p.1 → hI p.1 → K t) (hQ : ∀ t f, p.2 = .inl f → sp_gF s0 t → sp_tM T lim (.inl f) t → Q (-1 - f.2) t) :
    ∀ (n : Nat) (g : sp_hh) (q : Int) (t : sg_M), (T.length : Int) - q < 2 * n → hLs T lim n g (.inr q) = p → sp_gF s0 t → sp_tM T lim (.inr q) t → sp_mHh t g → hI g → fX12_hand_L22 Q K (n + 1) t
  | 0, g, q, t, hn, hp, hF, H, hR, hi => absurd hn (by have := H.2.1.2; omega)
  | n + 1, g, q, t, hn, hp, hF, H, hR, hi => by
    have e7 : t 64 7 = tK T lim q := H.2.2.2.2.2.2.1
    rw [hLs] at hp
    rw [fX12_hand_L22, e7]
    have eg : pGo T lim (.inr q) = if tK T lim q = 0 then 0 else 1 := rfl
    refine ⟨fun c => ?_, fun c => ?_⟩
    · rw [if_pos (by rw [eg, if_pos c])] at hp
      subst hp
      exact hK t q rfl hF H hR hi
    · rw [if_neg (by rw [eg, if_neg c]; omega)] at hp
      refine tX12_readStep hq H hR hi (fun t1 f1 h1 r1 => ⟨fun w => ?_, fun w => ?_⟩)
      · obtain ⟨q1, e1⟩ := pOk_inr w
        have m1 : pMo (q + 1 + 1) (pMs T lim 59 (hLn T lim g (.inr q)).2) := pMo_ms (hLn_mo (fun q' e => by cases e; exact Int.le_refl q))
        have m2 := m1 q1 e1
        rw [e1] at h1 hp
        exact tq_rhL hq hK hQ n _ q1 t1 (by omega) hp (fun c i z1 z2 z3 => by rw [f1 c i z1 z2 z3]; exact hF c i z1 z2 z3) h1 (r1 w) (hLn_I hq hi H.2.1)
      · obtain ⟨f, e1⟩ := pOk_inl w
        rw [e1, hLs_inl] at hp
        rw [e1] at h1
        have hf := h1.2.1
        obtain ⟨-, -, -, hf4, hf5⟩ := hf
        have hl := hq.1
        have e11 : t1 64 11 = f.2 := h1.2.2.2
        rw [e11]
        exact ⟨by omega, hQ t1 f (by rw [← hp]) (fun c i z1 z2 z3 => by rw [f1 c i z1 z2 z3]; exact hF c i z1 z2 z3) h1⟩
theorem tq_chL {Q : Int → sg_M → Prop} {s0 : sg_M} {n : Int} (hn : 0 ≤ n ∧ n ≤ 200) (hs : s0 64 43 = n) (h : ∀ t, (∀ c i, (c = 66 → i < 1301 ∨ 1701 ≤ i) → t c i = s0 c i) → (∀ i, 0 ≤ i → i < n → t 66 (1301 + i) = s0 69 i ∧ t 66 (1501 + i) = s0 70 i) → Q n t) :
    ∀ (r : Nat) (j : Int) (t : sg_M), 0 ≤ j → j + r = n → (∀ c i, (c = 66 → i < 1301 ∨ 1701 ≤ i) → t c i = s0 c i) → (∀ i, 0 ≤ i → i < j → t 66 (1301 + i) = s0 69 i ∧ t 66 (1501 + i) = s0 70 i) → fX12_hand_L57 Q (r + 1) t j
  | 0, j, t, h0, hj, hF, hv => by
    rw [fX12_hand_L57, hF 64 43 (by omega), hs]
    exact ⟨fun _ => h t hF (fun i q1 q2 => hv i q1 (by omega)), fun c => absurd (show n ≤ j by omega) c⟩
  | r + 1, j, t, h0, hj, hF, hv => by
    rw [fX12_hand_L57, hF 64 43 (by omega), hs]
    refine ⟨fun c => absurd c (by omega), fun _ => ⟨by omega, by omega, fun s29 e29 => ⟨by omega, by omega, fun s36 e36 => ⟨by omega, ?_⟩⟩⟩⟩
    have e70 : s29 70 j = s0 70 j := by rw [e29, sg_upN _ (by omega)]; exact hF 70 j (by omega)
    refine tq_chL hn hs h r (j + 1) s36 (by omega) (by omega) (fun c i q => by rw [e36, sg_upN _ (by omega), e29, sg_upN _ (by omega)]; exact hF c i q) (fun i q1 q2 => ?_)
    by_cases hi : i = j
    · rw [hi]
      refine ⟨?_, ?_⟩
      · rw [e36, sg_upN _ (by omega), e29, sg_upS]; exact hF 69 j (by omega)
      · rw [e36, sg_upS]; exact e70
    · rw [e36, sg_upN _ (by omega), e29, sg_upN _ (by omega)]
      refine ⟨(hv i q1 (by omega)).1, ?_⟩
      rw [sg_upN _ (by omega), sg_upN _ (by omega)]; exact (hv i q1 (by omega)).2
theorem k2Hand {Q : Int → sg_M → Prop} (hw : sp_wZ z) (H : sp_RM s z) (h : ∀ s', sp_FC s s' → sp_RM s' (yHand z) → Q (aHand z) s') : fX12_hand s Q := by
  obtain ⟨H0, h20, F0, -⟩ := sp_go H
  have hq : sp_tq (zT z) 300 := sp_tq_z hw (by omega)
  refine tX12_begin H hq (fun t1 g20 f1 g2 h1 => ?_)
  generalize sp_ly (sg_up s 64 0 0) = m0 at *
  intro s2 e2 s4 e4 s6 e6
  have f6 : ∀ c i, (c = 64 → i < 43 ∨ 45 < i) → s6 c i = t1 c i := fun c i z1 => by
    rw [e6, sg_upN _ (by omega), e4, sg_upN _ (by omega), e2, sg_upN _ (by omega)]
  have R6 : sp_mHh s6 (([], []), 0, 0) := by
    refine ⟨?_, trivial, trivial, ?_, ?_⟩
    · rw [e6, sg_upN _ (by omega), e4, sg_upN _ (by omega), e2, sg_upS]; rfl
    · rw [e6, sg_upN _ (by omega), e4, sg_upS]
    · rw [e6, sg_upS]
  have H6 : sp_tM (zT z) 300 (.inr 0) s6 := sp_tM_kp h1 (fun c i z => f6 c i (by omega))
  have hl := hw.1
  have fr : ∀ u, sp_gF s6 u → ∀ c i, (c = 64 → i < 3 ∨ (13 < i ∧ (i < 43 ∨ 45 < i))) → (c = 64 → i ≠ 0 ∧ i ≠ 2) → c ≠ 69 → c ≠ 70 → u c i = m0 c i := fun u hu c i z1 z2 z3 z4 => by
    rw [hu c i (by omega) z3 z4, f6 c i (by omega)]; exact f1 c i (by omega) z2
  have f2 : ∀ u, sp_gF s6 u → u 64 2 = 0 := fun u hu => by rw [hu 64 2 (by omega) (by omega) (by omega), f6 64 2 (by omega)]; exact g2
  unfold aHand yHand at h
  refine ⟨541, tq_rhL (s0 := s6) (p := pHd z) hq (fun t q hp hF ht hR hi => ?_) (fun t f hp hF ht => ?_) 540 (([], []), 0, 0) 0 s6 (by omega) rfl (fun _ _ _ _ _ => rfl) H6 R6 hI0⟩
  · rw [hp] at h
    dsimp only at h
    intro s19 e19
    generalize (pHd z).1 = gg at *
    have h200 := hi.2.1
    have a43 : s19 64 43 = gg.1.1.length := by rw [e19, sg_upN _ (by omega)]; exact hR.1
    refine ⟨gg.1.1.length + 1, tq_chL (s0 := s19) (n := gg.1.1.length) (by omega) a43 (fun u fu vu => ?_) gg.1.1.length 0 s19 (by omega) (by omega) (fun _ _ _ => rfl) (fun i q1 q2 => by omega)⟩
    have f19 : ∀ c i, (c = 66 → i ≠ 1300) → s19 c i = t c i := fun c i w => by rw [e19, sg_upN _ (by omega)]
    have hN := H0.2.2.1
    rw [sp_mN_eq2] at hN
    obtain ⟨n1, n2, n3, n4, n5⟩ := hN
    have hok := hw.2.2.1
    have f66 : ∀ i, (i < 1300 ∨ 1701 ≤ i) → u 66 i = m0 66 i := fun i zi => by rw [fu 66 i (by omega), f19 66 i (by omega)]; exact fr t hF 66 i (by omega) (by omega) (by omega) (by omega)
    refine h u (fun c i zc => by rw [fu c i (by omega), f19 c i (by omega), fr t hF c i (by omega) (by omega) (by omega) (by omega)]; exact F0 c i zc) (sp_RM_of (sp_R0_cl H0 (fun c i hr2 z1 z2 z3 => ?_) ?_ ?_ ?_) ?_)
    · rw [fu c i (by omega), f19 c i (by omega)]; exact fr t hF c i (by unfold sp_rdm at hr2; omega) (by unfold sp_rdm at hr2; omega) (by unfold sp_rdm at hr2; omega) (by unfold sp_rdm at hr2; omega)
    · rw [fu 64 2 (by omega), f19 64 2 (by omega)]; exact f2 t hF
    · rw [fu 64 10 (by omega), f19 64 10 (by omega)]; exact ht.2.2.1
    · rw [sp_mN_eq2]
      refine ⟨sp_mBl_eq hok.1 n1 (fun i q1 q2 => f66 i (by omega)), ⟨?_, ?_, ?_⟩, sp_mS_eq n3 (fun i q1 q2 => f66 i (by omega)), sp_mK_eq n4 hok.2.2.2.2.2.1 hok.2.2.2.2.2.2.1 (fun i q1 q2 => f66 i (by omega)), sp_mF_eq hok.2.2.2.2.2.2.2.2.2 n5 (fun i q1 q2 => f66 i (by omega))⟩
      · show u 66 1300 = (gg.1.1.length : Int)
        rw [fu 66 1300 (by omega), e19, sg_upS]; exact hR.1
      · refine sg_ar_congr _ 0 (fun i q1 q2 => ?_) hR.2.1
        change i < 0 + (gg.1.1.length : Int) at q2
        show t 69 i = u 66 (1301 + i)
        rw [(vu i q1 (by omega)).1, f19 69 i (by omega)]
      · refine sg_ar_congr _ 0 (fun i q1 q2 => ?_) hR.2.2.1
        change i < 0 + (gg.1.2.length : Int) at q2
        have hll := hi.1
        show t 70 i = u 66 (1501 + i)
        rw [(vu i q1 (by omega)).2, f19 70 i (by omega)]
    · rw [fu 64 20 (by omega), f19 64 20 (by omega), fr t hF 64 20 (by omega) (by omega) (by omega) (by omega)]; exact h20
  · rw [hp] at h
    exact h t (fun c i zc => by rw [fr t hF c i (by omega) (by omega) (by omega) (by omega)]; exact F0 c i zc) (sp_RM_fl (f := f) H0 h20 (fun c i z1 z2 z3 z4 z5 z6 => fr t hF c i (by omega) z2 z4 z5) (f2 t hF) ht.2.2.1)
theorem wHand (hw : sp_wZ z) : sp_wZ (yHand z) := by
  have hq : sp_tq (zT z) 300 := sp_tq_z hw (by omega)
  have hi : hI (pHd z).1 := hLs_I hq 540 _ (.inr 0) hI0 ⟨by omega, by omega⟩
  unfold yHand
  rcases hr : (pHd z).2 with f | q
  · exact sp_wZ_TF hw _
  · obtain ⟨a1, a2, a3, a4, a5, a6, a7, a8, a9, a10⟩ := hw.2.2.1
    exact sp_wN' (sp_wZ_TF hw 0) ⟨a1, hi.1, hi.2.1, hi.2.2.1, hi.2.2.2.1, a6, a7, a8, a9, a10⟩
end SGHd
