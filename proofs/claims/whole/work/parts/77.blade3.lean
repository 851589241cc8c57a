/-! LEVEL 2: blade(), the reference's loop and end. -/
noncomputable section SGBf
variable {T : List Int} {lim : Int} {r : sp_rp} {s : sg_M} {B : sg_M} {z : sp_Z}
theorem lFin_I {m w k e n : Int} (hI : bI B) (hv : pOk r ≠ 0 → (0 ≤ m ∧ B 4 0 + m ≤ 60) ∧ (1 ≤ w ∧ w ≤ 99) ∧ (1 ≤ k ∧ k ≤ 20) ∧ (0 ≤ e ∧ e < w) ∧ (-99 ≤ n ∧ n ≤ 99)) : bI (lFin B m w k e n r).1 := by
  show bI (if pOk r = 0 then B else bAdd B m w k e n)
  split
  · exact hI
  · rename_i g
    obtain ⟨v1, v2, v3, v4, v5⟩ := hv g
    exact bAdd_ok hI v1 v2 v3 v4 v5
theorem lOwn_I {m w k e : Int} (hI : bI B) (hv : pOk r ≠ 0 → (0 ≤ m ∧ B 4 0 + m ≤ 60) ∧ (1 ≤ w ∧ w ≤ 99) ∧ (1 ≤ k ∧ k ≤ 20) ∧ (0 ≤ e ∧ e < w)) : bI (lOwn T lim B m w k e r).1 := by
  unfold lOwn; split
  · refine lFin_I hI (fun g => ?_)
    obtain ⟨v1, v2, v3, v4⟩ := hv g
    exact ⟨v1, v2, v3, v4, by omega⟩
  · refine lFin_I hI (fun g => ?_)
    have g1 := pSm_ok g
    rw [pOk_ad] at g1
    obtain ⟨v1, v2, v3, v4⟩ := hv g1
    exact ⟨v1, v2, v3, v4, pSv_ok (by omega) g⟩
theorem lTee_I {m w k : Int} (hI : bI B) (hv : pOk r ≠ 0 → (0 ≤ m ∧ B 4 0 + m ≤ 60) ∧ (1 ≤ w ∧ w ≤ 99) ∧ (1 ≤ k ∧ k ≤ 20)) : bI (lTee T lim B m w k r).1 := by
  unfold lTee; split
  · refine lOwn_I hI (fun g => ?_)
    obtain ⟨v1, v2, v3⟩ := hv g
    exact ⟨v1, v2, v3, by omega⟩
  · refine lOwn_I hI (fun g => ?_)
    have g1 := pNm_ok1 g
    have g0 := g1.1
    rw [pOk_ad] at g0
    obtain ⟨v1, v2, v3⟩ := hv g0
    have e9 : sg_min 9 (w - 1) ≤ w - 1 := by unfold sg_min; split <;> omega
    exact ⟨v1, v2, v3, by omega⟩
theorem lB_I (hI : bI B) (hr : pIn T r) : bI (lB T lim B r).1 := by
  have on : ∀ (j : Int) (w : Nat), (j = 1 ∨ j = 2) → pWd T lim w r ≠ 0 → bI (lOn T lim B j r).1 := fun j w hj hw => by
    refine lOn_I hI hj ?_
    match r, hr, hw with
    | .inl f, _, hw => exact absurd rfl hw
    | .inr q, hr, hw => exact pIn_ad (lim := lim) hr (by have := pWd_1 hw; omega)
  have hn := hI.1
  unfold lB; split
  · split
    · split
      · exact hI
      · rename_i g; exact on 2 4 (by omega) g
    · rename_i g; exact on 1 3 (by omega) g
  · unfold lP1 lP2 lP3
    refine lTee_I hI (fun g => ?_)
    have z1 := pNm_ok1 g
    have z2 := pNm_ok1 z1.1
    have z3 := pNm_ok1 z2.1
    refine ⟨?_, ?_, ?_⟩ <;> omega
theorem tq_rbL {Q : Int → sg_M → Prop} {K : sg_M → Prop} {s0 : sg_M} (hq : sp_tq T lim) {p : sg_M × sp_rp}
    (hK : ∀ t q, p.2 = .inr q → sp_rF s0 t → sp_tM T lim (.inr q) t → sp_mR t p.1 → bI p.1 → K t) (hQ : ∀ t f, p.2 = .inl f → sp_rF s0 t → sp_tM T lim (.inl f) t → Q (-1 - f.2) t) :
    ∀ (n : Nat) (B : sg_M) (q : Int) (t : sg_M), (T.length : Int) - q < 2 * n → lBs T lim n B (.inr q) = p → sp_rF s0 t → sp_tM T lim (.inr q) t → sp_mR t B → bI B → fX12_blade_L37 Q K (n + 1) t
  | 0, B, q, t, hn, hp, hF, H, hR, hI => absurd hn (by have := H.2.1.2; omega)
  | n + 1, B, q, t, hn, hp, hF, H, hR, hI => by
    have e7 : t 64 7 = tK T lim q := H.2.2.2.2.2.2.1
    rw [lBs] at hp
    rw [fX12_blade_L37, e7]
    have eg : pGo T lim (.inr q) = if tK T lim q = 0 then 0 else 1 := rfl
    refine ⟨fun g => ?_, fun g => ?_⟩
    · rw [if_pos (by rw [eg, if_pos g])] at hp
      subst hp
      exact hK t q rfl hF H hR hI
    · rw [if_neg (by rw [eg, if_neg g]; omega)] at hp
      refine tX12_readLine hq H hR hI (fun t1 f1 h1 r1 => ⟨fun z => ?_, fun z => ?_⟩)
      · obtain ⟨q1, e1⟩ := pOk_inr z
        have m1 : pMo (q + 1 + 1) (pMs T lim 59 (lB T lim B (.inr q)).2) := pMo_ms (lB_mo (fun q' e => by cases e; exact Int.le_refl q))
        have m2 := m1 q1 e1
        rw [e1] at h1 hp
        exact tq_rbL hq hK hQ n _ q1 t1 (by omega) hp (fun c i z1 z2 => by rw [f1 c i z1 z2]; exact hF c i z1 z2) h1 (r1 z) (lB_I hI H.2.1)
      · obtain ⟨f, e1⟩ := pOk_inl z
        rw [e1, lBs_inl] at hp
        rw [e1] at h1
        have hf := h1.2.1
        obtain ⟨-, -, -, hf4, hf5⟩ := hf
        have hl := hq.1
        have e11 : t1 64 11 = f.2 := h1.2.2.2
        rw [e11]
        exact ⟨by omega, hQ t1 f (by rw [← hp]) (fun c i z1 z2 => by rw [f1 c i z1 z2]; exact hF c i z1 z2) h1⟩
theorem tq_cpL {Q : Int → sg_M → Prop} {s0 : sg_M} (h : ∀ t, (∀ c i, (c = 66 → i < 0 ∨ 260 ≤ i) → t c i = s0 c i) → (∀ i, 0 ≤ i → i < 260 → t 66 i = s0 67 i) → Q (t 66 0) t) :
    ∀ (r : Nat) (j : Int) (t : sg_M), 0 ≤ j → j + r = 260 → (∀ c i, (c = 66 → i < 0 ∨ 260 ≤ i) → t c i = s0 c i) → (∀ i, 0 ≤ i → i < j → t 66 i = s0 67 i) → fX12_blade_L83 Q (r + 1) t j
  | 0, j, t, h0, hj, hF, hv => by
    rw [fX12_blade_L83]
    exact ⟨fun _ => h t hF (fun i q1 q2 => hv i q1 (by omega)), fun g => absurd (show (260 : Int) ≤ j by omega) g⟩
  | r + 1, j, t, h0, hj, hF, hv => by
    rw [fX12_blade_L83]
    refine ⟨fun g => absurd g (by omega), fun _ => ⟨by omega, by omega, fun s33 e33 => ⟨by omega, ?_⟩⟩⟩
    refine tq_cpL h r (j + 1) s33 (by omega) (by omega) (fun c i q => by rw [e33, sg_upN _ (by omega)]; exact hF c i q) (fun i q1 q2 => ?_)
    by_cases hi : i = j
    · rw [hi, e33, sg_upS]; exact hF 67 j (by omega)
    · rw [e33, sg_upN _ (by omega)]; exact hv i q1 (by omega)
/-- the reference's state after a text that was read -/
theorem sp_R0_cl {t u : sg_M} {k : Int} {N : sp_N} (H : sp_R0 t z) (e : ∀ c i, sp_rdm c i → c ≠ 65 → c ≠ 66 → (c = 64 → i ≠ 2 ∧ i ≠ 10) → u c i = t c i) (h2 : u 64 2 = 0) (h10 : u 64 10 = k) (hN : sp_mN (u 66) N) : sp_R0 u (zN' (zTF z k) N) := by
  obtain ⟨-, -, -, im, l, ⟨g1, g2⟩, w, r, ⟨d1, d2⟩, ⟨e1, e2⟩, u1, u2⟩ := H
  have e68 : u 68 = t 68 := by funext i; exact e 68 i (by unfold sp_rdm; omega) (by omega) (by omega) (by omega)
  have f : ∀ c i, sp_rdm c i → c ≠ 65 → c ≠ 66 → (c = 64 → i ≠ 2 ∧ i ≠ 10) → u c i = t c i := e
  refine ⟨⟨h2, trivial⟩, h10, hN, fun k h1 h2 => ?_, fun k h1 h2 => ?_, ⟨?_, sg_ar_congr _ 0 (fun i _ _ => (f 78 i (by unfold sp_rdm; omega) (by omega) (by omega) (by omega)).symm) g2⟩, ?_, ?_,
    ⟨?_, sg_ar_congr _ 0 (fun i _ _ => (f 84 i (by unfold sp_rdm; omega) (by omega) (by omega) (by omega)).symm) d2⟩, ⟨?_, sg_ar_congr _ 0 (fun i _ _ => (f 86 i (by unfold sp_rdm; omega) (by omega) (by omega) (by omega)).symm) e2⟩, ⟨?_, sg_ar_congr _ 0 (fun i _ _ => (f 83 i (by unfold sp_rdm; omega) (by omega) (by omega) (by omega)).symm) u2⟩⟩
  · rw [f 71 k (by unfold sp_rdm; omega) (by omega) (by omega) (by omega), e68]; exact im k h1 h2
  · rw [f 77 k (by unfold sp_rdm; omega) (by omega) (by omega) (by omega)]; exact l k h1 h2
  · rw [f 64 37 (by unfold sp_rdm; omega) (by omega) (by omega) (by omega)]; exact g1
  · rw [f 64 38 (by unfold sp_rdm; omega) (by omega) (by omega) (by omega)]; exact w
  · rw [f 64 56 (by unfold sp_rdm; omega) (by omega) (by omega) (by omega)]; exact r
  · rw [f 64 52 (by unfold sp_rdm; omega) (by omega) (by omega) (by omega)]; exact d1
  · rw [f 64 55 (by unfold sp_rdm; omega) (by omega) (by omega) (by omega)]; exact e1
  · rw [f 64 50 (by unfold sp_rdm; omega) (by omega) (by omega) (by omega)]; exact u1
/-- a fault leaves all else -/
theorem sp_RM_fl {t u : sg_M} {f : Int × Int} (H : sp_R0 t z) (h20 : t 64 20 ≠ 0) (e : ∀ c i, (c = 64 → i < 3 ∨ (13 < i ∧ i ≠ 21 ∧ (i < 43 ∨ 45 < i) ∧ (i < 58 ∨ 61 < i))) → (c = 64 → i ≠ 0 ∧ i ≠ 2) → c ≠ 67 → c ≠ 69 → c ≠ 70 → c ≠ 87 → u c i = t c i) (h2 : u 64 2 = 0) (h10 : u 64 10 = f.1) : sp_RM u (zTF z f.1) := by
  have h := sp_R0_cl (u := u) (k := f.1) (N := zN z) H (fun c i hr z1 z2 z3 => e c i (by unfold sp_rdm at hr; omega) (by unfold sp_rdm at hr; omega) (by unfold sp_rdm at hr; omega) (by unfold sp_rdm at hr; omega) (by unfold sp_rdm at hr; omega) (by unfold sp_rdm at hr; omega)) h2 h10 (by
    rw [show u 66 = t 66 from funext fun i => e 66 i (by omega) (by omega) (by omega) (by omega) (by omega) (by omega)]; exact H.2.2.1)
  exact sp_RM_of h (by rw [e 64 20 (by omega) (by omega) (by omega) (by omega) (by omega) (by omega)]; exact h20)
theorem k2Blade {Q : Int → sg_M → Prop} (hw : sp_wZ z) (H : sp_RM s z) (h : ∀ s', sp_FC s s' → sp_RM s' (yBlade z) → Q (aBlade z) s') : fX12_blade s Q := by
  obtain ⟨H0, h20, F0, -⟩ := sp_go H
  have hq : sp_tq (zT z) 500 := sp_tq_z hw (by omega)
  refine tX12_begin H hq (fun t1 g20 f1 g2 h1 => ?_)
  generalize sp_ly (sg_up s 64 0 0) = m0 at *
  intro s3 e3 s6 e6 s9 e9 s11 e11
  have f11 : ∀ c i, (c = 67 → i ≠ 0 ∧ i ≠ 1 ∧ i ≠ 2) → (c = 64 → i ≠ 21) → s11 c i = t1 c i := fun c i z1 z2 => by
    rw [e11, sg_upN _ (by omega), e9, sg_upN _ (by omega), e6, sg_upN _ (by omega), e3, sg_upN _ (by omega)]
  have R11 : sp_mR s11 sp_B0 := by
    refine ⟨?_, ?_, ?_, ?_, fun i q1 q2 => absurd q2 (by unfold sp_B0; omega)⟩
    · rw [e11, sg_upN _ (by omega), e9, sg_upN _ (by omega), e6, sg_upN _ (by omega), e3, sg_upS]; rfl
    · rw [e11, sg_upN _ (by omega), e9, sg_upN _ (by omega), e6, sg_upS]; rfl
    · rw [e11, sg_upN _ (by omega), e9, sg_upS]; rfl
    · rw [e11, sg_upS]; rfl
  have H11 : sp_tM (zT z) 500 (.inr 0) s11 := sp_tM_kp h1 (fun c i z => f11 c i (by omega) (by omega))
  have hl := hw.1
  have fr : ∀ u, sp_rF s11 u → ∀ c i, (c = 64 → i < 3 ∨ (13 < i ∧ i ≠ 21)) → (c = 64 → i ≠ 0 ∧ i ≠ 2) → c ≠ 67 → u c i = m0 c i := fun u hu c i z1 z2 z3 => by
    rw [hu c i (by omega) z3, f11 c i (by omega) (by omega)]; exact f1 c i (by omega) z2
  have f2 : ∀ u, sp_rF s11 u → u 64 2 = 0 := fun u hu => by rw [hu 64 2 (by omega) (by omega), f11 64 2 (by omega) (by omega)]; exact g2
  have fl : ∀ f u, lBe (zT z) 500 (pBl z) = .inl f → sp_rF s11 u → sp_tM (zT z) 500 (.inl f) u → Q (-1 - f.2) u := by
    intro f u hr hu ht
    unfold aBlade yBlade at h
    rw [hr] at h
    refine h u (fun c i zc => by rw [fr u hu c i (by omega) (by omega) (by omega)]; exact F0 c i zc) (sp_RM_fl (f := f) H0 h20 (fun c i z1 z2 z3 z4 z5 z6 => fr u hu c i (by omega) z2 z3) (f2 u hu) ht.2.2.1)
  refine ⟨541, tq_rbL (s0 := s11) (p := pBl z) hq (fun t q hp hF ht hR hI => ?_) (fun t f hp hF ht => ?_) 540 sp_B0 0 s11 (by omega) rfl (fun _ _ _ _ => rfl) H11 R11 sp_B0_I⟩
  · rw [hR.1]
    refine ⟨fun g => ⟨261, ?_⟩, fun g => ?_⟩
    · have hr : lBe (zT z) 500 (pBl z) = .inr q := by unfold lBe; rw [if_pos g]; exact hp
      unfold aBlade yBlade at h
      rw [hr] at h
      refine tq_cpL (s0 := t) (fun u fu vu => ?_) 260 0 t (by omega) (by omega) (fun _ _ _ => rfl) (fun i q1 q2 => by omega)
      have eu0 : u 66 0 = (pBl z).1 4 0 := by rw [vu 0 (by omega) (by omega)]; exact hR.1
      have hN := H0.2.2.1
      rw [sp_mN_eq2] at hN
      obtain ⟨n1, n2, n3, n4, n5⟩ := hN
      have hok := hw.2.2.1
      have f66 : ∀ i, 260 ≤ i → u 66 i = m0 66 i := fun i zi => by rw [fu 66 i (by omega)]; exact fr t hF 66 i (by omega) (by omega) (by omega)
      rw [eu0]
      refine h u (fun c i zc => by rw [fu c i (by omega), fr t hF c i (by omega) (by omega) (by omega)]; exact F0 c i zc) (sp_RM_of (sp_R0_cl H0 (fun c i hr2 z1 z2 z3 => ?_) ?_ ?_ ?_) ?_)
      · rw [fu c i (by omega)]; exact fr t hF c i (by unfold sp_rdm at hr2; omega) (by unfold sp_rdm at hr2; omega) (by unfold sp_rdm at hr2; omega)
      · rw [fu 64 2 (by omega)]; exact f2 t hF
      · rw [fu 64 10 (by omega)]; exact ht.2.2.1
      · rw [sp_mN_eq2]
        refine ⟨?_, sp_mH_eq n2 hok.2.1 hok.2.2.1 (fun i q1 q2 => f66 i (by omega)), sp_mS_eq n3 (fun i q1 q2 => f66 i (by omega)), sp_mK_eq n4 hok.2.2.2.2.2.1 hok.2.2.2.2.2.2.1 (fun i q1 q2 => f66 i (by omega)), sp_mF_eq hok.2.2.2.2.2.2.2.2.2 n5 (fun i q1 q2 => f66 i (by omega))⟩
        have bn := hI.2.1
        have eB0 := bFill_0 (pBl z).1
        have eB1 : bFill (pBl z).1 4 1 = if (pBl z).1 4 1 = 0 then 300 else (pBl z).1 4 1 := by unfold bFill bSet; rw [if_neg (by omega), if_pos ⟨rfl, rfl⟩]
        have eB2 : bFill (pBl z).1 4 2 = if (pBl z).1 4 2 = 0 then 2000 else (pBl z).1 4 2 := by unfold bFill bSet; rw [if_pos ⟨rfl, rfl⟩]
        have eB : ∀ c i, c ≠ 4 → bFill (pBl z).1 c i = (pBl z).1 c i := fun c i hc => by unfold bFill bSet; rw [if_neg (by omega), if_neg (by omega)]
        refine ⟨?_, ?_, ?_, fun i q1 q2 => ?_⟩
        · show u 66 0 = bFill (pBl z).1 4 0
          rw [eB0]; exact eu0
        · show u 66 (0 + 1) = bFill (pBl z).1 4 1
          rw [Int.zero_add, vu 1 (by omega) (by omega), eB1]; exact hR.2.1
        · show u 66 (0 + 2) = bFill (pBl z).1 4 2
          rw [Int.zero_add, vu 2 (by omega) (by omega), eB2]; exact hR.2.2.1
        · have q2 : i < bFill (pBl z).1 4 0 := q2
          rw [eB0] at q2
          obtain ⟨c0, c1, c2, c3⟩ := hR.2.2.2.2 i q1 q2
          show u 66 (0 + 10 + 4 * i) = bFill (pBl z).1 0 i ∧ u 66 (0 + 10 + 4 * i + 1) = bFill (pBl z).1 1 i ∧ u 66 (0 + 10 + 4 * i + 2) = bFill (pBl z).1 2 i ∧ u 66 (0 + 10 + 4 * i + 3) = bFill (pBl z).1 3 i
          rw [Int.zero_add, eB 0 i (by omega), eB 1 i (by omega), eB 2 i (by omega), eB 3 i (by omega), vu _ (by omega) (by omega), vu _ (by omega) (by omega), vu _ (by omega) (by omega), vu _ (by omega) (by omega)]
          rw [Int.add_zero] at c0
          exact ⟨c0, c1, c2, c3⟩
      · rw [fu 64 20 (by omega), fr t hF 64 20 (by omega) (by omega) (by omega)]; exact h20
    · have hr : lBe (zT z) 500 (pBl z) = .inl (1, tA (zT z) 500 q) := by unfold lBe; rw [if_neg g, hp]; rfl
      refine tX12_bad hq ht (by omega) (fun _ => rfl) (fun u hu hu2 => ?_)
      have hf := hu2.2.1
      obtain ⟨-, -, -, hf4, hf5⟩ := hf
      have e11' : u 64 11 = tA (zT z) 500 q := hu2.2.2.2
      rw [e11']
      exact ⟨by omega, fl _ u hr (fun c i z1 z2 => by rw [hu c i (by omega)]; exact hF c i z1 z2) hu2⟩
  · by_cases g : 3 ≤ (pBl z).1 4 0
    · exact fl f t (by unfold lBe; rw [if_pos g]; exact hp) hF ht
    · exact fl f t (by unfold lBe; rw [if_neg g, hp]; rfl) hF ht
theorem sp_wZ_TF (hw : sp_wZ z) (k : Int) : sp_wZ (zTF z k) := by
  obtain ⟨h1, h2, h3, h4, h5, h6, h7, h8⟩ := hw
  exact ⟨by show (0 : Nat) ≤ 540; omega, fun x hx => absurd hx (by intro z; cases z), h3, h4, h5, h6, h7, h8⟩
theorem lBs_in (hq : sp_tq T lim) : ∀ (n : Nat) (B : sg_M) (r : sp_rp), bI B → pIn T r → (∀ B r, bI B → pIn T r → pIn T (pMs T lim 59 (lB T lim B r).2)) → bI (lBs T lim n B r).1
  | 0, B, r, hI, hr, hs => hI
  | n + 1, B, r, hI, hr, hs => by
    rw [lBs]; split
    · exact hI
    · exact lBs_in hq n _ _ (lB_I hI hr) (hs B r hI hr) hs
end SGBf
noncomputable section SGBg
variable {T : List Int} {lim : Int} {r : sp_rp} {B : sg_M} {z : sp_Z}
theorem pIn_fl {k : Int} (hq : sp_tq T lim) (hk : 1 ≤ k ∧ k ≤ 4) (h : pIn T r) : pIn T (pFl T lim k r) := by
  match r, h with
  | .inl f, h => exact h
  | .inr q, h =>
    have ha := tA_rg h.1 h.2 hq.2.2.1
    exact ⟨show k ≠ 0 by omega, hk.1, hk.2, ha⟩
theorem pIn_ms {c : Int} (hq : sp_tq T lim) (h : pIn T r) : pIn T (pMs T lim c r) := by
  unfold pMs; split
  · exact pIn_fl hq (by omega) h
  · rename_i g
    match r, h, g with
    | .inl f, h, g => exact absurd rfl g
    | .inr q, h, g => exact pIn_ad (lim := lim) h (by have := pSg_1 g; omega)
theorem pIn_wk {w : Nat} (h : pIn T r) : pIn T (pWk T lim w r) := by
  unfold pWk; split
  · exact h
  · rename_i g
    match r, h, g with
    | .inl f, h, g => exact absurd rfl g
    | .inr q, h, g => exact pIn_ad (lim := lim) h (by have := pWd_1 g; omega)
theorem pIn_mw {w : Nat} (hq : sp_tq T lim) (h : pIn T r) : pIn T (pMw T lim w r) := by
  unfold pMw; split
  · exact pIn_fl hq (by omega) h
  · rename_i g
    match r, h, g with
    | .inl f, h, g => exact absurd rfl g
    | .inr q, h, g => exact pIn_ad (lim := lim) h (by have := pWd_1 g; omega)
theorem pIn_sk {c : Int} (h : pIn T r) : pIn T (pSk T lim c r) := by
  unfold pSk; split
  · exact h
  · rename_i g
    match r, h, g with
    | .inl f, h, g => exact absurd rfl g
    | .inr q, h, g => exact pIn_ad (lim := lim) h (by have := pSg_1 g; omega)
theorem pIn_nm {lo hi room : Int} (hq : sp_tq T lim) (h : pIn T r) : pIn T (pNm T lim lo hi room r) := by
  match r, h with
  | .inl f, h => exact h
  | .inr q, h =>
    have ha := tA_rg h.1 h.2 hq.2.2.1
    have eN : pNm T lim lo hi room (.inr q) = if tK T lim q ≠ 3 then .inl (1, tA T lim q) else if tV T q < lo ∨ hi < tV T q then .inl (2, tA T lim q) else if room < tV T q then .inl (4, tA T lim q) else .inr (tO T q) := rfl
    rw [eN]
    by_cases g1 : tK T lim q ≠ 3
    · rw [if_pos g1]; exact ⟨show (1 : Int) ≠ 0 by omega, show (1 : Int) ≤ 1 by omega, show (1 : Int) ≤ 4 by omega, ha⟩
    · rw [if_neg g1]
      by_cases g2 : tV T q < lo ∨ hi < tV T q
      · rw [if_pos g2]; exact ⟨show (2 : Int) ≠ 0 by omega, show (1 : Int) ≤ 2 by omega, show (2 : Int) ≤ 4 by omega, ha⟩
      · rw [if_neg g2]
        by_cases g3 : room < tV T q
        · rw [if_pos g3]; exact ⟨show (4 : Int) ≠ 0 by omega, show (1 : Int) ≤ 4 by omega, show (4 : Int) ≤ 4 by omega, ha⟩
        · rw [if_neg g3]; exact pIn_ad (lim := lim) h (by omega)
theorem pIn_sm {most : Int} (hq : sp_tq T lim) (h : pIn T r) : pIn T (pSm T lim most r) := by
  unfold pSm; exact pIn_nm hq (pIn_sk h)
theorem pIn_adw {w : Nat} (h : pIn T r) (g : pWd T lim w r ≠ 0) : pIn T (pAd T r) := by
  match r, h, g with
  | .inl f, h, g => exact absurd rfl g
  | .inr q, h, g => exact pIn_ad (lim := lim) h (by have := pWd_1 g; omega)
theorem lB_in (hq : sp_tq T lim) (h : pIn T r) : pIn T (lB T lim B r).2 := by
  have own : ∀ {m w k e r}, pIn T r → pIn T (lOwn T lim B m w k e r).2 := fun {m w k e r} h => by
    unfold lOwn; split
    · exact h
    · rename_i g; exact pIn_sm hq (pIn_adw h g)
  have tee : ∀ {m w k r}, pIn T r → pIn T (lTee T lim B m w k r).2 := fun {m w k r} h => by
    unfold lTee; split
    · exact own h
    · rename_i g; exact own (pIn_nm hq (pIn_adw h g))
  have on : ∀ {j w}, pWd T lim w r ≠ 0 → pIn T (lOn T lim B j r).2 := fun {j w} g => by
    unfold lOn; split
    · exact pIn_nm hq (pIn_adw h g)
    · exact pIn_fl hq (by omega) h
  unfold lB; split
  · split
    · split
      · exact pIn_fl hq (by omega) h
      · rename_i g; exact on g
    · rename_i g; exact on g
  · rename_i g
    unfold lP1 lP2 lP3
    exact tee (pIn_nm hq (pIn_nm hq (pIn_nm hq (pIn_adw h g))))
theorem wBlade (hw : sp_wZ z) : sp_wZ (yBlade z) := by
  have hq : sp_tq (zT z) 500 := sp_tq_z hw (by omega)
  have hI : bI (pBl z).1 := lBs_in hq 540 sp_B0 (.inr 0) sp_B0_I ⟨by omega, by omega⟩ (fun B r _ hr => pIn_ms hq (lB_in hq hr))
  unfold yBlade
  rcases hr : lBe (zT z) 500 (pBl z) with f | q
  · exact sp_wZ_TF hw _
  · have h3 : 3 ≤ (pBl z).1 4 0 := by
      refine Decidable.byContradiction fun g => ?_
      unfold lBe at hr
      rw [if_neg g] at hr
      match h2 : (pBl z).2, hr with
      | .inl f, hr => cases hr
      | .inr q, hr => cases hr
    obtain ⟨a1, a2, a3, a4, a5, a6, a7, a8, a9, a10⟩ := hw.2.2.1
    exact sp_wN' (sp_wZ_TF hw 0) ⟨bFill_ok hI h3, a2, a3, a4, a5, a6, a7, a8, a9, a10⟩
end SGBg
