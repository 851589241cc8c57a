/-! LEVEL 2: sentence(), both calls. -/
noncomputable section SGSg
variable {T : List Int} {lim : Int} {r : sp_rp} {a b : sp_ac} {s : sg_M}
theorem pWd_sg {w : Nat} {c : Int} (h : pSg T lim c r ≠ 0) : pWd T lim w r = 0 := by
  match r, h with
  | .inl f, h => rfl
  | .inr q, h =>
    have h1 := pSg_1 h
    show (if _ then _ else _) = _
    rw [if_neg (fun g => by have := g.1; omega)]
theorem pSg_wd {w : Nat} {c : Int} (h : pWd T lim w r ≠ 0) : pSg T lim c r = 0 := by
  match r, h with
  | .inl f, h => rfl
  | .inr q, h =>
    have h1 := pWd_1 h
    show (if _ then _ else _) = _
    rw [if_neg (fun g => by have := g.1; omega)]
theorem pIn_okw {q : Int} (H : sp_tM T lim (.inr q) s) : pIn T (.inr q) := H.2.1
theorem sMP_on {w : Int} (hq : sp_tq T lim) (hw : 0 ≤ w ∧ w ≤ 7) {n : Nat} {F : sp_ac → sp_rp → sp_ac × sp_rp} (hF : sFP T F) (hR : sMP T lim (w + 1) (fun s Q => g_mR (n + 1 + 1) 2 s Q) F) (hC : sMP T lim (w + 1) (fun s Q => g_mR (n + 1 + 1) 0 s Q) (sCo T lim F)) : sMP T lim w (fun s Q => g_mR (n + 1 + 1 + 1 + 1) 2 s Q) (sOn T lim F) := by
  intro s a q Q H hn hi h
  show g_mR (n + 1 + 1 + 1 + 1) 2 s Q
  rw [g_mR_2]
  unfold sOn at h
  refine tX12_one (dp := 0) (w := w) hq (by omega) H hn hi (fun t hF0 hp ht => ?_) (fun g0 => ?_)
  · rw [if_pos hp] at h
    dsimp only at h
    rw [hp] at h
    exact h t (fun c i z1 _ => hF0 c i (by omega)) ht (fun z => absurd rfl z)
  · rw [if_neg g0] at h
    have e1 := sR1_ok g0
    have h20 := e1.2.1
    have hi0 := hi.1
    have hu : sI (sUp a) := by
      obtain ⟨i1, i2, i3, i4, i5⟩ := hi
      refine ⟨?_, ?_, ?_, i4, i5⟩
      · show 0 ≤ a.1 + 1; omega
      · show a.1 + 1 ≤ 20; omega
      · show (a.2.1.length : Int) ≤ 2 * (a.1 + 1); omega
    have eul : (sUp a).2.1.length = a.2.1.length := rfl
    have hi3 := hi.2.2.1
    have hk2 : 2 ≤ tK T lim q := by
      rcases e1.2.2.2 with z | z | z
      · obtain ⟨w', hw'⟩ := sLf_w z
        have := (pWd_1 hw').1; omega
      · have := (pWd_1 z).1; omega
      · have := (pSg_1 z).1; omega
    unfold sBody
    rw [hn.2.1]
    refine ⟨by omega, fun s22 e22 => ?_⟩
    have a22 : s22 64 60 = w := by rw [e22, sg_upN _ (by omega)]; exact hn.2.2
    rw [a22]
    refine ⟨by omega, fun s26 e26 => ?_⟩
    have f26 : ∀ c i, (c = 64 → i ≠ 59 ∧ i ≠ 60) → s26 c i = s c i := fun c i z => by rw [e26, sg_upN _ (by omega), e22, sg_upN _ (by omega)]
    refine tX12_adv hq (sp_tM_kp H (fun c i z => f26 c i (by omega))) hk2 (fun t ft _ ht => ?_)
    have nt : sp_nA t (sUp a) (w + 1) := by
      refine ⟨?_, ?_, ?_⟩
      · rw [ft 64 58 (by omega), f26 64 58 (by omega)]; exact hn.1
      · rw [ft 64 59 (by omega), e26, sg_upN _ (by omega), e22, sg_upS]; rfl
      · rw [ft 64 60 (by omega), e26, sg_upS]
    have Ft : ∀ c i, (c = 64 → i < 5 ∨ (13 < i ∧ i ≠ 59 ∧ i ≠ 60)) → t c i = s c i := fun c i z => by rw [ft c i (by omega)]; exact f26 c i (by omega)
    have e0 : pAd T (.inr q) = .inr (tO T q) := rfl
    have hin := ht.2.1
    -- the end of all ways
    have fin : ∀ (u : Int) (t2 : sg_M) (p : sp_ac × sp_rp), u = pOk p.2 → (∀ t3, sp_wF s t3 → sp_tM T lim p.2 t3 → (pOk p.2 ≠ 0 → sp_nR s t3 a p.1 w) → Q (pOk p.2) t3) → sp_wF t t2 → sp_tM T lim p.2 t2 → (pOk p.2 ≠ 0 → t2 64 58 = p.1.2.1.length ∧ t2 64 59 = p.1.1 ∧ t2 64 61 = (p.1.2.1.length : Int) - 1 ∧ (∀ i : Int, 0 ≤ i → i < 4 * a.2.1.length → t2 87 i = t 87 i) ∧ p.1.1 ≤ 20 ∧ ∃ S, sRes a p.1 S ∧ sEv (t2 87) p.1.2.1.length S) →
        sg_R ((t2 64 60) - 1) ∧ ∀ s37 : sg_M, s37 = sg_up t2 64 60 ((t2 64 60) - 1) → Q u s37 := by
      intro u t2 p eu hp f2 h2 r2
      have a2 : t2 64 60 = w + 1 := by rw [f2 64 60 (by omega) (by omega)]; exact nt.2.2
      rw [a2]
      refine ⟨by omega, fun s37 e37 => ?_⟩
      have f37 : ∀ c i, (c = 64 → i ≠ 60) → s37 c i = t2 c i := fun c i z => by rw [e37, sg_upN _ (by omega)]
      rw [eu]
      refine hp s37 (fun c i z1 z2 => ?_) (sp_tM_kp h2 (fun c i z => f37 c i (by omega))) (fun z => ?_)
      · by_cases c60 : c = 64 ∧ i = 60
        · rw [c60.1, c60.2, e37, sg_upS, hn.2.2]; omega
        · rw [f37 c i (by omega), f2 c i z1 z2]; exact Ft c i (by omega)
      · obtain ⟨b1, b2, b3, b4, b5, S, b6, b7⟩ := r2 z
        refine ⟨by rw [f37 64 61 (by omega)]; exact b3, ⟨by rw [f37 64 58 (by omega)]; exact b1, by rw [f37 64 59 (by omega)]; exact b2, by rw [e37, sg_upS]; omega⟩, fun i q1 q2 => ?_, b5, S, b6, sEv_kp b7 (fun i _ _ => f37 87 i (by omega))⟩
        rw [f37 87 i (by omega), b4 i q1 q2]; exact Ft 87 i (by omega)
    refine ⟨fun g40 => ⟨fun g19 => ?_, fun g19 => ?_⟩, fun g40 => ?_⟩
    · -- a leaf
      rw [if_neg (fun z => z g19), if_neg (fun z => z g40)] at h
      have hl : sLf T lim (.inr q) ≠ -1 := by
        rcases e1.2.2.2 with z | z | z
        · exact z
        · exact absurd g19 z
        · exact absurd g40 z
      have hlr := sLf_rg (T := T) (lim := lim) (.inr q)
      refine ⟨fun g6 => ?_, fun g6 => ?_⟩
      · have hl5 : sLf T lim (.inr q) ≤ 5 := by
          refine Decidable.byContradiction fun z => ?_
          unfold sPl at g6
          by_cases c6 : sLf T lim (.inr q) = 6
          · rw [if_pos c6] at g6; omega
          · rw [if_neg c6] at g6
            by_cases c7 : sLf T lim (.inr q) = 7
            · rw [if_pos c7] at g6; omega
            · rw [if_neg c7, if_pos (by omega)] at g6; omega
        rw [if_pos (by omega), e0] at h
        rw [if_pos ⟨by omega, hl5⟩]
        generalize hL : sLf T lim (.inr q) = L at *
        generalize tO T q = p at *
        have eM : pCm T lim (.inr p) = if tK T lim p = 4 ∧ 60 ≤ tS T p ∧ tS T p ≤ 62 then .inr (tO T p) else .inl (1, tA T lim p) := rfl
        have eV : pCv T lim (.inr p) = if tK T lim p = 4 ∧ 60 ≤ tS T p ∧ tS T p ≤ 62 then tS T p else 0 := rfl
        have j33 : tK T lim p = 4 ∧ 60 ≤ tS T p ∧ tS T p ≤ 62 → fX12_readCompare_j33 t (16 + L) (fun u32 s34 => sg_R ((s34 64 60) - 1) ∧ ∀ s37 : sg_M, s37 = sg_up s34 64 60 ((s34 64 60) - 1) → Q u32 s37) := by
          intro c4
          rw [if_pos c4] at eM eV
          rw [eM, eV] at h
          have e9 : t 64 9 = tS T p := ht.2.2.2.2.2.2.2.2.2.1 c4.1
          refine tX12_adv hq ht (by omega) (fun t1 f1 _ h1 => tX12_readNumber hq h1 (fun t2 f2 h2 v2 => ?_))
          have F2 : sp_wF t t2 := fun c i z1 z2 => by rw [f2 c i (by omega)]; exact f1 c i (by omega)
          rcases hp : pNm T lim 0 9999 9999 (.inr (tO T p)) with f | q2
          · rw [hp] at h h2
            refine ⟨fun z => absurd rfl z, fun _ => fin 0 t2 _ rfl h F2 h2 (fun z => absurd rfl z)⟩
          · rw [hp] at h h2 v2
            have v2 := v2 rfl
            have a58 : t2 64 58 = (a.2.1.length : Int) := by rw [f2 64 58 (by omega), f1 64 58 (by omega)]; exact nt.1
            refine ⟨fun _ => tX12_lays (n := a.2.1.length) a58 (by omega) (fun t3 f3 c58 c0 c1 c2 c3 s13 e13 => ?_), fun z => absurd (show (1 : Int) = 0 from z) (by omega)⟩
            have f13 : ∀ c i, (c = 64 → i ≠ 61) → s13 c i = t3 c i := fun c i z => by rw [e13, sg_upN _ (by omega)]
            have el : (sAd (sUp a) L (tS T p) (pNv T lim 0 9999 9999 (.inr (tO T p)))).2.1.length = a.2.1.length + 1 := by
              show (a.2.1 ++ [L]).length = _
              simp
            refine fin 1 s13 _ rfl h (fun c i z1 z2 => by rw [f13 c i (by omega), f3 c i (by omega) (by omega)]; exact F2 c i z1 z2) (sp_tM_kp h2 (fun c i z => by rw [f13 c i (by omega), f3 c i (by omega) (by omega)])) (fun _ => ?_)
            dsimp only
            refine ⟨?_, ?_, ?_, fun i q1 q2 => ?_, ?_, _, sRes_leaf (by omega), ?_⟩
            · rw [el, f13 64 58 (by omega), c58]; omega
            · rw [f13 64 59 (by omega), f3 64 59 (by omega) (by omega), f2 64 59 (by omega), f1 64 59 (by omega)]; exact nt.2.1
            · rw [el, e13, sg_upS]; omega
            · rw [f13 87 i (by omega), f3 87 i (by omega) (by omega), f2 87 i (by omega)]; exact f1 87 i (by omega)
            · show a.1 + 1 ≤ 20; omega
            · rw [el]
              refine sEv_kp (h := t3 87) (sEv_leaf (by omega) (by omega) (by rw [c0, if_pos (by omega)]) (fun _ => ⟨c1, by rw [c2]; exact v2, by rw [c3]; exact e9, c4.2.1, c4.2.2⟩)) (fun i _ _ => f13 87 i (by omega))
        unfold fX12_readCompare
        refine tX12_isSign ht ⟨fun c60 => j33 ?_, fun c60 => tX12_isSign ht ⟨fun c61 => j33 ?_, fun c61 => tX12_isSign ht ⟨fun c62 => j33 ?_, fun c62 => ?_⟩⟩⟩
        · have := pSg_1 c60; omega
        · have := pSg_1 c61; omega
        · have := pSg_1 c62; omega
        · have no : ¬ (tK T lim p = 4 ∧ 60 ≤ tS T p ∧ tS T p ≤ 62) := by
            intro z
            have g1 : ∀ c, pSg T lim c (.inr p) = 0 → tS T p ≠ c := fun c hc hS => by
              have : pSg T lim c (.inr p) = 1 := by
                show (if _ then _ else _) = _
                rw [if_pos ⟨z.1, hS⟩]
              omega
            have := g1 60 c60
            have := g1 61 c61
            have := g1 62 c62
            omega
          rw [if_neg no] at eM
          rw [eM] at h
          exact tX12_bad hq ht (by omega) (fun _ => rfl) (fun t2 f2 h2 => fin 0 t2 _ rfl h (fun c i z1 z2 => f2 c i (by omega)) h2 (fun z => absurd rfl z))
      · have hl6 : 6 ≤ sLf T lim (.inr q) := by
          refine Decidable.byContradiction fun z => g6 ?_
          unfold sPl
          rw [if_neg (by omega), if_neg (by omega), if_neg (by omega)]
        rw [if_neg (by omega), e0] at h
        generalize hL : sLf T lim (.inr q) = L at *
        refine tX12_lays (n := a.2.1.length) nt.1 (by omega) (fun t3 f3 c58 c0 c1 c2 c3 s13 e13 => ?_)
        have f13 : ∀ c i, (c = 64 → i ≠ 61) → s13 c i = t3 c i := fun c i z => by rw [e13, sg_upN _ (by omega)]
        have el : (sAd (sUp a) L 0 0).2.1.length = a.2.1.length + 1 := by
          show (a.2.1 ++ [L]).length = _
          simp
        refine fin 1 s13 _ rfl h (fun c i z1 z2 => by rw [f13 c i (by omega)]; exact f3 c i (by omega) (by omega)) (sp_tM_kp ht (fun c i z => by rw [f13 c i (by omega), f3 c i (by omega) (by omega)])) (fun _ => ?_)
        dsimp only
        refine ⟨?_, ?_, ?_, fun i q1 q2 => ?_, ?_, _, sRes_leaf (by omega), ?_⟩
        · rw [el, f13 64 58 (by omega), c58]; omega
        · rw [f13 64 59 (by omega), f3 64 59 (by omega) (by omega)]; exact nt.2.1
        · rw [el, e13, sg_upS]; omega
        · rw [f13 87 i (by omega)]; exact f3 87 i (by omega) (by omega)
        · show a.1 + 1 ≤ 20; omega
        · rw [el]
          refine sEv_kp (h := t3 87) (sEv_leaf (by omega) (by omega) (by rw [c0, if_neg (by omega)]) (fun z => absurd z (by omega))) (fun i _ _ => f13 87 i (by omega))
    · -- not
      rw [if_pos g19, e0] at h
      show g_mR (n + 1 + 1 + 1) 3 t _
      rw [g_mR_3]
      refine hR t (sUp a) (tO T q) _ ht nt hu (fun t2 f2 h2 r2 => ?_)
      rcases hp : (F (sUp a) (.inr (tO T q))).2 with f | q2
      · rw [hp] at h h2
        exact ⟨fun z => absurd rfl z, fun _ => fin 0 t2 (sAd (F (sUp a) (.inr (tO T q))).1 9 0 0, .inl f) rfl h f2 h2 (fun z => absurd rfl z)⟩
      · rw [hp] at h h2 r2
        obtain ⟨m2, m1, m3, m4, S, m5, m6⟩ := r2 (show (1 : Int) ≠ 0 by omega)
        have hr := sRes_I hu m5 m4
        obtain ⟨i1, i2, i3, i4, i5⟩ := hr.1
        have hr2 := hr.2.2.2
        generalize (F (sUp a) (.inr (tO T q))).1 = c at *
        refine ⟨fun _ => tX12_lays (n := c.2.1.length) m1.1 (by omega) (fun t3 f3 c58 c0 c1 c2 c3 s13 e13 => ?_), fun z => absurd (show (1 : Int) = 0 from z) (by omega)⟩
        have f13 : ∀ c i, (c = 64 → i ≠ 61) → s13 c i = t3 c i := fun c i z => by rw [e13, sg_upN _ (by omega)]
        have el : (sAd c 9 0 0).2.1.length = c.2.1.length + 1 := by
          show (c.2.1 ++ [9]).length = _
          simp
        refine fin 1 s13 (sAd c 9 0 0, .inr q2) rfl h (fun c' i z1 z2 => by rw [f13 c' i (by omega), f3 c' i (by omega) (by omega)]; exact f2 c' i z1 z2) (sp_tM_kp h2 (fun c' i z => by rw [f13 c' i (by omega), f3 c' i (by omega) (by omega)])) (fun _ => ?_)
        dsimp only
        refine ⟨?_, ?_, ?_, fun i q1 q2 => ?_, m4, _, sRes_not m5, ?_⟩
        · rw [el, f13 64 58 (by omega), c58]; omega
        · rw [f13 64 59 (by omega), f3 64 59 (by omega) (by omega)]; exact m1.2.1
        · rw [el, e13, sg_upS]; omega
        · rw [f13 87 i (by omega), f3 87 i (by omega) (by omega)]; exact m3 i q1 (by rw [eul]; exact q2)
        · rw [el]
          refine sEv_kp (h := t3 87) (sEv_not (by omega) (by omega) (sEv_kp m6 (fun i z1 z2 => f3 87 i (by omega) (by omega))) c0 (by rw [c1]; exact m2)) (fun i _ _ => f13 87 i (by omega))
    · -- a bracket
      have g19 : pWd T lim 19 (.inr q) = 0 := pWd_sg g40
      rw [if_neg (fun z => z g19), if_pos g40, e0] at h
      show g_mR (n + 1 + 1 + 1) 4 t _
      rw [g_mR_4]
      refine hC t (sUp a) (tO T q) _ ht nt hu (fun t2 f2 h2 r2 => ?_)
      rcases hp : (sCo T lim F (sUp a) (.inr (tO T q))).2 with f | q2
      · rw [hp] at h h2
        exact ⟨fun z => absurd rfl z, fun _ => fin 0 t2 _ rfl h f2 h2 (fun z => absurd rfl z)⟩
      · rw [hp] at h h2 r2
        obtain ⟨m2, m1, m3, m4, S, m5, m6⟩ := r2 (show (1 : Int) ≠ 0 by omega)
        generalize (sCo T lim F (sUp a) (.inr (tO T q))).1 = c at *
        unfold pMs at h
        refine ⟨fun _ => tX12_isSign h2 ⟨fun c41 => ?_, fun c41 => ?_⟩, fun z => absurd (show (1 : Int) = 0 from z) (by omega)⟩
        · rw [if_neg c41] at h
          have h4 := pSg_1 c41
          refine tX12_adv hq h2 (by omega) (fun t3 f3 _ h3 => fin 1 t3 _ rfl h (fun c' i z1 z2 => by rw [f3 c' i (by omega)]; exact f2 c' i z1 z2) h3 (fun _ => ?_))
          dsimp only
          refine ⟨?_, ?_, ?_, fun i q1 q2 => ?_, m4, _, sRes_up m5, sEv_kp m6 (fun i _ _ => f3 87 i (by omega))⟩
          · rw [f3 64 58 (by omega)]; exact m1.1
          · rw [f3 64 59 (by omega)]; exact m1.2.1
          · rw [f3 64 61 (by omega)]; exact m2
          · rw [f3 87 i (by omega)]; exact m3 i q1 (by rw [eul]; exact q2)
        · rw [if_pos c41] at h
          exact tX12_bad hq h2 (by omega) (fun _ => rfl) (fun t3 f3 h3 => fin 0 t3 _ rfl h (fun c' i z1 z2 => by rw [f3 c' i (by omega)]; exact f2 c' i z1 z2) h3 (fun z => absurd rfl z))
theorem sMP_one (hq : sp_tq T lim) : ∀ (m n : Nat) (w : Int), m ≤ 8 → w = 8 - m → 4 * m + 1 ≤ n → sMP T lim w (fun s Q => g_mR n 2 s Q) (sOne T lim m)
  | 0, n, w, hm, hw, hn => by
    obtain ⟨n', rfl⟩ : ∃ n', n = n' + 1 := ⟨n - 1, by omega⟩
    intro s a q Q H hna hi h
    show g_mR (n' + 1) 2 s Q
    rw [g_mR_2]
    have g0 : pOk (sR1 T lim a 1 (.inr q)) = 0 := Decidable.byContradiction fun z => by have := (sR1_ok z).2.2.1; omega
    refine tX12_one (dp := 1) (w := w) hq (by omega) H hna hi (fun t hF0 hp ht => ?_) (fun z => absurd g0 z)
    have h' := h t (fun c i z1 _ => hF0 c i (by omega)) ht (fun z => absurd g0 z)
    rw [show pOk (sOne T lim 0 a (.inr q)).2 = 0 from g0] at h'
    exact h'
  | m + 1, n, w, hm, hw, hn => by
    obtain ⟨n', rfl⟩ : ∃ n', n = n' + 1 + 1 + 1 + 1 := ⟨n - 4, by omega⟩
    have hF := sFP_one (T := T) (lim := lim) hq m
    have k1 := sMP_one hq m (n' + 1 + 1) (w + 1) (by omega) (by omega) (by omega)
    have k2 := sMP_one hq m n' (w + 1) (by omega) (by omega) (by omega)
    exact sMP_on hq (by omega) hF k1 (sMP_co hq hF k2)
end SGSg
noncomputable section SGSh
variable {La : sg_L} {s : sg_M} {z : sp_Z}
def pSn (z : sp_Z) : sp_ac × sp_rp := sCo (zT z) 200 (sOne (zT z) 200 8) (0, [], [], []) (.inr 0)
def lSe (T : List Int) (lim : Int) (r : sp_rp) : sp_rp := if pGo T lim r = 0 then r else pFl T lim 1 r
/-- what the steps mean -/
def sMn (a : sp_ac) : (Int → Int) → Bool := fun e => (sp_rn e sp_cm (sp_3 a.2.1 a.2.2.1 a.2.2.2) []).headD false
def sp_yC (N : sp_N) (S : (Int → Int) → Bool) : sp_N := (nB N, (nHa N, nHb N), (nKa N, nKb N), nS N, some S)
def aSent (z : sp_Z) : Int := match lSe (zT z) 200 (pSn z).2 with
  | .inl f => -1 - f.2
  | .inr _ => (pSn z).1.1
def ySent (z : sp_Z) : sp_Z := match lSe (zT z) 200 (pSn z).2 with
  | .inl f => zTF z f.1
  | .inr _ => zN' (zTF z 0) (sp_yC (zN z) (sMn (pSn z).1))
theorem sI0 : sI (0, [], [], []) := ⟨by show (0 : Int) ≤ 0; omega, by show (0 : Int) ≤ 20; omega, by show ((0 : Nat) : Int) ≤ 2 * 0; omega, rfl, rfl⟩
theorem lSe_inr {T : List Int} {lim q : Int} {r : sp_rp} (h : lSe T lim r = .inr q) : r = .inr q := by
  unfold lSe at h
  split at h
  · exact h
  · match r, h with
    | .inl f, h => cases h
    | .inr p, h => cases h
theorem sMn_is {a : sp_ac} {S : (Int → Int) → Bool} (h : sRes (0, [], [], []) a S) (e : Int → Int) : sp_rn e sp_cm (sp_3 a.2.1 a.2.2.1 a.2.2.2) [] = [S e] ∧ sMn a e = S e := by
  obtain ⟨K, G, M, e1, e2, e3, h1, h2, h3, h4, h5, h6, h7⟩ := h
  have e1 : a.2.1 = K := e1
  have e2 : a.2.2.1 = G := e2
  have e3 : a.2.2.2 = M := e3
  have k := h7 e [] []
  rw [List.append_nil] at k
  unfold sMn
  rw [e1, e2, e3, k]
  exact ⟨rfl, rfl⟩
theorem pSn_ok (hw : sp_wZ z) {q : Int} (h : (pSn z).2 = .inr q) : (pSn z).1.1 ≤ 20 ∧ 1 ≤ (pSn z).1.1 ∧ sI (pSn z).1 ∧ ((pSn z).1.2.1.length : Int) ≤ 40 ∧ (sp_lf (pSn z).1.2.1 : Int) ≤ 20 ∧ (∀ x, x ∈ (pSn z).1.2.1 → 0 ≤ x ∧ x ≤ 11) ∧ ∃ S, sRes (0, [], [], []) (pSn z).1 S := by
  have hq : sp_tq (zT z) 200 := sp_tq_z hw (by omega)
  have hF := sFP_co (T := zT z) (lim := 200) (sFP_one (T := zT z) (lim := 200) hq 8)
  have hin : pIn (zT z) (.inr 0) := ⟨by omega, by omega⟩
  obtain ⟨h20, S, hs⟩ := hF.2.2 (0, [], [], []) 0 hin sI0 (by
    show pOk (pSn z).2 ≠ 0
    rw [h]; exact (show (1 : Int) ≠ 0 by omega))
  change (pSn z).1.1 ≤ 20 at h20
  change sRes (0, [], [], []) (pSn z).1 S at hs
  have hr := sRes_I sI0 hs h20
  obtain ⟨K, G, M, e1, e2, e3, h1, h2, h3, h4, h5, h6, h7⟩ := id hs
  have e1 : (pSn z).1.2.1 = K := e1
  have h5 : (sp_lf K : Int) ≤ (pSn z).1.1 - 0 := h5
  have hr3 : (0 : Int) + 1 ≤ (pSn z).1.1 := hr.2.2.1
  refine ⟨h20, by omega, hr.1, by have := hr.2.1; omega, by rw [e1]; omega, by rw [e1]; exact h6, S, hs⟩
theorem k1Sent {Q : Int → sg_L → sg_M → Prop} (h89 : 89 ≤ La.1) (hw : sp_wZ z) (H : sp_RC La s z) (h : ∀ La' s', sg_X La La' → La'.1 ≤ La.1 + 7 → sp_FM s s' → sp_RC La' s' (ySent z) → Q (aSent z) La' s') : fX11_sentence La s Q := by
  have hq : sp_tq (zT z) 200 := sp_tq_z hw (by omega)
  intro q1 La2 hL2 s3 h3 o4 h4
  subst hL2; subst h3; subst h4
  refine tX5_new (fun La13 s14 X13 n13 k0 k13 k4 f14 a3 a1 => ?_)
  have hT14 : s14 1 1 = (zT z).length ∧ sg_ar (s14 2) 0 (zT z) := sp_kT H.1 (fun c i g => f14 c i (by omega))
  refine tX9_open hq hT14 (fun t1 f1 h1 => ?_)
  have ln : ∀ k : Nat, k = 2 ∨ k = 4 ∨ k = 6 → sg_ln La13 ((La.1 : Int) + k) = 40 := fun k hk => by
    unfold sg_ln
    rw [show ((La.1 : Int) + k).toNat = La.1 + k by omega, k13 k hk]; rfl
  have hz1 : sp_cZ La13 t1 La.1 := by
    refine ⟨⟨ln 2 (by omega), ln 4 (by omega), ln 6 (by omega)⟩, ?_, ?_, ?_⟩
    · rw [f1 _ 1 (by omega), a1 1 (by omega)]; omega
    · rw [f1 _ 1 (by omega), a1 3 (by omega)]; omega
    · rw [f1 _ 1 (by omega), a1 5 (by omega)]; omega
  have hA1 : sp_cA t1 La.1 (0, [], [], []) := by
    refine ⟨by rw [f1 _ 3 (by omega)]; exact a3, ⟨?_, trivial⟩, ⟨?_, trivial⟩, ⟨?_, trivial⟩⟩
    · rw [f1 _ 1 (by omega)]; exact a1 1 (by omega)
    · rw [f1 _ 1 (by omega)]; exact a1 3 (by omega)
    · rw [f1 _ 1 (by omega)]; exact a1 5 (by omega)
  have hF := sFP_one (T := zT z) (lim := 200) hq 8
  have hCo := sCP_co (La := La13) (o := (La.1 : Int)) (d := 1) (by omega) hq (n := 58) hF (sCP_one (by omega) hq 8 58 1 (by omega) (by omega) (by omega))
  unfold fX5_readFrom
  refine hCo t1 (0, [], [], []) (.inr 0) _ h1 hz1 (fun _ => ⟨hA1, sI0⟩) (fun t2 f2 h2 z2 c2 => ?_)
  change sp_tC (zT z) 200 (pSn z).2 t2 at h2
  change pOk (pSn z).2 ≠ 0 → sp_cA t2 La.1 (pSn z).1 at c2
  have f : ∀ c i : Int, c ≠ 3 → c < La.1 → t2 c i = s c i := fun c i w1 w2 => by rw [f2 c i (by omega) (by omega), f1 c i (by omega)]; exact f14 c i w2
  -- the end of the text
  have fin : ∀ t3, (∀ c i, (c = 3 → i < 2) → t3 c i = t2 c i) → sp_tC (zT z) 200 (lSe (zT z) 200 (pSn z).2) t3 → (((t3 3 6) ≠ 0 → fX11_closeText t3 (t3 La.1 3) (fun u27 s29 => Q u27 La13 s29)) ∧ ((t3 3 6) = 0 → ∀ s31 : sg_M, s31 = sg_up t3 4 2 La.1 → fX11_closeText s31 (s31 La.1 3) (fun u34 s36 => Q u34 La13 s36))) := by
    intro t3 f3 h3
    have ok := sp_tC_ok h3
    have F3 : ∀ c i : Int, c ≠ 3 → c < La.1 → t3 c i = s c i := fun c i w1 w2 => by rw [f3 c i (by omega)]; exact f c i w1 w2
    unfold aSent ySent at h
    rcases hr : lSe (zT z) 200 (pSn z).2 with fl | q
    · rw [hr] at h h3 ok
      refine ⟨fun g => ?_, fun g => absurd rfl (ok.mp g)⟩
      refine tX11_closeText (r := .inl fl) (N := zN z) H X13 h89 h3 hw.1 (fun c i w1 _ w3 => F3 c i w1 w3) (fun zz => absurd rfl zz) (fun u fu hu => ?_)
      exact h La13 u X13 (by omega) (fun c i w1 w2 => by rw [fu c i w1]; exact F3 c i (by omega) (by omega)) hu
    · have hp := lSe_inr hr
      obtain ⟨p20, p1, pI, p40, plf, pk, S, pS⟩ := pSn_ok hw hp
      have cA := c2 (by rw [hp]; exact (show (1 : Int) ≠ 0 by omega))
      rw [hr] at h h3 ok
      refine ⟨fun g => absurd (ok.mpr (show (1 : Int) ≠ 0 by omega)) g, fun g s31 e31 => ?_⟩
      have g31 : ∀ c i, (c = 4 → i ≠ 2) → s31 c i = t3 c i := fun c i zz => by rw [e31, sg_upN _ (by omega)]
      have cA3 : sp_cA s31 La.1 (pSn z).1 := sp_cA_kp cA (fun c i w1 w2 => by rw [g31 c i (by omega)]; exact f3 c i (by omega))
      rw [cA3.1]
      refine tX11_closeText (r := .inr q) (N := sp_yC (zN z) (sMn (pSn z).1)) H X13 h89 (sp_tC_kp h3 (fun c i zz => g31 c i (by omega))) hw.1 (fun c i w1 w2 w3 => ?_) (fun _ u fu => ?_) (fun u fu hu => ?_)
      · have w4 : c = 4 → 2 < i := fun zz => (w2 zz).resolve_right (show ¬ (1 : Int) = 0 by omega)
        rw [g31 c i (by omega)]; exact F3 c i w1 w3
      · have H' := H
        rw [sp_RC_eq] at H'
        obtain ⟨-, -, ⟨n1, n2, n3, n4, n5⟩, hIm, -⟩ := H'
        have f' : ∀ c i : Int, c ≠ 0 → c ≠ 1 → c ≠ 3 → c ≠ 58 → c ≠ 62 → (c = 4 → i ≠ 2) → c < La.1 → u c i = s c i := fun c i w1 w2 w3 w4 w5 w6 w7 => by rw [fu c i w1 w2 w4 w5, g31 c i w6]; exact F3 c i w3 w7
        have f42 : u 4 2 = (La.1 : Int) := by rw [fu 4 2 (by omega) (by omega) (by omega) (by omega), e31, sg_upS]
        have hk : sp_kp La s u := ⟨fun c i hc => f' c i (by omega) (by omega) (by omega) (by omega) (by omega) (by omega) (by omega), fun j _ _ => Or.inl (f' 26 j (by omega) (by omega) (by omega) (by omega) (by omega) (by omega) (by omega))⟩
        have cAu : sp_cA u La.1 (pSn z).1 := sp_cA_kp cA3 (fun c i w1 w2 => fu c i (by omega) (by omega) (by omega) (by omega))
        have h0 := pI.2.2.2
        refine ⟨?_, ?_, ?_, sp_cK_same n4 X13 (by omega) (by omega) (fun c i q1 q2 => f' c i (by omega) (by omega) (by omega) (by omega) (by omega) (by omega) (by omega)), sp_cF_same n5 X13 h89 hk (fun i => f' 25 i (by omega) (by omega) (by omega) (by omega) (by omega) (by omega) (by omega))⟩
        · rw [f' 4 0 (by omega) (by omega) (by omega) (by omega) (by omega) (by omega) (by omega)]; exact sp_cBl_same n1 X13 h89 hk
        · rw [f' 4 1 (by omega) (by omega) (by omega) (by omega) (by omega) (by omega) (by omega)]; exact sp_cH_same n2 X13 h89 hk
        · rw [f42]
          refine ⟨⟨?_, Or.inr ⟨by omega, by omega, fun k k0' k1 => ?_⟩⟩, ln 2 (by omega), ln 4 (by omega), ln 6 (by omega), Or.inr ⟨by rw [cAu.1]; exact p1, sMn (pSn z).1, (pSn z).1.2.1, (pSn z).1.2.2.1, (pSn z).1.2.2.2, rfl, by omega, h0.1, h0.2, cAu.2.1, cAu.2.2.1, cAu.2.2.2, pk, by omega, fun e => ?_⟩⟩
          · rw [Int.toNat_natCast]; exact k0
          · rw [f' 26 k (by omega) (by omega) (by omega) (by omega) (by omega) (by omega) (by omega)]
            intro q
            rcases hIm.1 k k0' k1 with ⟨-, q2⟩ | ⟨q1, q2, q3, -⟩
            · omega
            · right; omega
          · have := sMn_is pS e
            rw [this.1, this.2]
      · exact h La13 u X13 (by omega) (fun c i w1 w2 => by rw [fu c i w1, g31 c i (by omega)]; exact F3 c i (by omega) (by omega)) hu
  refine tX9_isGoingOn h2 ⟨fun g => ?_, fun g => ?_⟩
  · have e : lSe (zT z) 200 (pSn z).2 = (pSn z).2 := by unfold lSe; rw [if_pos g]
    exact fin t2 (fun _ _ _ => rfl) (by rw [e]; exact h2)
  · have e : lSe (zT z) 200 (pSn z).2 = pFl (zT z) 200 1 (pSn z).2 := by unfold lSe; rw [if_neg g]
    exact tX9_fail hq h2 (by omega) (fun t3 f3 h3 => fin t3 f3 (by rw [e]; exact h3))
theorem tq_csL {Q : Int → sg_M → Prop} {s0 : sg_M} (h : ∀ t, (∀ c i, (c = 66 → i < 1800 ∨ 2040 ≤ i) → t c i = s0 c i) → (∀ i, 0 ≤ i → i < 240 → t 66 (1800 + i) = s0 87 i) → Q (t 64 59) t) :
    ∀ (r : Nat) (j : Int) (t : sg_M), 0 ≤ j → j + r = 240 → (∀ c i, (c = 66 → i < 1800 ∨ 2040 ≤ i) → t c i = s0 c i) → (∀ i, 0 ≤ i → i < j → t 66 (1800 + i) = s0 87 i) → fX12_sentence_L79 Q (r + 1) t j
  | 0, j, t, h0, hj, hF, hv => by
    rw [fX12_sentence_L79]
    exact ⟨fun _ => h t hF (fun i q1 q2 => hv i q1 (by omega)), fun c => absurd (show (240 : Int) ≤ j by omega) c⟩
  | r + 1, j, t, h0, hj, hF, hv => by
    rw [fX12_sentence_L79]
    refine ⟨fun c => absurd c (by omega), fun _ => ⟨by omega, by omega, fun s28 e28 => ⟨by omega, ?_⟩⟩⟩
    refine tq_csL h r (j + 1) s28 (by omega) (by omega) (fun c i q => by rw [e28, sg_upN _ (by omega)]; exact hF c i q) (fun i q1 q2 => ?_)
    by_cases hi : i = j
    · rw [hi, e28, sg_upS]; exact hF 87 j (by omega)
    · rw [e28, sg_upN _ (by omega)]; exact hv i q1 (by omega)
theorem k2Sent {Q : Int → sg_M → Prop} (hw : sp_wZ z) (H : sp_RM s z) (h : ∀ s', sp_FC s s' → sp_RM s' (ySent z) → Q (aSent z) s') : fX12_sentence s Q := by
  obtain ⟨H0, h20, F0, -⟩ := sp_go H
  have hq : sp_tq (zT z) 200 := sp_tq_z hw (by omega)
  refine tX12_begin H hq (fun t1 g20 f1 g2 h1 => ?_)
  generalize sp_ly (sg_up s 64 0 0) = m0 at *
  intro s2 e2 s4 e4 s6 e6
  have f6 : ∀ c i, (c = 64 → i < 58 ∨ 60 < i) → s6 c i = t1 c i := fun c i w1 => by
    rw [e6, sg_upN _ (by omega), e4, sg_upN _ (by omega), e2, sg_upN _ (by omega)]
  have N6 : sp_nA s6 (0, [], [], []) 0 := by
    refine ⟨?_, ?_, ?_⟩
    · rw [e6, sg_upN _ (by omega), e4, sg_upN _ (by omega), e2, sg_upS]; rfl
    · rw [e6, sg_upN _ (by omega), e4, sg_upS]
    · rw [e6, sg_upS]
  have H6 : sp_tM (zT z) 200 (.inr 0) s6 := sp_tM_kp h1 (fun c i w => f6 c i (by omega))
  have hl := hw.1
  have fr : ∀ u, sp_wF s6 u → ∀ c i, (c = 64 → i < 3 ∨ (13 < i ∧ (i < 58 ∨ 61 < i))) → (c = 64 → i ≠ 0 ∧ i ≠ 2) → c ≠ 87 → u c i = m0 c i := fun u hu c i w1 w2 w3 => by
    rw [hu c i (by omega) w3, f6 c i (by omega)]; exact f1 c i (by omega) w2
  have f2 : ∀ u, sp_wF s6 u → u 64 2 = 0 := fun u hu => by rw [hu 64 2 (by omega) (by omega), f6 64 2 (by omega)]; exact g2
  have hF := sFP_one (T := zT z) (lim := 200) hq 8
  have hCo := sMP_co (w := 0) hq (n := 58) hF (sMP_one hq 8 58 0 (by omega) (by omega) (by omega))
  have fl : ∀ f u, lSe (zT z) 200 (pSn z).2 = .inl f → sp_wF s6 u → sp_tM (zT z) 200 (.inl f) u → sg_R ((-1) - (u 64 11)) ∧ Q ((-1) - (u 64 11)) u := by
    intro f u hr hu ht
    unfold aSent ySent at h
    rw [hr] at h
    have hf := ht.2.1
    obtain ⟨-, -, -, hf4, hf5⟩ := hf
    have e11 : u 64 11 = f.2 := ht.2.2.2
    rw [e11]
    exact ⟨by omega, h u (fun c i zc => by rw [fr u hu c i (by omega) (by omega) (by omega)]; exact F0 c i zc) (sp_RM_fl (f := f) H0 h20 (fun c i w1 w2 w3 w4 w5 w6 => fr u hu c i (by omega) w2 w6) (f2 u hu) ht.2.2.1)⟩
  refine hCo s6 (0, [], [], []) 0 _ H6 N6 sI0 (fun t ft ht rt => ?_)
  change sp_tM (zT z) 200 (pSn z).2 t at ht
  change pOk (pSn z).2 ≠ 0 → sp_nR s6 t (0, [], [], []) (pSn z).1 0 at rt
  show ((pOk (pSn z).2 ≠ 0 → _) ∧ (pOk (pSn z).2 = 0 → _))
  rcases hp : (pSn z).2 with f | q
  · rw [hp] at ht
    exact ⟨fun w => absurd rfl w, fun _ => fl f t (by unfold lSe; rw [hp]; rfl) ft ht⟩
  · rw [hp] at ht
    have e7 : t 64 7 = tK (zT z) 200 q := ht.2.2.2.2.2.2.1
    have eg : pGo (zT z) 200 (.inr q) = if tK (zT z) 200 q = 0 then 0 else 1 := rfl
    refine ⟨fun _ => ⟨fun c7 s15 e15 s19 e19 => ⟨241, ?_⟩, fun c7 => ?_⟩, fun w => absurd (show (1 : Int) = 0 from w) (by omega)⟩
    · have hr : lSe (zT z) 200 (pSn z).2 = .inr q := by
        unfold lSe
        rw [hp, eg, if_pos (show tK (zT z) 200 q = 0 by rw [← e7]; exact c7), if_pos rfl]
      obtain ⟨m2, m1, m3, m4, S, m5, m6⟩ := rt (by rw [hp]; exact (show (1 : Int) ≠ 0 by omega))
      obtain ⟨p20, p1, pI, p40, plf, pk, S', pS⟩ := pSn_ok hw hp
      unfold aSent ySent at h
      rw [hr] at h
      dsimp only at h
      have f19 : ∀ c i, (c = 66 → i ≠ 1790 ∧ i ≠ 1791) → s19 c i = t c i := fun c i w => by rw [e19, sg_upN _ (by omega), e15, sg_upN _ (by omega)]
      refine tq_csL (s0 := s19) (fun u fu vu => ?_) 240 0 s19 (by omega) (by omega) (fun _ _ _ => rfl) (fun i q1 q2 => by omega)
      have eu : u 64 59 = (pSn z).1.1 := by rw [fu 64 59 (by omega), f19 64 59 (by omega)]; exact m1.2.1
      rw [eu]
      have hN := H0.2.2.1
      rw [sp_mN_eq2] at hN
      obtain ⟨n1, n2, n3, n4, n5⟩ := hN
      have hok := hw.2.2.1
      have f66 : ∀ i, i < 1790 → u 66 i = m0 66 i := fun i zi => by rw [fu 66 i (by omega), f19 66 i (by omega)]; exact fr t ft 66 i (by omega) (by omega) (by omega)
      have fu' : ∀ c i, c ≠ 66 → u c i = t c i := fun c i w => by rw [fu c i (by omega), f19 c i (by omega)]
      refine h u (fun c i zc => by rw [fu' c i (by omega), fr t ft c i (by omega) (by omega) (by omega)]; exact F0 c i zc) (sp_RM_of (sp_R0_cl H0 (fun c i hr2 w1 w2 w3 => ?_) ?_ ?_ ?_) ?_)
      · rw [fu' c i (by omega)]; exact fr t ft c i (by unfold sp_rdm at hr2; omega) (by unfold sp_rdm at hr2; omega) (by unfold sp_rdm at hr2; omega)
      · rw [fu' 64 2 (by omega)]; exact f2 t ft
      · rw [fu' 64 10 (by omega)]; exact ht.2.2.1
      · rw [sp_mN_eq2]
        refine ⟨sp_mBl_eq hok.1 n1 (fun i q1 q2 => f66 i (by omega)), sp_mH_eq n2 hok.2.1 hok.2.2.1 (fun i q1 q2 => f66 i (by omega)), Or.inr ⟨?_, sMn (pSn z).1, rfl, fun e => ?_⟩, sp_mK_eq n4 hok.2.2.2.2.2.1 hok.2.2.2.2.2.2.1 (fun i q1 q2 => f66 i (by omega)), sp_mF_eq hok.2.2.2.2.2.2.2.2.2 n5 (fun i q1 q2 => f66 i (by omega))⟩
        · rw [fu 66 1790 (by omega), e19, sg_upN _ (by omega), e15, sg_upS]; omega
        · have a91 : u 66 1791 = ((pSn z).1.2.1.length : Int) - 1 := by
            rw [fu 66 1791 (by omega), e19, sg_upS, e15, sg_upN _ (by omega)]; exact m2
          rw [a91]
          have hs := sEv_use (m := 50) (g := fun i => u 66 (1800 + i)) m6 (by omega) (fun i q1 q2 => by rw [vu i q1 (by omega)]; exact f19 87 i (by omega)) e
          have e5 : (fun i : Int => (fun i => u 66 (1800 + i)) (i - 1800)) = u 66 := by
            funext i
            show u 66 (1800 + (i - 1800)) = u 66 i
            rw [show 1800 + (i - 1800) = i by omega]
          rw [e5] at hs
          rw [hs, (sMn_is m5 e).2]
      · rw [fu' 64 20 (by omega), fr t ft 64 20 (by omega) (by omega) (by omega)]; exact h20
    · have hr : lSe (zT z) 200 (pSn z).2 = .inl (1, tA (zT z) 200 q) := by
        unfold lSe
        rw [hp, eg, if_neg (show ¬ tK (zT z) 200 q = 0 by rw [← e7]; exact c7), if_neg (by omega)]; rfl
      exact tX12_bad hq ht (by omega) (fun _ => rfl) (fun u hu hu2 => fl _ u hr (fun c i w1 w2 => by rw [hu c i (by omega)]; exact ft c i w1 w2) hu2)
theorem wSent (hw : sp_wZ z) : sp_wZ (ySent z) := by
  unfold ySent
  rcases hr : lSe (zT z) 200 (pSn z).2 with f | q
  · exact sp_wZ_TF hw _
  · obtain ⟨a1, a2, a3, a4, a5, a6, a7, a8, a9, a10⟩ := hw.2.2.1
    exact sp_wN' (sp_wZ_TF hw 0) ⟨a1, a2, a3, a4, a5, a6, a7, a8, a9, a10⟩
end SGSh
