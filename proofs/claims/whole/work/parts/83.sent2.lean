/-! LEVEL 2: sentence(), the reference's readers. -/
noncomputable section SGSd
/-- n nodes stand; the last of them means S -/
def sEv (h : Int → Int) (n : Nat) (S : (Int → Int) → Bool) : Prop := ∀ g : Int → Int, (∀ i : Int, 0 ≤ i → i < 4 * n → g i = h i) → ∀ e, sp_ev (fun i => g (i - 1800)) n ((n : Int) - 1) e = some (S e)
theorem sp_ev_mono {f : Int → Int} {e : Int → Int} : ∀ (d : Nat) (k : Int) (b : Bool), sp_ev f d k e = some b → sp_ev f (d + 1) k e = some b
  | 0, k, b, h => by rw [sp_ev] at h; cases h
  | d + 1, k, b, h => by
    rw [sp_ev] at h
    rw [sp_ev]
    by_cases c0 : k < 0 ∨ 60 ≤ k
    · rw [if_pos c0] at h; cases h
    · rw [if_neg c0] at h ⊢
      by_cases c1 : f (1800 + 4 * k) = 1
      · rw [if_pos c1] at h ⊢
        rcases hx : sp_ev f d (f (1800 + 4 * k + 1)) e with _ | x
        · rw [hx] at h; cases h
        · rw [hx] at h
          rw [sp_ev_mono d _ x hx]; exact h
      · rw [if_neg c1] at h ⊢
        by_cases c2 : f (1800 + 4 * k) = 2
        · rw [if_pos c2] at h ⊢
          rcases hx : sp_ev f d (f (1800 + 4 * k + 1)) e with _ | x
          · rw [hx] at h; cases h
          · rw [hx] at h
            rw [sp_ev_mono d _ x hx]
            cases x
            · exact h
            · exact sp_ev_mono d _ b h
        · rw [if_neg c2] at h ⊢
          by_cases c3 : f (1800 + 4 * k) = 3
          · rw [if_pos c3] at h ⊢
            rcases hx : sp_ev f d (f (1800 + 4 * k + 1)) e with _ | x
            · rw [hx] at h; cases h
            · rw [hx] at h
              rw [sp_ev_mono d _ x hx]
              cases x
              · exact sp_ev_mono d _ b h
              · exact h
          · rw [if_neg c3] at h ⊢
            exact h
theorem sp_ev_le {f : Int → Int} {e : Int → Int} {d : Nat} {k : Int} {b : Bool} (h : sp_ev f d k e = some b) : ∀ j : Nat, sp_ev f (d + j) k e = some b
  | 0 => h
  | j + 1 => sp_ev_mono (d + j) k b (sp_ev_le h j)
theorem sEv_use {h g : Int → Int} {n m : Nat} {S : (Int → Int) → Bool} (hs : sEv h n S) (hn : n ≤ m) (e1 : ∀ i : Int, 0 ≤ i → i < 4 * n → g i = h i) (e : Int → Int) : sp_ev (fun i => g (i - 1800)) m ((n : Int) - 1) e = some (S e) := by
  have := sp_ev_le (hs g e1 e) (m - n)
  rw [show n + (m - n) = m by omega] at this
  exact this
theorem sEv_not {h : Int → Int} {n : Nat} {S : (Int → Int) → Bool} (h1 : 1 ≤ n) (hn : n < 60) (hs : sEv h n S) (a0 : h (4 * n) = 1) (a1 : h (4 * n + 1) = (n : Int) - 1) : sEv h (n + 1) (fun e => !S e) := by
  intro g hg e
  have b0 : g (1800 + 4 * (((n + 1 : Nat) : Int) - 1) - 1800) = 1 := by rw [show 1800 + 4 * (((n + 1 : Nat) : Int) - 1) - 1800 = 4 * n by omega, hg _ (by omega) (by omega)]; exact a0
  have b1 : g (1800 + 4 * (((n + 1 : Nat) : Int) - 1) + 1 - 1800) = (n : Int) - 1 := by rw [show 1800 + 4 * (((n + 1 : Nat) : Int) - 1) + 1 - 1800 = 4 * n + 1 by omega, hg _ (by omega) (by omega)]; exact a1
  rw [sp_ev, if_neg (by omega), b0, if_pos rfl, b1, sEv_use hs (Nat.le_refl _) (fun i q1 q2 => hg i q1 (by omega))]
  rfl
theorem sEv_bin {h : Int → Int} {n m : Nat} {k : Int} {S S' : (Int → Int) → Bool} (hk : k = 10 ∨ k = 11) (h1 : 1 ≤ n) (hnm : n ≤ m) (hm : m < 60) (hs : sEv h n S) (hs' : sEv h m S') (a0 : h (4 * m) = if k = 10 then 2 else 3) (a1 : h (4 * m + 1) = (n : Int) - 1) (a2 : h (4 * m + 2) = (m : Int) - 1) : sEv h (m + 1) (fun e => if k = 10 then (S e && S' e) else (S e || S' e)) := by
  intro g hg e
  have b0 : g (1800 + 4 * (((m + 1 : Nat) : Int) - 1) - 1800) = if k = 10 then 2 else 3 := by rw [show 1800 + 4 * (((m + 1 : Nat) : Int) - 1) - 1800 = 4 * m by omega, hg _ (by omega) (by omega)]; exact a0
  have b1 : g (1800 + 4 * (((m + 1 : Nat) : Int) - 1) + 1 - 1800) = (n : Int) - 1 := by rw [show 1800 + 4 * (((m + 1 : Nat) : Int) - 1) + 1 - 1800 = 4 * m + 1 by omega, hg _ (by omega) (by omega)]; exact a1
  have b2 : g (1800 + 4 * (((m + 1 : Nat) : Int) - 1) + 2 - 1800) = (m : Int) - 1 := by rw [show 1800 + 4 * (((m + 1 : Nat) : Int) - 1) + 2 - 1800 = 4 * m + 2 by omega, hg _ (by omega) (by omega)]; exact a2
  have u1 := sEv_use (m := m) hs hnm (fun i q1 q2 => hg i q1 (by omega)) e
  have u2 := sEv_use (m := m) hs' (Nat.le_refl _) (fun i q1 q2 => hg i q1 (by omega)) e
  rw [sp_ev, if_neg (by omega), b0, b1, b2, u1, u2]
  rcases hk with rfl | rfl
  · rw [if_neg (by omega), if_pos (by omega)]
    simp only [if_true]
    cases S e <;> rfl
  · rw [if_neg (by omega), if_neg (by omega), if_pos (by omega)]
    simp only [show ¬ (11 : Int) = 10 by omega, if_false]
    cases S e <;> rfl
/-- the reference's name of a leaf -/
def sPl (k : Int) : Int := if k = 6 then 4 else if k = 7 then 5 else if k = 8 then 6 else 0
theorem sEv_leaf {h : Int → Int} {n : Nat} {k g0 v : Int} (hn : n < 60) (hk : 0 ≤ k ∧ k ≤ 8) (a0 : h (4 * n) = if k < 6 then 7 else sPl k) (a1 : k < 6 → h (4 * n + 1) = 16 + k ∧ h (4 * n + 2) = v ∧ h (4 * n + 3) = g0 ∧ 60 ≤ g0 ∧ g0 ≤ 62) : sEv h (n + 1) (sLv k g0 v) := by
  intro g hg e
  have b0 : g (1800 + 4 * (((n + 1 : Nat) : Int) - 1) - 1800) = if k < 6 then 7 else sPl k := by rw [show 1800 + 4 * (((n + 1 : Nat) : Int) - 1) - 1800 = 4 * n by omega, hg _ (by omega) (by omega)]; exact a0
  rw [sp_ev, if_neg (by omega), b0]
  by_cases h6 : k < 6
  · obtain ⟨c1, c2, c3, c4, c5⟩ := a1 h6
    have b1 : g (1800 + 4 * (((n + 1 : Nat) : Int) - 1) + 1 - 1800) = 16 + k := by rw [show 1800 + 4 * (((n + 1 : Nat) : Int) - 1) + 1 - 1800 = 4 * n + 1 by omega, hg _ (by omega) (by omega)]; exact c1
    have b2 : g (1800 + 4 * (((n + 1 : Nat) : Int) - 1) + 2 - 1800) = v := by rw [show 1800 + 4 * (((n + 1 : Nat) : Int) - 1) + 2 - 1800 = 4 * n + 2 by omega, hg _ (by omega) (by omega)]; exact c2
    have b3 : g (1800 + 4 * (((n + 1 : Nat) : Int) - 1) + 3 - 1800) = g0 := by rw [show 1800 + 4 * (((n + 1 : Nat) : Int) - 1) + 3 - 1800 = 4 * n + 3 by omega, hg _ (by omega) (by omega)]; exact c3
    rw [if_pos h6, if_neg (by omega), if_neg (by omega), if_neg (by omega), if_neg (by omega), if_neg (by omega), if_neg (by omega), b1, b2, b3, if_neg (show ¬ (16 + k < 16 ∨ 21 < 16 + k ∨ g0 < 60 ∨ 62 < g0) by omega), show 16 + k - 16 = k by omega]
    unfold sLv
    rw [if_neg (by omega), if_neg (by omega), if_neg (by omega)]
  · rw [if_neg h6]
    have h3 : k = 6 ∨ k = 7 ∨ k = 8 := by omega
    unfold sPl sLv
    rcases h3 with rfl | rfl | rfl <;> simp
end SGSd
noncomputable section SGSe
variable {T : List Int} {lim : Int} {r : sp_rp} {a b : sp_ac} {s : sg_M}
abbrev sp_wF (s t : sg_M) : Prop := ∀ c i, (c = 64 → i < 5 ∨ (13 < i ∧ (i < 58 ∨ i = 60 ∨ 61 < i))) → c ≠ 87 → t c i = s c i
def sp_nA (s : sg_M) (a : sp_ac) (w : Int) : Prop := s 64 58 = a.2.1.length ∧ s 64 59 = a.1 ∧ s 64 60 = w
theorem sp_nA_tF {t : sg_M} {w : Int} (h : sp_nA s a w) (e : sp_tF s t) : sp_nA t a w :=
  ⟨by rw [e 64 58 (by omega)]; exact h.1, by rw [e 64 59 (by omega)]; exact h.2.1, by rw [e 64 60 (by omega)]; exact h.2.2⟩
theorem tX12_lays {x1 x2 x3 x4 : Int} {n : Nat} {Q : Int → sg_M → Prop} (hn : s 64 58 = n) (h60 : n < 60) (h : ∀ t : sg_M, (∀ c i : Int, (c = 64 → i ≠ 58) → (c = 87 → i < 4 * (n : Int)) → t c i = s c i) → t 64 58 = (n : Int) + 1 → t 87 (4 * n) = x1 → t 87 (4 * n + 1) = x2 → t 87 (4 * n + 2) = x3 → t 87 (4 * n + 3) = x4 → Q (n : Int) t) : fX12_lays s x1 x2 x3 x4 Q := by
  unfold fX12_lays
  rw [hn]
  refine ⟨by omega, fun s4 e4 => ⟨by omega, fun s8 e8 => ⟨by omega, fun s12 e12 => ⟨by omega, fun s16 e16 => ?_⟩⟩⟩⟩
  have a16 : s16 64 58 = n := by rw [e16, sg_upN _ (by omega), e12, sg_upN _ (by omega), e8, sg_upN _ (by omega), e4, sg_upN _ (by omega)]; exact hn
  rw [a16]
  refine ⟨by omega, fun s20 e20 => ?_⟩
  have a20 : s20 64 58 = (n : Int) + 1 := by rw [e20, sg_upS]
  rw [a20]
  refine ⟨by omega, ?_⟩
  rw [show (n : Int) + 1 - 1 = n by omega]
  refine h s20 (fun c i z1 z2 => ?_) a20 ?_ ?_ ?_ ?_
  · rw [e20, sg_upN _ (by omega), e16, sg_upN _ (by omega), e12, sg_upN _ (by omega), e8, sg_upN _ (by omega), e4, sg_upN _ (by omega)]
  · rw [e20, sg_upN _ (by omega), e16, sg_upN _ (by omega), e12, sg_upN _ (by omega), e8, sg_upN _ (by omega), e4, sg_upS]
  · rw [e20, sg_upN _ (by omega), e16, sg_upN _ (by omega), e12, sg_upN _ (by omega), e8, sg_upS]
  · rw [e20, sg_upN _ (by omega), e16, sg_upN _ (by omega), e12, sg_upS]
  · rw [e20, sg_upN _ (by omega), e16, sg_upS]
/-- what a reader of the reference leaves: nodes as far as the steps of b, the last one being what was read since a -/
def sp_nQ (s0 t : sg_M) (a b : sp_ac) (w : Int) : Prop := sp_nA t b w ∧ (∀ i : Int, 0 ≤ i → i < 4 * a.2.1.length → t 87 i = s0 87 i) ∧ b.1 ≤ 20 ∧ ∃ S, sRes a b S ∧ sEv (t 87) b.2.1.length S
def sp_nR (s0 t : sg_M) (a b : sp_ac) (w : Int) : Prop := t 64 61 = (b.2.1.length : Int) - 1 ∧ sp_nQ s0 t a b w
def sMP (T : List Int) (lim w : Int) (R : sg_M → (Int → sg_M → Prop) → Prop) (F : sp_ac → sp_rp → sp_ac × sp_rp) : Prop := ∀ (s : sg_M) (a : sp_ac) (q : Int) (Q : Int → sg_M → Prop), sp_tM T lim (.inr q) s → sp_nA s a w → sI a →
  (∀ t, sp_wF s t → sp_tM T lim (F a (.inr q)).2 t → (pOk (F a (.inr q)).2 ≠ 0 → sp_nR s t a (F a (.inr q)).1 w) → Q (pOk (F a (.inr q)).2) t) → R s Q
theorem sEv_kp {h h' : Int → Int} {n : Nat} {S : (Int → Int) → Bool} (hs : sEv h n S) (e : ∀ i : Int, 0 ≤ i → i < 4 * n → h' i = h i) : sEv h' n S := fun g hg => hs g (fun i q1 q2 => (hg i q1 q2).trans (e i q1 q2))
theorem sMP_lp {w : Int} (hq : sp_tq T lim) {R : sg_M → (Int → sg_M → Prop) → Prop} {F : sp_ac → sp_rp → sp_ac × sp_rp} (hF : sFP T F) (hR : sMP T lim w R F) {kw : Nat} (hkw : kw < 22) {cw : Nat} (hcw : sp_wx kw = cw) {k code : Int} (hk : k = 10 ∨ k = 11) (hc : code = if k = 10 then 2 else 3) {Q : Int → sg_M → Prop} {L : Nat → sg_M → Int → Prop}
    (hL : ∀ (n : Nat) (s : sg_M) (x : Int), L (n + 1) s x = fX12_isWord s kw (fun u6 => ((u6 = 0 → ∀ s9 : sg_M, s9 = sg_up s 64 61 x → Q 1 s9) ∧ (¬ (u6 = 0) → fX12_go s (fun s11 => R s11 (fun u12 s14 => ((u12 ≠ 0 → fX12_lays s14 code x (s14 64 61) 0 (fun u17 s19 => L n s19 u17)) ∧ (u12 = 0 → Q 0 s14)))))))) {s0 : sg_M} {a : sp_ac} (hi : sI a) :
    ∀ (m : Nat) (b : sp_ac) (q : Int) (s : sg_M) (x : Int), x = (b.2.1.length : Int) - 1 → 21 - b.1 ≤ m → sp_tM T lim (.inr q) s → sp_wF s0 s → sp_nQ s0 s a b w →
      (∀ t, sp_wF s0 t → sp_tM T lim (sLp T lim F cw k m b (.inr q)).2 t → (pOk (sLp T lim F cw k m b (.inr q)).2 ≠ 0 → sp_nR s0 t a (sLp T lim F cw k m b (.inr q)).1 w) → Q (pOk (sLp T lim F cw k m b (.inr q)).2) t) → L (m + 1) s x
  | 0, b, q, s, x, hx, hb, H, hF0, hN, h => absurd hb (by have := hN.2.2.1; omega)
  | m + 1, b, q, s, x, hx, hb, H, hF0, hN, h => by
    rw [hL]
    rw [sLp] at h
    refine tX12_isW hcw hkw H ⟨fun g s9 e9 => ?_, fun g => ?_⟩
    · rw [if_pos g] at h
      obtain ⟨n1, n3, n4, S, n5, n6⟩ := hN
      have f9 : ∀ c i, (c = 64 → i ≠ 61) → s9 c i = s c i := fun c i z => by rw [e9, sg_upN _ (by omega)]
      refine h s9 (fun c i z1 z2 => by rw [f9 c i (by omega)]; exact hF0 c i z1 z2) (sp_tM_kp H (fun c i z => f9 c i (by omega))) (fun _ => ⟨by rw [e9, sg_upS]; exact hx, ⟨by rw [f9 64 58 (by omega)]; exact n1.1, by rw [f9 64 59 (by omega)]; exact n1.2.1, by rw [f9 64 60 (by omega)]; exact n1.2.2⟩, fun i q1 q2 => by rw [f9 87 i (by omega)]; exact n3 i q1 q2, n4, S, n5, sEv_kp n6 (fun i _ _ => f9 87 i (by omega))⟩)
    · rw [if_neg g] at h
      obtain ⟨n1, n3, n4, S, n5, n6⟩ := hN
      have hr := sRes_I hi n5 n4
      have h4 := pWd_1 g
      refine tX12_adv hq H (by omega) (fun t1 f1 _ h1 => ?_)
      refine hR t1 b (tO T q) _ h1 (sp_nA_tF n1 f1) hr.1 (fun t2 f2 h2 r2 => ?_)
      have e0 : pAd T (.inr q) = .inr (tO T q) := rfl
      rw [e0] at h
      have F2 : sp_wF s0 t2 := fun c i z1 z2 => by rw [f2 c i z1 z2, f1 c i (by omega)]; exact hF0 c i z1 z2
      rcases hp : (F b (.inr (tO T q))).2 with f | q2
      · rw [hp, sLp_inl] at h
        rw [hp] at h2
        exact ⟨fun z => absurd rfl z, fun _ => h t2 F2 h2 (fun z => absurd rfl z)⟩
      · rw [hp] at h h2 r2
        obtain ⟨m2, m1, m3, m4, S', m5, m6⟩ := r2 (show (1 : Int) ≠ 0 by omega)
        have hr2 := sRes_I hr.1 m5 m4
        obtain ⟨i1, i2, i3, i4, i5⟩ := hr2.1
        generalize (F b (.inr (tO T q))).1 = c at *
        refine ⟨fun _ => ?_, fun z => absurd (show (1 : Int) = 0 from z) (by omega)⟩
        refine tX12_lays (n := c.2.1.length) m1.1 (by omega) (fun t3 f3 a58 b0 b1 b2 b3 => ?_)
        have h3 : sp_tM T lim (.inr q2) t3 := sp_tM_kp h2 (fun c i z => f3 c i (by omega) (by omega))
        have el : (sAd c k 0 0).2.1.length = c.2.1.length + 1 := by
          show (c.2.1 ++ [k]).length = _
          simp
        have hs := sRes_bin hk n5 m5
        refine sMP_lp hq hF hR hkw hcw hk hc hL hi m (sAd c k 0 0) q2 t3 _ ?_ ?_ h3 (fun c' i z1 z2 => by rw [f3 c' i (by omega) (by omega)]; exact F2 c' i z1 z2) ⟨⟨?_, ?_, ?_⟩, fun i q1 q2 => ?_, m4, _, hs, ?_⟩ h
        · rw [el]; omega
        · show 21 - c.1 ≤ m
          omega
        · rw [el, a58]; omega
        · rw [f3 64 59 (by omega) (by omega)]; exact m1.2.1
        · rw [f3 64 60 (by omega) (by omega)]; exact m1.2.2
        · have := hr.2.2.2
          have := hr2.2.2.2
          rw [f3 87 i (by omega) (by omega), m3 i q1 (by omega), f1 87 i (by omega)]; exact n3 i q1 q2
        · rw [el]
          have hlen := hr2.2.2.2
          have hl0 := hr.2.2.2
          refine sEv_bin hk (n := b.2.1.length) (by omega) (by omega) (by omega) (sEv_kp n6 (fun i z1 z2 => ?_)) (sEv_kp m6 (fun i z1 z2 => f3 87 i (by omega) (by omega))) ?_ ?_ ?_
          · rw [f3 87 i (by omega) (by omega), m3 i z1 (by omega)]; exact f1 87 i (by omega)
          · rw [b0]; exact hc
          · rw [b1]; exact hx
          · rw [b2]; exact m2
end SGSe
