/-! LEVEL 2: sentence(), the class's call. -/
noncomputable section SGSc
variable {T : List Int} {lim : Int} {r : sp_rp} {a b : sp_ac} {La : sg_L} {s : sg_M}
/-- a row of 40, whatever it holds -/
theorem tX4_addG {o x : Int} {Q : sg_M → Prop} (hc : sg_ln La (o + 1) = 40) (hr : sg_R (s o 1)) (h : ∀ t, (∀ c i, (c < o ∨ o + 1 < c) → t c i = s c i) → (∀ l, sp_rw s o l → l.length < 40 → sp_rw t o (l ++ [x])) → Q t) : fX4_add La s o x Q := by
  unfold fX4_add
  rw [hc]
  refine ⟨fun g => h s (fun _ _ _ => rfl) (fun l hl _ => absurd hl.1 (by omega)), fun g => ⟨by omega, fun g2 => h s (fun _ _ _ => rfl) (fun l hl hl2 => absurd hl.1 (by omega)), fun g2 => ⟨by omega, fun s10 e10 => ?_⟩⟩⟩
  have a10 : s10 o 1 = s o 1 := by rw [e10, sg_upN _ (by omega)]
  rw [a10]
  refine ⟨by omega, fun s14 e14 => h s14 (fun c i z => by rw [e14, sg_upN _ (by omega), e10, sg_upN _ (by omega)]) (fun l hl _ => ?_)⟩
  have := sp_rw_snoc (x := x) hl
  rw [← e10, ← e14] at this
  exact this
/-- the class's sentence in cell o -/
def sp_cA (s : sg_M) (o : Int) (a : sp_ac) : Prop := s o 3 = a.1 ∧ sp_rw s (o + 1) a.2.1 ∧ sp_rw s (o + 3) a.2.2.1 ∧ sp_rw s (o + 5) a.2.2.2
theorem sp_cA_kp {t : sg_M} {o : Int} (h : sp_cA s o a) (e : ∀ c i, o ≤ c → c ≤ o + 6 → t c i = s c i) : sp_cA t o a := by
  obtain ⟨h1, h2, h3, h4⟩ := h
  exact ⟨by rw [e o 3 (by omega) (by omega)]; exact h1, sp_kR h2 (fun c i z1 z2 => e c i (by omega) (by omega)), sp_kR h3 (fun c i z1 z2 => e c i (by omega) (by omega)), sp_kR h4 (fun c i z1 z2 => e c i (by omega) (by omega))⟩
/-- the rows' sizes stay numbers, whatever was read -/
def sp_cZ (La : sg_L) (s : sg_M) (o : Int) : Prop := (sg_ln La (o + 2) = 40 ∧ sg_ln La (o + 4) = 40 ∧ sg_ln La (o + 6) = 40) ∧ (0 ≤ s (o + 1) 1 ∧ s (o + 1) 1 ≤ 40) ∧ (0 ≤ s (o + 3) 1 ∧ s (o + 3) 1 ≤ 40) ∧ (0 ≤ s (o + 5) 1 ∧ s (o + 5) 1 ≤ 40)
abbrev sp_sF (o : Int) (s t : sg_M) : Prop := ∀ c i, (c = 3 → i < 2) → (c < o ∨ o + 6 < c) → t c i = s c i
theorem tX4_addZ {o x : Int} {Q : sg_M → Prop} (hc : sg_ln La (o + 1) = 40) (hr : 0 ≤ s o 1 ∧ s o 1 ≤ 40) (h : ∀ t, (∀ c i, (c < o ∨ o + 1 < c) → t c i = s c i) → (0 ≤ t o 1 ∧ t o 1 ≤ 40) → (∀ l, sp_rw s o l → l.length < 40 → sp_rw t o (l ++ [x])) → Q t) : fX4_add La s o x Q := by
  unfold fX4_add
  rw [hc]
  refine ⟨fun g => absurd g (by omega), fun g => ⟨by omega, fun g2 => h s (fun _ _ _ => rfl) hr (fun l hl hl2 => absurd hl.1 (by omega)), fun g2 => ⟨by omega, fun s10 e10 => ?_⟩⟩⟩
  have a10 : s10 o 1 = s o 1 := by rw [e10, sg_upN _ (by omega)]
  rw [a10]
  refine ⟨by omega, fun s14 e14 => h s14 (fun c i z => by rw [e14, sg_upN _ (by omega), e10, sg_upN _ (by omega)]) (by rw [e14, sg_upS]; omega) (fun l hl _ => ?_)⟩
  have := sp_rw_snoc (x := x) hl
  rw [← e10, ← e14] at this
  exact this
theorem tX5_addStep {o k g n : Int} {Q : sg_M → Prop} (ho : 3 < o) (hz : sp_cZ La s o) (h : ∀ t, (∀ c i, (c < o + 1 ∨ o + 6 < c) → t c i = s c i) → sp_cZ La t o → (∀ a, sp_cA s o a → a.2.1.length < 40 → a.2.2.1.length < 40 → a.2.2.2.length < 40 → sp_cA t o (sAd a k g n)) → Q t) : fX5_addStep La s o k g n Q := by
  obtain ⟨⟨l1, l2, l3⟩, z1, z2, z3⟩ := hz
  have q1 : o + 1 + 1 = o + 2 := by omega
  have q2 : o + 3 + 1 = o + 4 := by omega
  have q3 : o + 5 + 1 = o + 6 := by omega
  refine tX4_addZ (o := o + 1) (by rw [q1]; exact l1) z1 (fun t1 f1 y1 r1 => ?_)
  refine tX4_addZ (o := o + 3) (by rw [q2]; exact l2) (by rw [f1 _ 1 (by omega)]; exact z2) (fun t2 f2 y2 r2 => ?_)
  refine tX4_addZ (o := o + 5) (by rw [q3]; exact l3) (by rw [f2 _ 1 (by omega), f1 _ 1 (by omega)]; exact z3) (fun t3 f3 y3 r3 => ?_)
  refine h t3 (fun c i z => by rw [f3 c i (by omega), f2 c i (by omega)]; exact f1 c i (by omega)) ⟨⟨l1, l2, l3⟩, by rw [f3 _ 1 (by omega), f2 _ 1 (by omega)]; exact y1, by rw [f3 _ 1 (by omega)]; exact y2, y3⟩ (fun a ha n1 n2 n3 => ?_)
  obtain ⟨h1, h2, h3, h4⟩ := ha
  refine ⟨?_, ?_, ?_, ?_⟩
  · rw [f3 o 3 (by omega), f2 o 3 (by omega), f1 o 3 (by omega)]; exact h1
  · exact sp_kR (sp_kR (r1 _ h2 n1) (fun c i w1 w2 => f2 c i (by omega))) (fun c i w1 w2 => f3 c i (by omega))
  · exact sp_kR (r2 _ (sp_kR h3 (fun c i w1 w2 => f1 c i (by omega))) n2) (fun c i w1 w2 => f3 c i (by omega))
  · exact r3 _ (sp_kR (sp_kR h4 (fun c i w1 w2 => f1 c i (by omega))) (fun c i w1 w2 => f2 c i (by omega))) n3
theorem sp_cZ_kp {t : sg_M} {o : Int} (h : sp_cZ La s o) (e : ∀ c i, o + 1 ≤ c → c ≤ o + 6 → t c i = s c i) : sp_cZ La t o := by
  obtain ⟨l, z1, z2, z3⟩ := h
  exact ⟨l, by rw [e _ 1 (by omega) (by omega)]; exact z1, by rw [e _ 1 (by omega) (by omega)]; exact z2, by rw [e _ 1 (by omega) (by omega)]; exact z3⟩
theorem tX5_leafAt {Q : Int → Prop} (hq : sp_tq T lim) (H : sp_tC T lim r s) (h : Q (sLf T lim r)) : fX5_leafAt s Q := by
  unfold sLf at h
  refine tX9_isWord hq (by omega) H ⟨fun g => ?_, fun g => by rw [if_pos g] at h; exact h⟩
  rw [if_neg (fun z => z g)] at h
  refine tX9_isWord hq (by omega) H ⟨fun g => ?_, fun g => by rw [if_pos g] at h; exact h⟩
  rw [if_neg (fun z => z g)] at h
  refine tX9_isWord hq (by omega) H ⟨fun g => ?_, fun g => by rw [if_pos g] at h; exact h⟩
  rw [if_neg (fun z => z g)] at h
  refine tX9_isWord hq (by omega) H ⟨fun g => ?_, fun g => by rw [if_pos g] at h; exact h⟩
  rw [if_neg (fun z => z g)] at h
  refine tX9_isWord hq (by omega) H ⟨fun g => ?_, fun g => by rw [if_pos g] at h; exact h⟩
  rw [if_neg (fun z => z g)] at h
  refine tX9_isWord hq (by omega) H ⟨fun g => ?_, fun g => by rw [if_pos g] at h; exact h⟩
  rw [if_neg (fun z => z g)] at h
  refine tX9_isWord hq (by omega) H ⟨fun g => ?_, fun g => by rw [if_pos g] at h; exact h⟩
  rw [if_neg (fun z => z g)] at h
  refine tX9_isWord hq (by omega) H ⟨fun g => ?_, fun g => by rw [if_pos g] at h; exact h⟩
  rw [if_neg (fun z => z g)] at h
  refine tX9_isWord hq (by omega) H ⟨fun g => ?_, fun g => by rw [if_pos g] at h; exact h⟩
  rw [if_neg (fun z => z g)] at h
  exact h
theorem tX9_comparison {Q : Int → sg_M → Prop} (hq : sp_tq T lim) (H : sp_tC T lim r s) (h : ∀ t, (∀ c i, (c = 3 → i < 2) → t c i = s c i) → sp_tC T lim (pCm T lim r) t → Q (pCv T lim r) t) : fX9_comparison s Q := by
  match r, H, h with
  | .inl f, H, h =>
    have h6 : s 3 6 ≠ 0 := by rw [H.2.2.1]; exact H.2.1.1
    have fin : fX9_comparison_j30 s Q s := ⟨fun g => absurd g h6, fun _ => h s (fun _ _ _ => rfl) H⟩
    have fl : fX9_fail s 1 (fun s6 => fX9_comparison_j30 s Q s6) := ⟨fun _ => fin, fun g => absurd g h6⟩
    exact ⟨fun _ => fl, fun _ => ⟨fun _ => fl, fun _ => ⟨fun _ => fin, fun _ => fl⟩⟩⟩
  | .inr q, H, h =>
    have H' := H
    obtain ⟨h1, h2, h3, h4⟩ := H'
    have hkr := tK_rg T lim q
    have k3 : s 3 2 = 3 ↔ tK T lim q = 4 := by
      rw [h4.2.2.1]; unfold sp_kc2; repeat' split
      all_goals omega
    have eM : pCm T lim (.inr q) = if tK T lim q = 4 ∧ 60 ≤ tS T q ∧ tS T q ≤ 62 then .inr (tO T q) else .inl (1, tA T lim q) := rfl
    have eV : pCv T lim (.inr q) = if tK T lim q = 4 ∧ 60 ≤ tS T q ∧ tS T q ≤ 62 then tS T q else 0 := rfl
    have fl : ¬ (tK T lim q = 4 ∧ 60 ≤ tS T q ∧ tS T q ≤ 62) → fX9_fail s 1 (fun s6 => fX9_comparison_j30 s Q s6) := fun g => by
      rw [if_neg g] at eM eV
      rw [eM, eV] at h
      exact tX9_fail hq H (by omega) (fun t hF ht => ⟨fun g2 => absurd g2 (by rw [ht.2.2.1]; exact ht.2.1.1), fun _ => h t hF ht⟩)
    refine ⟨fun g => fl (by omega), fun g => ?_⟩
    have e5 := h4.2.2.2.2.2 (k3.mp g)
    rw [e5]
    refine ⟨fun g2 => fl (by omega), fun g2 => ⟨fun g3 => ⟨fun _ => ?_, fun g5 => absurd h3 g5⟩, fun g3 => fl (by omega)⟩⟩
    rw [if_pos ⟨k3.mp g, by omega, by omega⟩] at eM eV
    rw [eM, eV] at h
    rw [e5]
    exact tX9_adv hq H (by have := k3.mp g; omega) h
/-- the contract of a reader of the class -/
def sCP (T : List Int) (lim : Int) (La : sg_L) (o : Int) (R : sg_M → (sg_M → Prop) → Prop) (F : sp_ac → sp_rp → sp_ac × sp_rp) : Prop := ∀ (s : sg_M) (a : sp_ac) (r : sp_rp) (Q : sg_M → Prop), sp_tC T lim r s → sp_cZ La s o → (pOk r ≠ 0 → sp_cA s o a ∧ sI a) →
  (∀ t, sp_sF o s t → sp_tC T lim (F a r).2 t → sp_cZ La t o → (pOk (F a r).2 ≠ 0 → sp_cA t o (F a r).1) → Q t) → R s Q
theorem pOk_wd {w : Nat} (h : pWd T lim w r ≠ 0) : pOk r ≠ 0 := by
  cases r with
  | inl f => exact absurd rfl h
  | inr q => exact (show (1 : Int) ≠ 0 by omega)
theorem pOk_sg {c : Int} (h : pSg T lim c r ≠ 0) : pOk r ≠ 0 := by
  cases r with
  | inl f => exact absurd rfl h
  | inr q => exact (show (1 : Int) ≠ 0 by omega)
theorem sFP_okr {F : sp_ac → sp_rp → sp_ac × sp_rp} (hF : sFP T F) (h : pOk (F a r).2 ≠ 0) : pOk r ≠ 0 := by
  cases r with
  | inl f => rw [hF.1 a f] at h; exact absurd rfl h
  | inr q => exact (show (1 : Int) ≠ 0 by omega)
theorem sFP_I {F : sp_ac → sp_rp → sp_ac × sp_rp} (hF : sFP T F) (hr : pIn T r) (hi : sI a) (h : pOk (F a r).2 ≠ 0) : sI (F a r).1 ∧ ((F a r).1.2.1.length : Int) + 1 ≤ 2 * (F a r).1.1 := by
  have hr0 := sFP_okr hF h
  cases r with
  | inl f => exact absurd rfl hr0
  | inr q =>
    obtain ⟨h20, S, hs⟩ := hF.2.2 a q hr hi h
    have := sRes_I hi hs h20
    exact ⟨this.1, this.2.1⟩
theorem sI_ad {k g n : Int} (h : sI a) (h1 : (a.2.1.length : Int) + 1 ≤ 2 * a.1) : sI (sAd a k g n) := by
  obtain ⟨h1', h2, h3, h4, h5⟩ := h
  refine ⟨h1', h2, ?_, ?_, ?_⟩
  · show (((a.2.1 ++ [k]).length : Nat) : Int) ≤ 2 * a.1
    simp only [List.length_append, List.length_cons, List.length_nil]; omega
  · show (a.2.2.1 ++ [g]).length = (a.2.1 ++ [k]).length
    simp only [List.length_append, List.length_cons, List.length_nil]; omega
  · show (a.2.2.2 ++ [n]).length = (a.2.1 ++ [k]).length
    simp only [List.length_append, List.length_cons, List.length_nil]; omega
/-- a loop of the class, said of any that is unfolded so -/
theorem sCP_lp {o : Int} (ho : 3 < o) (hq : sp_tq T lim) {R : sg_M → (sg_M → Prop) → Prop} {F : sp_ac → sp_rp → sp_ac × sp_rp} (hF : sFP T F) (hR : sCP T lim La o R F) {w : Nat} (hw : w < 22) {k : Int} {Q : sg_M → Prop} {L : Nat → sg_M → Int → Prop}
    (hL : ∀ (n : Nat) (s : sg_M) (x : Int), L (n + 1) s x = ((20 ≤ x → Q s) ∧ (¬ (20 ≤ x) → fX9_skipWord s w (fun u3 s5 => ((u3 = 0 → Q s5) ∧ (¬ (u3 = 0) → R s5 (fun s7 => fX5_addStep La s7 o k 0 0 (fun s8 => sg_R (x + 1) ∧ L n s8 (x + 1))))))))) (hk : k = 10 ∨ k = 11) :
    ∀ (m : Nat) (j : Int) (a : sp_ac) (r : sp_rp) (s : sg_M), j + m = 20 → 0 ≤ j → sp_tC T lim r s → sp_cZ La s o → (pOk r ≠ 0 → sp_cA s o a ∧ sI a ∧ (a.2.1.length : Int) + 1 ≤ 2 * a.1) →
      (∀ t, sp_sF o s t → sp_tC T lim (sLp T lim F w k m a r).2 t → sp_cZ La t o → (pOk (sLp T lim F w k m a r).2 ≠ 0 → sp_cA t o (sLp T lim F w k m a r).1) → Q t) → L (m + 1) s j
  | 0, j, a, r, s, hj, h0, H, hz, ha, h => by
    rw [hL]
    exact ⟨fun _ => h s (fun _ _ _ _ => rfl) H hz (fun z => (ha z).1), fun g => absurd (show (20 : Int) ≤ j by omega) g⟩
  | m + 1, j, a, r, s, hj, h0, H, hz, ha, h => by
    rw [hL]
    rw [sLp] at h
    refine ⟨fun g => absurd g (by omega), fun _ => tX9_skipWord hq hw H (fun t1 f1 h1 => ?_)⟩
    unfold pWk at h1
    have z1 : sp_cZ La t1 o := sp_cZ_kp hz (fun c i _ _ => f1 c i (by omega))
    refine ⟨fun g => ?_, fun g => ?_⟩
    · rw [if_pos g] at h1 h
      exact h t1 (fun c i w1 _ => f1 c i w1) h1 z1 (fun z => sp_cA_kp (ha z).1 (fun c i _ _ => f1 c i (by omega)))
    · rw [if_neg g] at h1 h
      have ok := pOk_wd g
      have ha' := ha ok
      refine hR t1 a (pAd T r) _ h1 z1 (fun _ => ⟨sp_cA_kp ha'.1 (fun c i _ _ => f1 c i (by omega)), ha'.2.1⟩) (fun t2 f2 h2 z2 c2 => ?_)
      refine tX5_addStep ho z2 (fun t3 f3 z3 c3 => ⟨by omega, ?_⟩)
      have h3 : sp_tC T lim (F a (pAd T r)).2 t3 := sp_tC_kp h2 (fun c i z => f3 c i (by omega))
      refine sCP_lp ho hq hF hR hw hL hk m (j + 1) _ _ t3 (by omega) (by omega) h3 z3 (fun z => ?_) (fun t f4 h4 z4 c4 => h t (fun c i w1 w2 => by rw [f4 c i w1 w2, f3 c i (by omega), f2 c i w1 w2]; exact f1 c i w1) h4 z4 c4)
      have hI := sFP_I hF h1.2.1 ha'.2.1 z
      have iI := hI.1
      obtain ⟨i1, i2, i3, i4, i5⟩ := iI
      refine ⟨c3 _ (c2 z) (by omega) (by omega) (by omega), sI_ad hI.1 hI.2, ?_⟩
      -- one more step, one one more at least
      have hrr : ∃ q, pAd T r = .inr q := by
        obtain ⟨q, e⟩ := pOk_inr ok
        rw [e]; exact ⟨tO T q, rfl⟩
      obtain ⟨q, e⟩ := hrr
      rw [e] at z hI ⊢
      obtain ⟨h20, S, hs⟩ := hF.2.2 a q (by rw [← e]; exact h1.2.1) ha'.2.1 z
      have k3 := hs
      obtain ⟨K, G, M, e1, -, -, -, -, -, k4, -⟩ := k3
      have l1 : (F a (.inr q)).1.2.1.length = a.2.1.length + K.length := by rw [e1, List.length_append]
      show (((((F a (.inr q)).1.2.1 ++ [k]).length : Nat)) : Int) + 1 ≤ 2 * (F a (.inr q)).1.1
      simp only [List.length_append, List.length_cons, List.length_nil]
      have := ha'.2.2
      omega
theorem g_cR_0 (n : Nat) (s : sg_M) (o d : Int) (Q : sg_M → Prop) : g_cR (n + 1) 0 La s o d Q = fX5_readCond_b (g_cR n) La s o d Q := by rw [g_cR, if_pos rfl]
theorem g_cR_1 (n : Nat) (s : sg_M) (o d : Int) (Q : sg_M → Prop) : g_cR (n + 1) 1 La s o d Q = fX5_readAll_b (g_cR n) La s o d Q := by rw [g_cR, if_neg (by omega), if_pos rfl]
theorem g_cR_2 (n : Nat) (s : sg_M) (o d : Int) (Q : sg_M → Prop) : g_cR (n + 1) 2 La s o d Q = fX5_readOne_b (g_cR n) La s o d Q := by rw [g_cR, if_neg (by omega), if_neg (by omega)]
theorem sCP_al {o d : Int} (ho : 3 < o) (hq : sp_tq T lim) {n : Nat} {F : sp_ac → sp_rp → sp_ac × sp_rp} (hF : sFP T F) (hR : sCP T lim La o (fun s Q => g_cR n 2 La s o d Q) F) : sCP T lim La o (fun s Q => g_cR (n + 1) 1 La s o d Q) (sAl T lim F) := by
  intro s a r Q H hz ha h
  show g_cR (n + 1) 1 La s o d Q
  rw [g_cR_1]
  refine hR s a r _ H hz ha (fun t1 f1 h1 z1 c1 => ⟨20 + 1, ?_⟩)
  refine sCP_lp (L := fX5_readAll_L8 La o d (g_cR n) Q) (k := 10) ho hq hF hR (w := 20) (by omega) (fun n s x => by rw [fX5_readAll_L8]) (Or.inl rfl) 20 0 _ _ t1 (by omega) (by omega) h1 z1 (fun z => ?_) (fun t f2 h2 z2 c2 => h t (fun c i w1 w2 => by rw [f2 c i w1 w2]; exact f1 c i w1 w2) h2 z2 c2)
  have hr0 := sFP_okr hF z
  have hI := sFP_I hF H.2.1 (ha hr0).2 z
  exact ⟨c1 z, hI.1, hI.2⟩
theorem sCP_co {o d : Int} (ho : 3 < o) (hq : sp_tq T lim) {n : Nat} {F : sp_ac → sp_rp → sp_ac × sp_rp} (hF : sFP T F) (hR : sCP T lim La o (fun s Q => g_cR n 2 La s o d Q) F) : sCP T lim La o (fun s Q => g_cR (n + 1 + 1) 0 La s o d Q) (sCo T lim F) := by
  have hA := sCP_al ho hq hF hR
  have hFA : sFP T (sAl T lim F) := sFP_al hF
  intro s a r Q H hz ha h
  show g_cR (n + 1 + 1) 0 La s o d Q
  rw [g_cR_0]
  refine hA s a r _ H hz ha (fun t1 f1 h1 z1 c1 => ⟨20 + 1, ?_⟩)
  refine sCP_lp (L := fX5_readCond_L8 La o d (g_cR (n + 1)) Q) (k := 11) ho hq hFA hA (w := 21) (by omega) (fun n s x => by rw [fX5_readCond_L8]) (Or.inr rfl) 20 0 _ _ t1 (by omega) (by omega) h1 z1 (fun z => ?_) (fun t f2 h2 z2 c2 => h t (fun c i w1 w2 => by rw [f2 c i w1 w2]; exact f1 c i w1 w2) h2 z2 c2)
  have hr0 := sFP_okr hFA z
  have hI := sFP_I hFA H.2.1 (ha hr0).2 z
  exact ⟨c1 z, hI.1, hI.2⟩
/-- the first tests of one thing -/
theorem tX5_j36 {o d : Int} {K : sg_M → Prop} {dp : Int} (hq : sp_tq T lim) (hd : dp ≠ 0 ↔ 8 < d) (H : sp_tC T lim r s) (hn : ¬ (sLf T lim r = -1 ∧ pWd T lim 19 r = 0 ∧ pSg T lim 40 r = 0)) (ha : s o 3 = a.1) (h : ∀ t, (∀ c i, (c = 3 → i < 2) → t c i = s c i) → sp_tC T lim (sR1 T lim a dp r) t → K t) : fX5_readOne_j36 s o d K := by
  unfold sR1 at h
  rw [if_neg hn] at h
  unfold fX5_readOne_j36
  rw [ha]
  have fl : (20 ≤ a.1 ∨ dp ≠ 0) → fX5_readOne_j51 s K := fun g => by
    rw [if_pos g] at h
    exact tX9_fail hq H (by omega) h
  refine ⟨fun g => fl (Or.inl g), fun g => ⟨fun g2 => ?_, fun g2 => fl (Or.inr (hd.mpr (by omega)))⟩⟩
  have h8 : ¬ dp ≠ 0 := fun z => by have := hd.mp z; omega
  rw [if_neg (fun z => z.elim g h8)] at h
  exact h s (fun _ _ _ => rfl) H
/-- one thing begins -/
theorem tX5_one {o d : Int} {K : Int → sg_M → Prop} {dp : Int} (hq : sp_tq T lim) (hd : dp ≠ 0 ↔ 8 < d) (H : sp_tC T lim r s) (ha : pOk r ≠ 0 → s o 3 = a.1) (h : ∀ t, (∀ c i, (c = 3 → i < 2) → t c i = s c i) → sp_tC T lim (sR1 T lim a dp r) t → K (sLf T lim r) t) :
    fX5_leafAt s (fun u1 => ((u1 ≠ (-1) → (fX5_readOne_j36 s o d (K u1))) ∧ (u1 = (-1) → fX9_isWord s 19 (fun u43 => ((u43 ≠ 0 → (fX5_readOne_j36 s o d (K u1))) ∧ (u43 = 0 → fX9_isSign s 40 (fun u46 => ((u46 ≠ 0 → (fX5_readOne_j36 s o d (K u1))) ∧ (u46 = 0 → fX9_fail s 1 (fun s49 => (K u1) s49)))))))))) := by
  refine tX5_leafAt hq H ⟨fun g => ?_, fun g => tX9_isWord hq (by omega) H ⟨fun g2 => ?_, fun g2 => tX9_isSign H ⟨fun g3 => ?_, fun g3 => ?_⟩⟩⟩
  · obtain ⟨w, hw⟩ := sLf_w g
    exact tX5_j36 hq hd H (fun z => g z.1) (ha (pOk_wd hw)) h
  · exact tX5_j36 hq hd H (fun z => g2 z.2.1) (ha (pOk_wd g2)) h
  · exact tX5_j36 hq hd H (fun z => g3 z.2.2) (ha (pOk_sg g3)) h
  · unfold sR1 at h
    rw [if_pos ⟨g, g2, g3⟩] at h
    exact tX9_fail hq H (by omega) h
theorem sCP_on {o d : Int} (ho : 3 < o) (hq : sp_tq T lim) (hd : d ≤ 8) (hd0 : 0 ≤ d) {n : Nat} {F : sp_ac → sp_rp → sp_ac × sp_rp} (hF : sFP T F) (hR : sCP T lim La o (fun s Q => g_cR (n + 1 + 1) 2 La s o (d + 1) Q) F) (hC : sCP T lim La o (fun s Q => g_cR (n + 1 + 1) 0 La s o (d + 1) Q) (sCo T lim F)) : sCP T lim La o (fun s Q => g_cR (n + 1 + 1 + 1) 2 La s o d Q) (sOn T lim F) := by
  intro s a r Q H hz ha h
  show g_cR (n + 1 + 1 + 1) 2 La s o d Q
  rw [g_cR_2]
  unfold sOn at h
  refine tX5_one (a := a) (dp := 0) (K := fun u1 => fX5_readOne_j56 La o d (g_cR (n + 1 + 1)) u1 Q) hq (by omega) H (fun z => (ha z).1.1) (fun t1 f1 h1 => ?_)
  have ok := sp_tC_ok h1
  have z1 : sp_cZ La t1 o := sp_cZ_kp hz (fun c i _ _ => f1 c i (by omega))
  refine ⟨fun g => ?_, fun g => ?_⟩
  · have g0 := ok.mp g
    rw [if_neg g0] at h
    have e1 := sR1_ok g0
    have hr0 : pOk r ≠ 0 := by rw [e1.1] at g0; exact g0
    obtain ⟨hc, hi⟩ := ha hr0
    rw [e1.1] at h1
    have c1 := sp_cA_kp (t := t1) hc (fun c i _ _ => f1 c i (by omega))
    have h20 := e1.2.1
    have hu : sI (sUp a) := by
      obtain ⟨i1, i2, i3, i4, i5⟩ := hi
      refine ⟨?_, ?_, ?_, i4, i5⟩
      · show 0 ≤ a.1 + 1; omega
      · show a.1 + 1 ≤ 20; omega
      · show (a.2.1.length : Int) ≤ 2 * (a.1 + 1); omega
    have hul : (a.2.1.length : Int) + 2 ≤ 2 * (a.1 + 1) := by have := hi.2.2.1; omega
    rw [c1.1]
    have hi0 := hi.1
    refine ⟨by omega, fun s7 e7 => ?_⟩
    have f7 : ∀ c i, (c = o → i ≠ 3) → s7 c i = t1 c i := fun c i z => by rw [e7, sg_upN _ (by omega)]
    have h7 : sp_tC T lim r s7 := sp_tC_kp h1 (fun c i z => f7 c i (by omega))
    have z7 : sp_cZ La s7 o := sp_cZ_kp z1 (fun c i _ _ => f7 c i (by omega))
    have c7 : sp_cA s7 o (sUp a) := by
      obtain ⟨b1, b2, b3, b4⟩ := c1
      exact ⟨by rw [e7, sg_upS]; rfl, sp_kR b2 (fun c i _ _ => f7 c i (by omega)), sp_kR b3 (fun c i _ _ => f7 c i (by omega)), sp_kR b4 (fun c i _ _ => f7 c i (by omega))⟩
    have F7 : sp_sF o s s7 := fun c i w1 w2 => by rw [f7 c i (by omega)]; exact f1 c i w1
    refine tX9_skipWord hq (by omega) h7 (fun t2 f2 h2 => ?_)
    unfold pWk at h2
    have z2 : sp_cZ La t2 o := sp_cZ_kp z7 (fun c i _ _ => f2 c i (by omega))
    have c2 := sp_cA_kp (t := t2) c7 (fun c i _ _ => f2 c i (by omega))
    have F2 : sp_sF o s t2 := fun c i w1 w2 => by rw [f2 c i w1]; exact F7 c i w1 w2
    refine ⟨fun g1 => ?_, fun g1 => ?_⟩
    · rw [if_pos g1] at h2
      rw [if_neg (fun z => z g1)] at h
      refine tX9_skipSign hq h2 (fun t3 f3 h3 => ?_)
      unfold pSk at h3
      have z3 : sp_cZ La t3 o := sp_cZ_kp z2 (fun c i _ _ => f3 c i (by omega))
      have c3 := sp_cA_kp (t := t3) c2 (fun c i _ _ => f3 c i (by omega))
      have F3 : sp_sF o s t3 := fun c i w1 w2 => by rw [f3 c i w1]; exact F2 c i w1 w2
      refine ⟨fun g2 => ?_, fun g2 => ?_⟩
      · rw [if_pos g2] at h3
        rw [if_neg (fun z => z g2)] at h
        have hl : sLf T lim r ≠ -1 := by
          rcases e1.2.2.2 with q | q | q
          · exact q
          · exact absurd g1 q
          · exact absurd g2 q
        obtain ⟨w, hw⟩ := sLf_w hl
        obtain ⟨q, eq⟩ := pOk_inr (pOk_wd hw)
        have hk : 2 ≤ tK T lim q := by rw [eq] at hw; have := pWd_1 hw; omega
        have hlr := sLf_rg (T := T) (lim := lim) r
        have n1 : (sUp a).2.1.length < 40 ∧ (sUp a).2.2.1.length < 40 ∧ (sUp a).2.2.2.length < 40 := by
          obtain ⟨i1, i2, i3, i4, i5⟩ := hu
          have e0 : (sUp a).1 = a.1 + 1 := rfl
          have e2 : (sUp a).2.1.length = a.2.1.length := rfl
          omega
        rw [eq] at h3
        refine ⟨fun g3 => ?_, fun g3 => ?_⟩
        · rw [if_pos g3] at h
          refine tX9_adv hq h3 hk (fun t4 f4 h4 => tX9_comparison hq h4 (fun t5 f5 h5 => tX9_number hq h5 (fun t6 f6 h6 => ?_)))
          have z6 : sp_cZ La t6 o := sp_cZ_kp z3 (fun c i _ _ => by rw [f6 c i (by omega), f5 c i (by omega)]; exact f4 c i (by omega))
          have c6 := sp_cA_kp (t := t6) c3 (fun c i _ _ => by rw [f6 c i (by omega), f5 c i (by omega)]; exact f4 c i (by omega))
          refine tX5_addStep ho z6 (fun t7 f7' z7' c7' => ?_)
          rw [eq] at h
          have e0 : pAd T (.inr q) = .inr (tO T q) := rfl
          rw [e0] at h
          refine h t7 (fun c i w1 w2 => by rw [f7' c i (by omega), f6 c i w1, f5 c i w1, f4 c i w1]; exact F3 c i w1 w2) (sp_tC_kp h6 (fun c i z => f7' c i (by omega))) z7' (fun _ => ?_)
          have := c7' (sUp a) c6 n1.1 n1.2.1 n1.2.2
          rw [eq] at this
          exact this
        · rw [if_neg g3] at h
          refine tX9_adv hq h3 hk (fun t4 f4 h4 => ?_)
          have z6 : sp_cZ La t4 o := sp_cZ_kp z3 (fun c i _ _ => f4 c i (by omega))
          have c6 := sp_cA_kp (t := t4) c3 (fun c i _ _ => f4 c i (by omega))
          refine tX5_addStep ho z6 (fun t7 f7' z7' c7' => ?_)
          rw [eq] at h
          refine h t7 (fun c i w1 w2 => by rw [f7' c i (by omega), f4 c i w1]; exact F3 c i w1 w2) (sp_tC_kp h4 (fun c i z => f7' c i (by omega))) z7' (fun _ => ?_)
          have := c7' (sUp a) c6 n1.1 n1.2.1 n1.2.2
          rw [eq] at this
          exact this
      · rw [if_neg g2] at h3
        rw [if_pos g2] at h
        refine ⟨by omega, hC t3 (sUp a) (pAd T r) _ h3 z3 (fun _ => ⟨c3, hu⟩) (fun t4 f4 h4 z4 c4 => tX9_skipSign hq h4 (fun t5 f5 h5 => ?_))⟩
        have F5 : sp_sF o s t5 := fun c i w1 w2 => by rw [f5 c i w1, f4 c i w1 w2]; exact F3 c i w1 w2
        have z5 : sp_cZ La t5 o := sp_cZ_kp z4 (fun c i _ _ => f5 c i (by omega))
        unfold pSk at h5
        unfold pMs at h
        refine ⟨fun g4 => ?_, fun g4 => ?_⟩
        · rw [if_neg g4] at h5 h
          exact h t5 F5 h5 z5 (fun _ => sp_cA_kp (c4 (pOk_sg g4)) (fun c i _ _ => f5 c i (by omega)))
        · rw [if_pos g4] at h5 h
          exact tX9_fail hq h5 (by omega) (fun t6 f6 h6 => h t6 (fun c i w1 w2 => by rw [f6 c i w1]; exact F5 c i w1 w2) h6 (sp_cZ_kp z5 (fun c i _ _ => f6 c i (by omega))) (fun z => absurd pOk_fl z))
    · rw [if_neg g1] at h2
      rw [if_pos g1] at h
      refine ⟨by omega, hR t2 (sUp a) (pAd T r) _ h2 z2 (fun _ => ⟨c2, hu⟩) (fun t3 f3 h3 z3 c3 => tX5_addStep ho z3 (fun t4 f4 z4 c4 => ?_))⟩
      refine h t4 (fun c i w1 w2 => by rw [f4 c i (by omega), f3 c i w1 w2]; exact F2 c i w1 w2) (sp_tC_kp h3 (fun c i z => f4 c i (by omega))) z4 (fun z => ?_)
      have hI := sFP_I hF h2.2.1 hu z
      obtain ⟨i1, i2, i3, i4, i5⟩ := hI.1
      have := hI.2
      exact c4 _ (c3 z) (by omega) (by omega) (by omega)
  · have g0 : pOk (sR1 T lim a 0 r) = 0 := Decidable.byContradiction fun z => g (ok.mpr z)
    rw [if_pos g0] at h
    exact h t1 (fun c i w1 _ => f1 c i w1) h1 z1 (fun z => absurd g0 z)
theorem sCP_one {o : Int} (ho : 3 < o) (hq : sp_tq T lim) : ∀ (m n : Nat) (d : Int), m ≤ 8 → d = 9 - m → 3 * m + 1 ≤ n → sCP T lim La o (fun s Q => g_cR n 2 La s o d Q) (sOne T lim m)
  | 0, n, d, hm, hd, hn => by
    obtain ⟨n', rfl⟩ : ∃ n', n = n' + 1 := ⟨n - 1, by omega⟩
    intro s a r Q H hz ha h
    show g_cR (n' + 1) 2 La s o d Q
    rw [g_cR_2]
    refine tX5_one (a := a) (dp := 1) (K := fun u1 => fX5_readOne_j56 La o d (g_cR n') u1 Q) hq (by omega) H (fun z => (ha z).1.1) (fun t1 f1 h1 => ?_)
    have ok := sp_tC_ok h1
    have g0 : pOk (sR1 T lim a 1 r) = 0 := Decidable.byContradiction fun z => by have := (sR1_ok z).2.2.1; omega
    refine ⟨fun g => absurd g0 (ok.mp g), fun g => h t1 (fun c i w1 _ => f1 c i w1) h1 (sp_cZ_kp hz (fun c i _ _ => f1 c i (by omega))) (fun z => absurd g0 z)⟩
  | m + 1, n, d, hm, hd, hn => by
    obtain ⟨n', rfl⟩ : ∃ n', n = n' + 1 + 1 + 1 := ⟨n - 3, by omega⟩
    have hF := sFP_one (T := T) (lim := lim) hq m
    have k1 := sCP_one ho hq m (n' + 1 + 1) (d + 1) (by omega) (by omega) (by omega)
    have k2 := sCP_one ho hq m n' (d + 1) (by omega) (by omega) (by omega)
    exact sCP_on ho hq (by omega) (by omega) hF k1 (sCP_co ho hq hF k2)
end SGSc
