/-! LEVEL 2: a blade is read, as a function of the text; the class's side. -/
noncomputable section SGTb
def bAdd (B : sg_M) (m w k e n : Int) : sg_M := fun c i => if c = 4 then (if i = 0 then B 4 0 + m else B 4 i) else if B 4 0 ≤ i ∧ i < B 4 0 + m then (if c = 0 then w else if c = 1 then k else if c = 2 then e else n) else B c i
def bSet (B : sg_M) (j v : Int) : sg_M := fun c i => if c = 4 ∧ i = j then v else B c i
variable (T : List Int) (lim : Int)
def lFin (B : sg_M) (m w k e n : Int) (r : sp_rp) : sg_M × sp_rp := (if pOk r = 0 then B else bAdd B m w k e n, r)
def lOwn (B : sg_M) (m w k e : Int) (r : sp_rp) : sg_M × sp_rp := if pWd T lim 2 r = 0 then lFin B m w k e 0 r else lFin B m w k e (pSv T lim 99 (pAd T r)) (pSm T lim 99 (pAd T r))
def lTee (B : sg_M) (m w k : Int) (r : sp_rp) : sg_M × sp_rp := if pWd T lim 1 r = 0 then lOwn T lim B m w k 0 r else lOwn T lim B m w k (pNv T lim 0 (sg_min 9 (w - 1)) (sg_min 9 (w - 1)) (pAd T r)) (pNm T lim 0 (sg_min 9 (w - 1)) (sg_min 9 (w - 1)) (pAd T r))
def lP3 (B : sg_M) (m w : Int) (r : sp_rp) : sg_M × sp_rp := lTee T lim B m w (pNv T lim 1 20 20 r) (pNm T lim 1 20 20 r)
def lP2 (B : sg_M) (m : Int) (r : sp_rp) : sg_M × sp_rp := lP3 T lim B m (pNv T lim 1 99 99 r) (pNm T lim 1 99 99 r)
def lP1 (B : sg_M) (r : sp_rp) : sg_M × sp_rp := lP2 T lim B (pNv T lim 1 60 (60 - B 4 0) r) (pNm T lim 1 60 (60 - B 4 0) r)
def lOn (B : sg_M) (j : Int) (r : sp_rp) : sg_M × sp_rp := if B 4 j = 0 then (bSet B j (pNv T lim 1 9999 9999 (pAd T r)), pNm T lim 1 9999 9999 (pAd T r)) else (B, pFl T lim 3 r)
def lB (B : sg_M) (r : sp_rp) : sg_M × sp_rp := if pWd T lim 0 r = 0 then (if pWd T lim 3 r = 0 then (if pWd T lim 4 r = 0 then (B, pFl T lim 1 r) else lOn T lim B 2 r) else lOn T lim B 1 r) else lP1 T lim B (pAd T r)
def lBs : Nat → sg_M → sp_rp → sg_M × sp_rp
  | 0, B, r => (B, r)
  | n + 1, B, r => if pGo T lim r = 0 then (B, r) else lBs n (lB T lim B r).1 (pMs T lim 59 (lB T lim B r).2)
def lBe (p : sg_M × sp_rp) : sp_rp := if 3 ≤ p.1 4 0 then p.2 else pFl T lim 1 p.2
def bFill (B : sg_M) : sg_M := bSet (bSet B 1 (if B 4 1 = 0 then 300 else B 4 1)) 2 (if B 4 2 = 0 then 2000 else B 4 2)
def bI (B : sg_M) : Prop := 0 ≤ B 4 0 ∧ B 4 0 ≤ 60 ∧ 0 ≤ B 4 1 ∧ B 4 1 ≤ 9999 ∧ 0 ≤ B 4 2 ∧ B 4 2 ≤ 9999 ∧
  ∀ i, 0 ≤ i → i < B 4 0 → 1 ≤ B 0 i ∧ B 0 i ≤ 99 ∧ 1 ≤ B 1 i ∧ B 1 i ≤ 20 ∧ 0 ≤ B 2 i ∧ B 2 i < B 0 i ∧ -99 ≤ B 3 i ∧ B 3 i ≤ 99
end SGTb
noncomputable section SGTc
variable {T : List Int} {lim : Int} {r : sp_rp} {s : sg_M} {B : sg_M}
theorem pNm_ok {lo hi room : Int} (h : pOk (pNm T lim lo hi room r) ≠ 0) : ∃ q, r = .inr q ∧ tK T lim q = 3 ∧ lo ≤ tV T q ∧ tV T q ≤ hi ∧ tV T q ≤ room ∧ pNm T lim lo hi room r = .inr (tO T q) ∧ pNv T lim lo hi room r = tV T q := by
  match r, h with
  | .inl f, h => exact absurd rfl h
  | .inr q, h =>
    have eN : pNm T lim lo hi room (.inr q) = if tK T lim q ≠ 3 then .inl (1, tA T lim q) else if tV T q < lo ∨ hi < tV T q then .inl (2, tA T lim q) else if room < tV T q then .inl (4, tA T lim q) else .inr (tO T q) := rfl
    have eV : pNv T lim lo hi room (.inr q) = if tK T lim q ≠ 3 then 0 else if tV T q < lo ∨ hi < tV T q then 0 else if room < tV T q then 0 else tV T q := rfl
    by_cases g1 : tK T lim q ≠ 3
    · rw [eN, if_pos g1] at h; exact absurd rfl h
    · rw [if_neg g1] at eN eV
      by_cases g2 : tV T q < lo ∨ hi < tV T q
      · rw [eN, if_pos g2] at h; exact absurd rfl h
      · rw [if_neg g2] at eN eV
        by_cases g3 : room < tV T q
        · rw [eN, if_pos g3] at h; exact absurd rfl h
        · rw [if_neg g3] at eN eV
          exact ⟨q, rfl, by omega, by omega, by omega, by omega, eN, eV⟩
theorem pNv_0 {lo hi room : Int} (h : pOk (pNm T lim lo hi room r) = 0) : pNv T lim lo hi room r = 0 := by
  match r, h with
  | .inl f, h => rfl
  | .inr q, h =>
    have eN : pNm T lim lo hi room (.inr q) = if tK T lim q ≠ 3 then .inl (1, tA T lim q) else if tV T q < lo ∨ hi < tV T q then .inl (2, tA T lim q) else if room < tV T q then .inl (4, tA T lim q) else .inr (tO T q) := rfl
    have eV : pNv T lim lo hi room (.inr q) = if tK T lim q ≠ 3 then 0 else if tV T q < lo ∨ hi < tV T q then 0 else if room < tV T q then 0 else tV T q := rfl
    by_cases g1 : tK T lim q ≠ 3
    · rw [eV, if_pos g1]
    · rw [if_neg g1] at eN eV
      by_cases g2 : tV T q < lo ∨ hi < tV T q
      · rw [eV, if_pos g2]
      · rw [if_neg g2] at eN eV
        by_cases g3 : room < tV T q
        · rw [eV, if_pos g3]
        · rw [if_neg g3] at eN
          rw [eN] at h; exact absurd (show (1 : Int) = 0 from h) (by omega)
theorem pOk_ad (r : sp_rp) : pOk (pAd T r) = pOk r := by cases r <;> rfl
theorem pOk_sk (c : Int) (r : sp_rp) : pOk (pSk T lim c r) = pOk r := by
  unfold pSk; split
  · rfl
  · exact pOk_ad r
theorem pSv_rg {most : Int} (hr : pIn T r) (hi : pIn T (pSk T lim 45 r)) : -9999 ≤ pSv T lim most r ∧ pSv T lim most r ≤ 9999 := by
  have := pNv_rg (T := T) (lim := lim) 0 most most hi
  unfold pSv sp_sgn; split <;> omega
theorem pSv_ok {most : Int} (h0 : 0 ≤ most) (h : pOk (pSm T lim most r) ≠ 0) : -most ≤ pSv T lim most r ∧ pSv T lim most r ≤ most := by
  obtain ⟨q, -, -, h1, h2, -, -, e⟩ := pNm_ok h
  unfold pSv sp_sgn; rw [e]; split <;> omega
theorem pSm_ok {most : Int} (h : pOk (pSm T lim most r) ≠ 0) : pOk r ≠ 0 := by
  obtain ⟨q, e, -⟩ := pNm_ok h
  have : pOk (pSk T lim 45 r) = 1 := by rw [e]; rfl
  rw [pOk_sk] at this; omega
theorem pNm_ok1 {lo hi room : Int} (h : pOk (pNm T lim lo hi room r) ≠ 0) : pOk r ≠ 0 ∧ lo ≤ pNv T lim lo hi room r ∧ pNv T lim lo hi room r ≤ hi ∧ pNv T lim lo hi room r ≤ room := by
  obtain ⟨q, e, -, h1, h2, h3, -, e2⟩ := pNm_ok h
  rw [e2]
  exact ⟨by rw [e]; exact (show (1 : Int) ≠ 0 by omega), h1, h2, h3⟩
theorem sp_tC_ok (H : sp_tC T lim r s) : (s 3 6 = 0 ↔ pOk r ≠ 0) := by
  match r, H with
  | .inl f, H => exact ⟨fun g => absurd (H.2.2.1.symm.trans g) H.2.1.1, fun g => absurd rfl g⟩
  | .inr q, H => exact ⟨fun _ => (show (1 : Int) ≠ 0 by omega), fun _ => H.2.2.1⟩
theorem bAdd_ok {m w k e n : Int} (h : bI B) (hm : 0 ≤ m ∧ B 4 0 + m ≤ 60) (hw : 1 ≤ w ∧ w ≤ 99) (hk : 1 ≤ k ∧ k ≤ 20) (he : 0 ≤ e ∧ e < w) (hn : -99 ≤ n ∧ n ≤ 99) : bI (bAdd B m w k e n) := by
  obtain ⟨h1, h2, h3, h4, h5, h6, h7⟩ := h
  have e40 : bAdd B m w k e n 4 0 = B 4 0 + m := rfl
  have e41 : bAdd B m w k e n 4 1 = B 4 1 := rfl
  have e42 : bAdd B m w k e n 4 2 = B 4 2 := rfl
  refine ⟨by omega, by omega, by omega, by omega, by omega, by omega, fun i q1 q2 => ?_⟩
  rw [e40] at q2
  by_cases hi : B 4 0 ≤ i ∧ i < B 4 0 + m
  · have e0 : bAdd B m w k e n 0 i = w := by unfold bAdd; rw [if_neg (by omega), if_pos hi]; rfl
    have e1 : bAdd B m w k e n 1 i = k := by unfold bAdd; rw [if_neg (by omega), if_pos hi]; rfl
    have e2 : bAdd B m w k e n 2 i = e := by unfold bAdd; rw [if_neg (by omega), if_pos hi]; rfl
    have e3 : bAdd B m w k e n 3 i = n := by unfold bAdd; rw [if_neg (by omega), if_pos hi]; rfl
    rw [e0, e1, e2, e3]
    exact ⟨hw.1, hw.2, hk.1, hk.2, he.1, he.2, hn.1, hn.2⟩
  · have f : ∀ c, c ≠ 4 → bAdd B m w k e n c i = B c i := fun c hc => by unfold bAdd; rw [if_neg hc, if_neg hi]
    rw [f 0 (by omega), f 1 (by omega), f 2 (by omega), f 3 (by omega)]
    exact h7 i q1 (by omega)
theorem bAdd_in {m w k e n i : Int} (hi : B 4 0 ≤ i ∧ i < B 4 0 + m) : bAdd B m w k e n 0 i = w ∧ bAdd B m w k e n 1 i = k ∧ bAdd B m w k e n 2 i = e ∧ bAdd B m w k e n 3 i = n := by
  refine ⟨?_, ?_, ?_, ?_⟩ <;> (unfold bAdd; rw [if_neg (by omega), if_pos hi]; rfl)
theorem bAdd_out {m w k e n i c : Int} (hc : c ≠ 4) (hi : ¬ (B 4 0 ≤ i ∧ i < B 4 0 + m)) : bAdd B m w k e n c i = B c i := by unfold bAdd; rw [if_neg hc, if_neg hi]
theorem bSet_ok {j v : Int} (h : bI B) (hj : j = 1 ∨ j = 2) (hv : 0 ≤ v ∧ v ≤ 9999) : bI (bSet B j v) := by
  obtain ⟨h1, h2, h3, h4, h5, h6, h7⟩ := h
  have f : ∀ c i, c ≠ 4 → bSet B j v c i = B c i := fun c i hc => by unfold bSet; rw [if_neg (by omega)]
  have e0 : bSet B j v 4 0 = B 4 0 := by unfold bSet; rw [if_neg (by omega)]
  refine ⟨by rw [e0]; exact h1, by rw [e0]; exact h2, ?_, ?_, ?_, ?_, fun i q1 q2 => ?_⟩
  · unfold bSet; split <;> omega
  · unfold bSet; split <;> omega
  · unfold bSet; split <;> omega
  · unfold bSet; split <;> omega
  · rw [e0] at q2
    rw [f 0 i (by omega), f 1 i (by omega), f 2 i (by omega), f 3 i (by omega)]
    exact h7 i q1 q2
theorem bFill_ok (h : bI B) (h3 : 3 ≤ B 4 0) : sp_ok (bFill B) := by
  obtain ⟨h1, h2, h3', h4, h5, h6, h7⟩ := h
  have f : ∀ c i, c ≠ 4 → bFill B c i = B c i := fun c i hc => by unfold bFill bSet; rw [if_neg (by omega), if_neg (by omega)]
  have e0 : bFill B 4 0 = B 4 0 := by unfold bFill bSet; rw [if_neg (by omega), if_neg (by omega)]
  have e1 : bFill B 4 1 = if B 4 1 = 0 then 300 else B 4 1 := by unfold bFill bSet; rw [if_neg (by omega), if_pos ⟨rfl, rfl⟩]
  have e2 : bFill B 4 2 = if B 4 2 = 0 then 2000 else B 4 2 := by unfold bFill bSet; rw [if_pos ⟨rfl, rfl⟩]
  refine ⟨by omega, by omega, ?_, ?_, ?_, ?_, fun i q1 q2 => ?_⟩
  · rw [e1]; split <;> omega
  · rw [e1]; split <;> omega
  · rw [e2]; split <;> omega
  · rw [e2]; split <;> omega
  · rw [e0] at q2
    rw [f 0 i (by omega), f 1 i (by omega), f 2 i (by omega), f 3 i (by omega)]
    exact h7 i q1 q2
/-- what a reader of a blade writes -/
abbrev sp_bF (o : Int) (s t : sg_M) : Prop := ∀ c i, (c = 3 → i < 2) → (c < o ∨ o + 4 < c) → t c i = s c i
theorem sp_cB_tF {o : Int} {t : sg_M} (hB : sp_cB s o B) (ho : 3 < o) (hF : ∀ c i, (c = 3 → i < 2) → t c i = s c i) : sp_cB t o B :=
  sp_cB_same hB (fun i => hF _ i (by omega)) (fun i => hF _ i (by omega)) (fun i => hF _ i (by omega)) (fun i => hF _ i (by omega)) (fun i => hF _ i (by omega))
theorem tX1_fin {o m w k e n : Int} {Q : sg_M → Prop} (ho : 3 < o) (H : sp_tC T lim r s) (hB : sp_cB s o B) (hI : bI B) (hv : pOk r ≠ 0 → (0 ≤ m ∧ B 4 0 + m ≤ 60) ∧ (1 ≤ w ∧ w ≤ 99) ∧ (1 ≤ k ∧ k ≤ 20) ∧ (0 ≤ e ∧ e < w) ∧ (-99 ≤ n ∧ n ≤ 99))
    (h : ∀ t, sp_bF o s t → sp_tC T lim (lFin B m w k e n r).2 t → sp_cB t o (lFin B m w k e n r).1 → bI (lFin B m w k e n r).1 → Q t) : fX1_readPieces_j101 o m w k e Q s n := by
  have ok := sp_tC_ok H
  unfold lFin at h
  refine ⟨fun g => ?_, fun g => ?_⟩
  · have g0 : pOk r = 0 := Decidable.byContradiction fun z => g (ok.mpr z)
    rw [if_pos g0] at h
    exact h s (fun _ _ _ _ => rfl) H hB hI
  · have g0 := ok.mp g
    rw [if_neg g0] at h
    dsimp only at h
    obtain ⟨v1, v2, v3, v4, v5⟩ := hv g0
    obtain ⟨b0, b1, b2, b3⟩ := hB
    refine tX1_addAlike (m := B 4 0) b0 hI.1 v1.1 v1.2 (fun u fu su vu => h u (fun c i z1 z2 => fu c i (by omega) (by omega)) (sp_tC_kp H (fun c i z => fu c i (by omega) (by omega))) ⟨su, ?_, ?_, fun i q1 q2 => ?_⟩ (bAdd_ok hI v1 v2 v3 v4 v5))
    · rw [fu o 5 (by omega) (by omega)]; exact b1
    · rw [fu o 6 (by omega) (by omega)]; exact b2
    · have q2 : i < B 4 0 + m := q2
      by_cases hi : B 4 0 ≤ i
      · obtain ⟨e0, e1, e2, e3⟩ := bAdd_in (w := w) (k := k) (e := e) (n := n) ⟨hi, q2⟩
        rw [e0, e1, e2, e3]; exact vu i hi q2
      · rw [bAdd_out (by omega) (by omega), bAdd_out (by omega) (by omega), bAdd_out (by omega) (by omega), bAdd_out (by omega) (by omega)]
        rw [fu (o + 1) i (by omega) (by omega), fu (o + 2) i (by omega) (by omega), fu (o + 3) i (by omega) (by omega), fu (o + 4) i (by omega) (by omega)]
        exact b3 i q1 (by omega)
theorem tX1_own {o m w k e : Int} {Q : sg_M → Prop} (ho : 3 < o) (hq : sp_tq T lim) (H : sp_tC T lim r s) (hB : sp_cB s o B) (hI : bI B) (hv : pOk r ≠ 0 → (0 ≤ m ∧ B 4 0 + m ≤ 60) ∧ (1 ≤ w ∧ w ≤ 99) ∧ (1 ≤ k ∧ k ≤ 20) ∧ (0 ≤ e ∧ e < w))
    (h : ∀ t, sp_bF o s t → sp_tC T lim (lOwn T lim B m w k e r).2 t → sp_cB t o (lOwn T lim B m w k e r).1 → bI (lOwn T lim B m w k e r).1 → Q t) : fX1_readPieces_j68 o m w k Q s e := by
  refine tX9_skipWord (r := r) hq (by omega) H (fun t1 f1 h1 => ⟨fun g => ?_, fun g => ?_⟩)
  · unfold pWk at h1; unfold lOwn at h
    rw [if_pos g] at h1 h
    refine tX1_fin ho h1 (sp_cB_tF hB ho f1) hI (fun z => ?_) (fun t hF => h t (fun c i z1 z2 => by rw [hF c i z1 z2]; exact f1 c i z1))
    obtain ⟨v1, v2, v3, v4⟩ := hv z
    exact ⟨v1, v2, v3, v4, by omega⟩
  · unfold pWk at h1; unfold lOwn at h
    rw [if_neg g] at h1 h
    refine tX9_skipSign hq h1 (fun t2 f2 h2 => tX9_number hq h2 (fun t3 f3 h3 => ?_))
    have hn := pNv_rg (T := T) (lim := lim) 0 99 99 h2.2.1
    refine tX11_signed (by omega) ?_
    refine tX1_fin (r := pSm T lim 99 (pAd T r)) ho h3 (sp_cB_tF (sp_cB_tF (sp_cB_tF hB ho f1) ho f2) ho f3) hI (fun z => ?_) (fun t hF => h t (fun c i z1 z2 => by rw [hF c i z1 z2, f3 c i z1, f2 c i z1]; exact f1 c i z1))
    have z1 := pSm_ok z
    rw [pOk_ad] at z1
    obtain ⟨v1, v2, v3, v4⟩ := hv z1
    have := pSv_ok (by omega) z
    exact ⟨v1, v2, v3, v4, this⟩
theorem tX1_tee {o m w k : Int} {Q : sg_M → Prop} (ho : 3 < o) (hq : sp_tq T lim) (H : sp_tC T lim r s) (hB : sp_cB s o B) (hI : bI B) (hv : pOk r ≠ 0 → (0 ≤ m ∧ B 4 0 + m ≤ 60) ∧ (1 ≤ w ∧ w ≤ 99) ∧ (1 ≤ k ∧ k ≤ 20))
    (h : ∀ t, sp_bF o s t → sp_tC T lim (lTee T lim B m w k r).2 t → sp_cB t o (lTee T lim B m w k r).1 → bI (lTee T lim B m w k r).1 → Q t) :
    fX9_skipWord s 1 (fun u13 s15 => ((u13 = 0 → (fX1_readPieces_j68 o m w k Q) s15 0) ∧ (¬ (u13 = 0) → fX9_number s15 0 (sg_min 9 (w - 1)) (sg_min 9 (w - 1)) (fun u32 s34 => (fX1_readPieces_j68 o m w k Q) s34 u32)))) := by
  refine tX9_skipWord (r := r) hq (by omega) H (fun t1 f1 h1 => ⟨fun g => ?_, fun g => ?_⟩)
  · unfold pWk at h1; unfold lTee at h
    rw [if_pos g] at h1 h
    refine tX1_own ho hq h1 (sp_cB_tF hB ho f1) hI (fun z => ?_) (fun t hF => h t (fun c i z1 z2 => by rw [hF c i z1 z2]; exact f1 c i z1))
    obtain ⟨v1, v2, v3⟩ := hv z
    exact ⟨v1, v2, v3, by omega⟩
  · unfold pWk at h1; unfold lTee at h
    rw [if_neg g] at h1 h
    refine tX9_number hq h1 (fun t2 f2 h2 => ?_)
    refine tX1_own ho hq h2 (sp_cB_tF (sp_cB_tF hB ho f1) ho f2) hI (fun z => ?_) (fun t hF => h t (fun c i z1 z2 => by rw [hF c i z1 z2, f2 c i z1]; exact f1 c i z1))
    have z1 := pNm_ok1 z
    have z0 := z1.1
    rw [pOk_ad] at z0
    obtain ⟨v1, v2, v3⟩ := hv z0
    refine ⟨v1, v2, v3, z1.2.1, ?_⟩
    have := z1.2.2.1
    have e9 : sg_min 9 (w - 1) ≤ w - 1 := by unfold sg_min; split <;> omega
    omega
theorem tX1_readPieces {o : Int} {Q : sg_M → Prop} (ho : 3 < o) (hq : sp_tq T lim) (H : sp_tC T lim r s) (hB : sp_cB s o B) (hI : bI B)
    (h : ∀ t, sp_bF o s t → sp_tC T lim (lP1 T lim B r).2 t → sp_cB t o (lP1 T lim B r).1 → bI (lP1 T lim B r).1 → Q t) : fX1_readPieces s o Q := by
  have hn1 := hI.1
  have hn2 := hI.2.1
  unfold fX1_readPieces
  rw [hB.1]
  refine ⟨by omega, tX9_number hq H (fun t1 f1 h1 => tX9_number hq h1 (fun t2 f2 h2 => tX9_number hq h2 (fun t3 f3 h3 => ?_)))⟩
  have hw := pNv_rg (T := T) (lim := lim) 1 99 99 h1.2.1
  refine ⟨by omega, ?_⟩
  refine tX1_tee ho hq h3 (sp_cB_tF (sp_cB_tF (sp_cB_tF hB ho f1) ho f2) ho f3) hI (fun z => ?_) (fun t hF => h t (fun c i z1 z2 => by rw [hF c i z1 z2, f3 c i z1, f2 c i z1]; exact f1 c i z1))
  have z1 := pNm_ok1 z
  have z2 := pNm_ok1 z1.1
  have z3 := pNm_ok1 z2.1
  refine ⟨?_, ?_, ?_⟩ <;> omega
theorem tX1_once {o j : Int} {Q : Int → sg_M → Prop} (hq : sp_tq T lim) (H : sp_tC T lim r s) (hg : ∃ q, r = .inr q ∧ 2 ≤ tK T lim q)
    (h : ∀ t, (∀ c i, (c = 3 → i < 2) → t c i = s c i) → sp_tC T lim (lOn T lim B j r).2 t → Q ((lOn T lim B j r).1 4 j) t) : fX1_readOnce s (B 4 j) Q := by
  unfold lOn at h
  refine ⟨fun g => ?_, fun g => ?_⟩
  · rw [if_pos g] at h
    obtain ⟨q, e, hk⟩ := hg
    subst e
    refine tX9_adv hq H hk (fun t1 f1 h1 => tX9_number hq h1 (fun t2 f2 h2 => ?_))
    have := h t2 (fun c i z => by rw [f2 c i z]; exact f1 c i z) h2
    dsimp only at this
    rw [show bSet B j (pNv T lim 1 9999 9999 (pAd T (.inr q))) 4 j = pNv T lim 1 9999 9999 (pAd T (.inr q)) from by unfold bSet; rw [if_pos ⟨rfl, rfl⟩]] at this
    exact this
  · rw [if_neg g] at h
    exact tX9_fail hq H (by omega) h
theorem sp_cB_set {o j v : Int} (hB : sp_cB s o B) (ho : 3 < o) (hj : j = 1 ∨ j = 2) : sp_cB (sg_up s o (4 + j) v) o (bSet B j v) := by
  obtain ⟨b0, b1, b2, b3⟩ := hB
  have f : ∀ c i, c ≠ 4 → bSet B j v c i = B c i := fun c i hc => by unfold bSet; rw [if_neg (by omega)]
  have e0 : bSet B j v 4 0 = B 4 0 := by unfold bSet; rw [if_neg (by omega)]
  refine ⟨by rw [sg_upN _ (by omega), e0]; exact b0, ?_, ?_, fun i q1 q2 => ?_⟩
  · rcases hj with rfl | rfl
    · rw [show (4 : Int) + 1 = 5 by omega, sg_upS]; unfold bSet; rw [if_pos ⟨rfl, rfl⟩]
    · rw [sg_upN _ (by omega)]; unfold bSet; rw [if_neg (by omega)]; exact b1
  · rcases hj with rfl | rfl
    · rw [sg_upN _ (by omega)]; unfold bSet; rw [if_neg (by omega)]; exact b2
    · rw [show (4 : Int) + 2 = 6 by omega, sg_upS]; unfold bSet; rw [if_pos ⟨rfl, rfl⟩]
  · rw [e0] at q2
    rw [f 0 i (by omega), f 1 i (by omega), f 2 i (by omega), f 3 i (by omega), sg_upN _ (by omega), sg_upN _ (by omega), sg_upN _ (by omega), sg_upN _ (by omega)]
    exact b3 i q1 q2
theorem lOn_I {j : Int} (hI : bI B) (hj : j = 1 ∨ j = 2) (hr : pIn T (pAd T r)) : bI (lOn T lim B j r).1 := by
  unfold lOn; split
  · have := pNv_rg (T := T) (lim := lim) 1 9999 9999 hr
    exact bSet_ok hI hj this
  · exact hI
theorem lOn_is {j : Int} : (lOn T lim B j r).1 = bSet B j ((lOn T lim B j r).1 4 j) := by
  unfold lOn; split
  · show bSet B j _ = bSet B j (bSet B j _ 4 j)
    rw [show ∀ v, bSet B j v 4 j = v from fun v => by unfold bSet; rw [if_pos ⟨rfl, rfl⟩]]
  · funext c i
    show B c i = bSet B j (B 4 j) c i
    unfold bSet; split
    · rename_i g; rw [g.1, g.2]
    · rfl
theorem pIn_ad {q : Int} (h : pIn T (.inr q)) (hk : 2 ≤ tK T lim q) : pIn T (pAd T (.inr q)) := by
  have := tO_rg h.2 hk
  have h0 := h.1
  exact ⟨by omega, this.2⟩
theorem tX1_readLine {o : Int} {Q : sg_M → Prop} (ho : 3 < o) (hq : sp_tq T lim) (H : sp_tC T lim r s) (hB : sp_cB s o B) (hI : bI B)
    (h : ∀ t, sp_bF o s t → sp_tC T lim (lB T lim B r).2 t → sp_cB t o (lB T lim B r).1 → bI (lB T lim B r).1 → Q t) : fX1_readLine s o Q := by
  unfold lB at h
  have once : ∀ (j : Int) (w : Nat) (s3 : sg_M), (j = 1 ∨ j = 2) → (∀ c i, (c = 3 → i < 2) → s3 c i = s c i) → sp_tC T lim r s3 → pWd T lim w r ≠ 0 → (∀ t, sp_bF o s t → sp_tC T lim (lOn T lim B j r).2 t → sp_cB t o (lOn T lim B j r).1 → bI (lOn T lim B j r).1 → Q t) →
      fX1_readOnce s3 (s3 o (4 + j)) (fun u13 s15 => ∀ s16 : sg_M, s16 = sg_up s15 o (4 + j) u13 → Q s16) := by
    intro j w s3 hj f3 h3 hw h
    have hg : ∃ q, r = .inr q ∧ 2 ≤ tK T lim q := by
      match r, hw with
      | .inl f, hw => exact absurd rfl hw
      | .inr q, hw => exact ⟨q, rfl, by have := pWd_1 hw; omega⟩
    have e4 : s3 o (4 + j) = B 4 j := by
      rw [f3 o _ (by omega)]
      rcases hj with rfl | rfl
      · exact hB.2.1
      · exact hB.2.2.1
    rw [e4]
    refine tX1_once (o := o) hq h3 hg (fun t ft ht s16 e16 => ?_)
    have hB2 := sp_cB_set (j := j) (v := (lOn T lim B j r).1 4 j) (sp_cB_tF (sp_cB_tF hB ho f3) ho ft) ho hj
    rw [← e16, ← lOn_is] at hB2
    refine h s16 (fun c i z1 z2 => by rw [e16, sg_upN _ (by omega), ft c i z1]; exact f3 c i z1) (sp_tC_kp ht (fun c i z => by rw [e16, sg_upN _ (by omega)])) hB2 (lOn_I hI hj ?_)
    obtain ⟨q, e, hk⟩ := hg
    subst e
    exact pIn_ad H.2.1 hk
  refine tX9_skipWord (r := r) hq (by omega) H (fun t1 f1 h1 => ⟨fun g => ?_, fun g => ?_⟩)
  · unfold pWk at h1
    rw [if_pos g] at h1 h
    refine tX9_isWord hq (by omega) h1 ⟨fun g2 => ?_, fun g2 => ?_⟩
    · rw [if_pos g2] at h
      refine tX9_isWord hq (by omega) h1 ⟨fun g3 => ?_, fun g3 => ?_⟩
      · rw [if_pos g3] at h
        exact tX9_fail hq h1 (by omega) (fun t ft ht => h t (fun c i z1 _ => by rw [ft c i z1]; exact f1 c i z1) ht (sp_cB_tF (sp_cB_tF hB ho f1) ho ft) hI)
      · rw [if_neg g3] at h
        exact once 2 4 t1 (by omega) f1 h1 g3 h
    · rw [if_neg g2] at h
      exact once 1 3 t1 (by omega) f1 h1 g2 h
  · unfold pWk at h1
    rw [if_neg g] at h1 h
    exact tX1_readPieces ho hq h1 (sp_cB_tF hB ho f1) hI (fun t ft => h t (fun c i z1 z2 => by rw [ft c i z1 z2]; exact f1 c i z1))
theorem sp_bLL {o : Int} {K : sg_M → Prop} {s0 : sg_M} (ho : 3 < o) (hq : sp_tq T lim) {p : sg_M × sp_rp} (h : ∀ t, sp_bF o s0 t → sp_tC T lim p.2 t → sp_cB t o p.1 → bI p.1 → K t) :
    ∀ (n : Nat) (j : Int) (B : sg_M) (r : sp_rp) (t : sg_M), j + n = 540 → 0 ≤ j → lBs T lim n B r = p → sp_bF o s0 t → sp_tC T lim r t → sp_cB t o B → bI B → fX1_readFrom_L2 o K (n + 1) t j
  | 0, j, B, r, t, hj, h0, hp, hF, H, hB, hI => by
    rw [lBs] at hp
    subst hp
    rw [fX1_readFrom_L2]
    exact ⟨fun _ => h t hF H hB hI, fun g => absurd (show (540 : Int) ≤ j by omega) g⟩
  | n + 1, j, B, r, t, hj, h0, hp, hF, H, hB, hI => by
    rw [lBs] at hp
    rw [fX1_readFrom_L2]
    refine ⟨fun g => absurd g (by omega), fun _ => tX9_isGoingOn H ⟨fun g => ?_, fun g => ?_⟩⟩
    · rw [if_pos g] at hp
      subst hp
      exact h t hF H hB hI
    · rw [if_neg g] at hp
      refine tX1_readLine ho hq H hB hI (fun t1 f1 h1 b1 i1 => tX9_mustBeSign hq h1 (fun t2 f2 h2 => ⟨by omega, ?_⟩))
      exact sp_bLL ho hq h n (j + 1) _ _ t2 (by omega) (by omega) hp (fun c i z1 z2 => by rw [f2 c i z1, f1 c i z1 z2]; exact hF c i z1 z2) h2 (sp_cB_tF b1 ho f2) i1
theorem tX1_fillUntold {o : Int} {Q : sg_M → Prop} (ho : 3 < o) (hB : sp_cB s o B) (h : ∀ t, (∀ c i, (c = o → i ≠ 5 ∧ i ≠ 6) → t c i = s c i) → sp_cB t o (bFill B) → Q t) : fX1_fillUntold s o Q := by
  have st2 : ∀ v, v = (if B 4 1 = 0 then 300 else B 4 1) → fX1_fillUntold_j18 s o Q v := by
    intro v hv s2 e2
    have h1 := sp_cB_set (j := 1) (v := v) hB ho (by omega)
    rw [show (4 : Int) + 1 = 5 by omega, ← e2] at h1
    have e42 : bSet B 1 v 4 2 = B 4 2 := by unfold bSet; rw [if_neg (by omega)]
    have e6 : s2 o 6 = B 4 2 := by rw [h1.2.2.1]; exact e42
    rw [e6]
    have fin : ∀ w, w = (if B 4 2 = 0 then 2000 else B 4 2) → ∀ s7 : sg_M, s7 = sg_up s2 o 6 w → Q s7 := by
      intro w hw s7 e7
      have h2 := sp_cB_set (j := 2) (v := w) h1 ho (by omega)
      rw [show (4 : Int) + 2 = 6 by omega, ← e7] at h2
      refine h s7 (fun c i z => by rw [e7, sg_upN _ (by omega), e2, sg_upN _ (by omega)]) ?_
      have : bFill B = bSet (bSet B 1 v) 2 w := by unfold bFill; rw [hv, hw]
      rw [this]; exact h2
    exact ⟨fun g => fin _ (by rw [if_neg g]), fun g => fin _ (by rw [if_pos g])⟩
  unfold fX1_fillUntold
  rw [hB.2.1]
  exact ⟨fun g => st2 _ (by rw [if_neg g]), fun g => st2 _ (by rw [if_pos g])⟩
theorem tX1_readFrom {o : Int} {Q : sg_M → Prop} (ho : 3 < o) (hq : sp_tq T lim) (H : sp_tC T lim (.inr 0) s) (hB : sp_cB s o B) (hI : bI B)
    (h : ∀ t, sp_bF o s t → sp_tC T lim (lBe T lim (lBs T lim 540 B (.inr 0))) t → sp_cB t o (bFill (lBs T lim 540 B (.inr 0)).1) → bI (lBs T lim 540 B (.inr 0)).1 → Q t) : fX1_readFrom s o Q := by
  refine ⟨541, sp_bLL (s0 := s) (p := lBs T lim 540 B (.inr 0)) ho hq (fun t hF ht hB2 hI2 => ?_) 540 0 B (.inr 0) s (by omega) (by omega) rfl (fun _ _ _ _ => rfl) H hB hI⟩
  unfold lBe at h
  rw [hB2.1]
  refine ⟨fun g => ?_, fun g => ?_⟩
  · rw [if_pos g] at h
    exact tX1_fillUntold ho hB2 (fun u fu hu => h u (fun c i z1 z2 => by rw [fu c i (by omega)]; exact hF c i z1 z2) (sp_tC_kp ht (fun c i z => fu c i (by omega))) hu hI2)
  · rw [if_neg g] at h
    refine tX9_fail hq ht (by omega) (fun v fv hv => tX1_fillUntold ho (sp_cB_tF hB2 ho fv) (fun u fu hu => h u (fun c i z1 z2 => by rw [fu c i (by omega), fv c i z1]; exact hF c i z1 z2) (sp_tC_kp hv (fun c i z => fu c i (by omega))) hu hI2))
/-- the text is used up, and what fault there was -/
def zTF (z : sp_Z) (k : Int) : sp_Z := ([], k, z.2.2)
def sp_B0 : sg_M := fun _ _ => 0
theorem sp_B0_I : bI sp_B0 := ⟨by unfold sp_B0; omega, by unfold sp_B0; omega, by unfold sp_B0; omega, by unfold sp_B0; omega, by unfold sp_B0; omega, by unfold sp_B0; omega, fun i q1 q2 => absurd q2 (by unfold sp_B0; omega)⟩
def pBl (z : sp_Z) : sg_M × sp_rp := lBs (zT z) 500 540 sp_B0 (.inr 0)
def aBlade (z : sp_Z) : Int := match lBe (zT z) 500 (pBl z) with
  | .inl f => -1 - f.2
  | .inr _ => (pBl z).1 4 0
def yBlade (z : sp_Z) : sp_Z := match lBe (zT z) 500 (pBl z) with
  | .inl f => zTF z f.1
  | .inr _ => zN' (zTF z 0) (sp_yB (zN z) (bFill (pBl z).1))
theorem sp_tq_z {z : sp_Z} (hw : sp_wZ z) {lim : Int} (hl : 0 ≤ lim ∧ lim ≤ 540) : sp_tq (zT z) lim := ⟨hw.1, hw.2.1, hl⟩
/-- the class's state after a text that was read with a fault, or with none and a new N -/
theorem tX11_closeText {La La' : sg_L} {z : sp_Z} {x : Int} {r : sp_rp} {N : sp_N} {Q : Int → sg_M → Prop} {t : sg_M} (H : sp_RC La s z) (hX : sg_X La La') (h89 : 89 ≤ La.1) (ht : sp_tC (zT z) lim r t) (hl : (zT z).length ≤ 540)
    (e : ∀ c i : Int, c ≠ 3 → (c = 4 → 2 < i ∨ pOk r = 0) → c < La.1 → t c i = s c i) (hN : pOk r ≠ 0 → ∀ u, (∀ c i, c ≠ 0 → c ≠ 1 → c ≠ 58 → c ≠ 62 → u c i = t c i) → sp_cN La' u 4 20 25 N)
    (h : ∀ u, (∀ c i, 64 ≤ c → u c i = t c i) → sp_RC La' u (match (generalizing := false) r with | .inl f => zTF z f.1 | .inr _ => zN' (zTF z 0) N) → Q (match (generalizing := false) r with | .inl f => -1 - f.2 | .inr _ => x) u) : fX11_closeText t x Q := by
  have hx := hX.1
  intro s2 e2 s6 e6
  have f2 : ∀ c i, (c = 1 → i ≠ 1) → (c = 0 → i ≠ 16) → s6 c i = t c i := fun c i z1 z2 => by rw [e6, sg_upN _ (by omega), e2, sg_upN _ (by omega)]
  have e16 : s6 0 16 = t 3 6 := by rw [e6, sg_upS, e2, sg_upN _ (by omega)]
  have e37 : s6 3 7 = t 3 7 := f2 3 7 (by omega) (by omega)
  have e11 : s6 1 1 = 0 := by rw [e6, sg_upN _ (by omega), e2, sg_upS]
  rw [e16, e37]
  have ok := sp_tC_ok ht
  refine ⟨fun g => tX11_forgetAnswers (fun u fu h58 h62 => ?_), fun g => ?_⟩
  · have g0 := ok.mp g
    obtain ⟨q, eq⟩ := pOk_inr g0
    subst eq
    refine h u (fun c i hc => by rw [fu c i (by omega) (by omega)]; exact f2 c i (by omega) (by omega)) ?_
    have H' := H
    rw [sp_RC_eq] at H' ⊢
    obtain ⟨hT, hF, hN0, hI, hL, hG, hW, hR, hD, hE, hU, hQ, hK⟩ := H'
    have f : ∀ c i : Int, c ≠ 3 → (c = 4 → 2 < i) → c < La.1 → (c = 1 → i ≠ 1) → (c = 0 → i ≠ 16) → (c = 58 → i ≠ 2) → (c = 62 → i ≠ 2) → u c i = s c i := fun c i z1 z2 z3 z4 z5 z6 z7 => by
      rw [fu c i z6 z7, f2 c i z4 z5]; exact e c i z1 (fun zz => Or.inl (z2 zz)) z3
    refine ⟨⟨?_, trivial⟩, ?_, hN (by exact (show (1 : Int) ≠ 0 by omega)) u (fun c i z1 z2 z3 z4 => by rw [fu c i (fun zz => absurd zz z3) (fun zz => absurd zz z4)]; exact f2 c i (fun zz => absurd zz z2) (fun zz => absurd zz z1)), ?_, ?_, ?_, ?_, ?_, ?_, ?_, ?_, fun zz => absurd h58 zz, fun zz => absurd h62 zz⟩
    · rw [fu 1 1 (by omega) (by omega), e11]; rfl
    · rw [fu 0 16 (by omega) (by omega), e16]; exact g
    · exact sp_kI hI hX h89 (fun c i hc => f c i (by omega) (by omega) (by omega) (by omega) (by omega) (by omega) (by omega))
    · exact sp_kL hL (fun i => f 37 i (by omega) (by omega) (by omega) (by omega) (by omega) (by omega) (by omega))
    · exact sp_kR hG (fun c i _ _ => f c i (by omega) (by omega) (by omega) (by omega) (by omega) (by omega) (by omega))
    · show u 0 17 = zW z
      rw [f 0 17 (by omega) (by omega) (by omega) (by omega) (by omega) (by omega) (by omega)]; exact hW
    · show u 0 18 = zR z
      rw [f 0 18 (by omega) (by omega) (by omega) (by omega) (by omega) (by omega) (by omega)]; exact hR
    · exact sp_kR hD (fun c i _ _ => f c i (by omega) (by omega) (by omega) (by omega) (by omega) (by omega) (by omega))
    · exact sp_kR hE (fun c i _ _ => f c i (by omega) (by omega) (by omega) (by omega) (by omega) (by omega) (by omega))
    · exact sp_kR hU (fun c i _ _ => f c i (by omega) (by omega) (by omega) (by omega) (by omega) (by omega) (by omega))
  · have g0 : pOk r = 0 := Decidable.byContradiction fun zz => g (ok.mpr zz)
    obtain ⟨k, ek⟩ := pOk_inl g0
    subst ek
    have ht2 : t 3 6 = k.1 ∧ t 3 7 = k.2 := ht.2.2
    have hk := ht.2.1
    obtain ⟨-, -, -, hk4, hk5⟩ := hk
    rw [ht2.2]
    refine ⟨by omega, h s6 (fun c i hc => f2 c i (by omega) (by omega)) ?_⟩
    have H' := H
    rw [sp_RC_eq] at H' ⊢
    obtain ⟨hT, hF, hN0, hI, hL, hG, hW, hR, hD, hE, hU, hQ, hK⟩ := H'
    have f : ∀ c i : Int, c ≠ 3 → c < La.1 → (c = 1 → i ≠ 1) → (c = 0 → i ≠ 16) → s6 c i = s c i := fun c i z1 z3 z4 z5 => by
      rw [f2 c i z4 z5]; exact e c i z1 (fun _ => Or.inr rfl) z3
    refine ⟨⟨?_, trivial⟩, ?_, sp_kN hN0 hX h89 (fun c i hc => f c i (by omega) (by omega) (by omega) (by omega)), ?_, ?_, ?_, ?_, ?_, ?_, ?_, ?_, ?_, ?_⟩
    · rw [e11]; rfl
    · rw [e16]; exact ht2.1
    · exact sp_kI hI hX h89 (fun c i hc => f c i (by omega) (by omega) (by omega) (by omega))
    · exact sp_kL hL (fun i => f 37 i (by omega) (by omega) (by omega) (by omega))
    · exact sp_kR hG (fun c i _ _ => f c i (by omega) (by omega) (by omega) (by omega))
    · show s6 0 17 = zW z
      rw [f 0 17 (by omega) (by omega) (by omega) (by omega)]; exact hW
    · show s6 0 18 = zR z
      rw [f 0 18 (by omega) (by omega) (by omega) (by omega)]; exact hR
    · exact sp_kR hD (fun c i _ _ => f c i (by omega) (by omega) (by omega) (by omega))
    · exact sp_kR hE (fun c i _ _ => f c i (by omega) (by omega) (by omega) (by omega))
    · exact sp_kR hU (fun c i _ _ => f c i (by omega) (by omega) (by omega) (by omega))
    · exact sp_kQ hQ (fun c i _ _ => f c i (by omega) (by omega) (by omega) (by omega))
    · exact sp_kK hK (fun c i _ _ => f c i (by omega) (by omega) (by omega) (by omega))
end SGTc
