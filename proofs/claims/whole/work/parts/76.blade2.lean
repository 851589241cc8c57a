/-! LEVEL 2: blade(), the reference's call. -/
noncomputable section SGBe
variable {T : List Int} {lim : Int} {s : sg_M} {B : sg_M}
/-- the reference's row of what was read -/
def sp_mR (s : sg_M) (B : sg_M) : Prop := s 67 0 = B 4 0 ∧ s 67 1 = (if B 4 1 = 0 then 300 else B 4 1) ∧ s 67 2 = (if B 4 2 = 0 then 2000 else B 4 2) ∧ s 64 21 = (if B 4 1 = 0 then 0 else 2) + (if B 4 2 = 0 then 0 else 4) ∧
  ∀ i, 0 ≤ i → i < B 4 0 → s 67 (10 + 4 * i + 0) = B 0 i ∧ s 67 (10 + 4 * i + 1) = B 1 i ∧ s 67 (10 + 4 * i + 2) = B 2 i ∧ s 67 (10 + 4 * i + 3) = B 3 i
theorem sp_mR_kp {t : sg_M} (h : sp_mR s B) (e : ∀ c i, c = 67 ∨ (c = 64 ∧ i = 21) → t c i = s c i) : sp_mR t B := by
  obtain ⟨h1, h2, h3, h4, h5⟩ := h
  refine ⟨by rw [e 67 0 (by omega)]; exact h1, by rw [e 67 1 (by omega)]; exact h2, by rw [e 67 2 (by omega)]; exact h3, by rw [e 64 21 (by omega)]; exact h4, fun i q1 q2 => ?_⟩
  rw [e 67 _ (by omega), e 67 _ (by omega), e 67 _ (by omega), e 67 _ (by omega)]
  exact h5 i q1 q2
theorem sp_mR_tF {t : sg_M} (h : sp_mR s B) (e : sp_tF s t) : sp_mR t B := sp_mR_kp h (fun c i q => e c i (by omega))
abbrev sp_rF (s t : sg_M) : Prop := ∀ c i, (c = 64 → i < 5 ∨ (13 < i ∧ i ≠ 21)) → c ≠ 67 → t c i = s c i
theorem tX12_isW {k w : Nat} {q : Int} {Q : Int → Prop} (e : sp_wx k = w) (hk : k < 22) (H : sp_tM T lim (.inr q) s) (h : Q (pWd T lim w (.inr q))) : fX12_isWord s k Q := tX12_isWord hk H (by rw [e]; exact h)
theorem sp_rlL {s36 s52 s57 : sg_M} {m w k e n : Int} {Q : Int → sg_M → Prop} {s0 : sg_M} (hm : s36 64 8 = m) (hw : s52 64 13 = w) (hk : s57 64 13 = k) (hI : bI B) (hR : sp_mR s0 B) (hm0 : 0 ≤ m ∧ B 4 0 + m ≤ 60)
    (h : ∀ t, (∀ c i, c ≠ 67 → t c i = s0 c i) → sp_mR t (bAdd B m w k e n) → fX12_readEnd t (fun u65 s67 => Q u65 s67)) :
    ∀ (r : Nat) (j : Int) (t : sg_M), 0 ≤ j → j + r = m → (∀ c i, (c = 67 → i ≠ 0 ∧ i < 10 + 4 * B 4 0) → t c i = s0 c i) → t 67 0 = B 4 0 + j → (∀ i, B 4 0 ≤ i → i < B 4 0 + j → t 67 (10 + 4 * i + 0) = w ∧ t 67 (10 + 4 * i + 1) = k ∧ t 67 (10 + 4 * i + 2) = e ∧ t 67 (10 + 4 * i + 3) = n) → fX12_readLine_L288 s36 s52 s57 e n Q (r + 1) t j
  | 0, j, t, h0, hj, hF, h670, hv => by
    have hn := hI.1
    rw [fX12_readLine_L288, hm]
    refine ⟨fun _ => h t (fun c i z => hF c i (by omega)) ?_, fun g => absurd (show m ≤ j by omega) g⟩
    obtain ⟨h1, h2, h3, h4, h5⟩ := hR
    refine ⟨?_, ?_, ?_, ?_, fun i q1 q2 => ?_⟩
    · show t 67 0 = B 4 0 + m
      omega
    · rw [hF 67 1 (by omega)]; exact h2
    · rw [hF 67 2 (by omega)]; exact h3
    · rw [hF 64 21 (by omega)]; exact h4
    · have q2 : i < B 4 0 + m := q2
      by_cases hi : B 4 0 ≤ i
      · obtain ⟨e0, e1, e2, e3⟩ := bAdd_in (w := w) (k := k) (e := e) (n := n) ⟨hi, q2⟩
        rw [e0, e1, e2, e3]; exact hv i hi (by omega)
      · rw [bAdd_out (by omega) (by omega), bAdd_out (by omega) (by omega), bAdd_out (by omega) (by omega), bAdd_out (by omega) (by omega)]
        rw [hF 67 _ (by omega), hF 67 _ (by omega), hF 67 _ (by omega), hF 67 _ (by omega)]
        exact h5 i q1 (by omega)
  | r + 1, j, t, h0, hj, hF, h670, hv => by
    have hn := hI.1
    rw [fX12_readLine_L288, hm]
    refine ⟨fun g => absurd g (by omega), fun _ => ?_⟩
    rw [h670]
    refine ⟨by omega, fun s72 e72 => ?_⟩
    have a72 : s72 67 0 = B 4 0 + j := by rw [e72, sg_upN _ (by omega)]; exact h670
    refine ⟨by omega, fun s76 e76 => ?_⟩
    have a76 : s76 67 0 = B 4 0 + j := by rw [e76, sg_upN _ (by omega)]; exact a72
    refine ⟨by omega, fun s80 e80 => ?_⟩
    have a80 : s80 67 0 = B 4 0 + j := by rw [e80, sg_upN _ (by omega)]; exact a76
    refine ⟨by omega, fun s84 e84 => ?_⟩
    have a84 : s84 67 0 = B 4 0 + j := by rw [e84, sg_upN _ (by omega)]; exact a80
    rw [a84]
    refine ⟨by omega, fun s89 e89 => ⟨by omega, ?_⟩⟩
    rw [hw] at e72
    rw [hk] at e76
    refine sp_rlL hm hw hk hI hR hm0 h r (j + 1) s89 (by omega) (by omega) (fun c i q => ?_) ?_ (fun i q1 q2 => ?_)
    · rw [e89, sg_upN _ (by omega), e84, sg_upN _ (by omega), e80, sg_upN _ (by omega), e76, sg_upN _ (by omega), e72, sg_upN _ (by omega)]; exact hF c i q
    · rw [e89, sg_upS]; omega
    · by_cases hi : i = B 4 0 + j
      · rw [hi]
        refine ⟨?_, ?_, ?_, ?_⟩
        · rw [e89, sg_upN _ (by omega), e84, sg_upN _ (by omega), e80, sg_upN _ (by omega), e76, sg_upN _ (by omega), e72, sg_upS]
        · rw [e89, sg_upN _ (by omega), e84, sg_upN _ (by omega), e80, sg_upN _ (by omega), e76, sg_upS]
        · rw [e89, sg_upN _ (by omega), e84, sg_upN _ (by omega), e80, sg_upS]
        · rw [e89, sg_upN _ (by omega), e84, sg_upS]
      · have f : ∀ x, 0 ≤ x → x ≤ 3 → s89 67 (10 + 4 * i + x) = t 67 (10 + 4 * i + x) := fun x x1 x2 => by
          rw [e89, sg_upN _ (by omega), e84, sg_upN _ (by omega), e80, sg_upN _ (by omega), e76, sg_upN _ (by omega), e72, sg_upN _ (by omega)]
        rw [f 0 (by omega) (by omega), f 1 (by omega) (by omega), f 2 (by omega) (by omega), f 3 (by omega) (by omega)]
        exact hv i q1 (by omega)
theorem tX12_fin {q m w k e n : Int} {s36 s52 s57 : sg_M} {Q : Int → sg_M → Prop} (hq : sp_tq T lim) (H : sp_tM T lim (.inr q) s) (hR : sp_mR s B) (hI : bI B) (hm : s36 64 8 = m) (hw : s52 64 13 = w) (hk : s57 64 13 = k) (hm0 : 0 ≤ m ∧ B 4 0 + m ≤ 60)
    (h : ∀ t, sp_rF s t → sp_tM T lim (pMs T lim 59 (lFin B m w k e n (.inr q)).2) t → (pOk (pMs T lim 59 (lFin B m w k e n (.inr q)).2) ≠ 0 → sp_mR t (lFin B m w k e n (.inr q)).1) → Q (pOk (pMs T lim 59 (lFin B m w k e n (.inr q)).2)) t) : fX12_readLine_j285 s36 s52 s57 e Q s n := by
  have e2 : (lFin B m w k e n (.inr q)).2 = .inr q := rfl
  have e1 : (lFin B m w k e n (.inr q)).1 = bAdd B m w k e n := by
    show (if pOk (.inr q) = 0 then B else bAdd B m w k e n) = _
    exact if_neg (show ¬ (1 : Int) = 0 by omega)
  rw [e2, e1] at h
  refine ⟨m.toNat + 1, sp_rlL (s0 := s) hm hw hk hI hR hm0 (fun t hF ht => ?_) m.toNat 0 s (by omega) (by omega) (fun _ _ _ => rfl) (by rw [hR.1]; omega) (fun i q1 q2 => by omega)⟩
  refine tX12_readEnd hq (sp_tM_kp H (fun c i z => hF c i (by omega))) (fun u hu hu2 => h u (fun c i z1 z2 => by rw [hu c i (by omega)]; exact hF c i z2) hu2 (fun _ => sp_mR_tF ht hu))
theorem tX12_own {q m w k e : Int} {s36 s52 s57 : sg_M} {Q : Int → sg_M → Prop} (hq : sp_tq T lim) (H : sp_tM T lim (.inr q) s) (hR : sp_mR s B) (hI : bI B) (hm : s36 64 8 = m) (hw : s52 64 13 = w) (hk : s57 64 13 = k) (hm0 : 0 ≤ m ∧ B 4 0 + m ≤ 60)
    (h : ∀ t, sp_rF s t → sp_tM T lim (pMs T lim 59 (lOwn T lim B m w k e (.inr q)).2) t → (pOk (pMs T lim 59 (lOwn T lim B m w k e (.inr q)).2) ≠ 0 → sp_mR t (lOwn T lim B m w k e (.inr q)).1) → Q (pOk (pMs T lim 59 (lOwn T lim B m w k e (.inr q)).2)) t) : fX12_readLine_j256 s36 s52 s57 Q s e := by
  unfold lOwn at h
  refine tX12_isW (k := 2) (w := 2) rfl (by omega) H ⟨fun g => ?_, fun g => ?_⟩
  · rw [if_pos g] at h
    exact tX12_fin hq H hR hI hm hw hk hm0 h
  · rw [if_neg g] at h
    have h4 := pWd_1 g
    refine tX12_adv hq H (by omega) (fun t1 f1 _ h1 => ?_)
    have h1' : sp_tM T lim (pAd T (.inr q)) t1 := h1
    refine tX12_readSigned hq h1 (fun t2 f2 h2 h13 => ?_)
    have e0 : pSm T lim 99 (.inr (tO T q)) = pSm T lim 99 (pAd T (.inr q)) := rfl
    have e00 : pSv T lim 99 (.inr (tO T q)) = pSv T lim 99 (pAd T (.inr q)) := rfl
    rw [e0] at h2 h13 ⊢
    rw [e00] at h13
    rcases hr : pSm T lim 99 (pAd T (.inr q)) with f | q2
    · rw [hr] at h h2
      refine ⟨fun z => absurd rfl z, fun _ => h t2 (fun c i z1 z2 => by rw [f2 c i (by omega)]; exact f1 c i (by omega)) h2 (fun z => absurd rfl z)⟩
    · rw [hr] at h h2 h13
      have e13 := h13 rfl
      refine ⟨fun _ => ?_, fun z => absurd (show (1 : Int) = 0 from z) (by omega)⟩
      rw [e13]
      exact tX12_fin hq h2 (sp_mR_tF (sp_mR_tF hR f1) f2) hI hm hw hk hm0 (fun t hF => h t (fun c i z1 z2 => by rw [hF c i z1 z2, f2 c i (by omega)]; exact f1 c i (by omega)))
theorem tX12_tee {q m w k : Int} {s36 s52 : sg_M} {Q : Int → sg_M → Prop} (hq : sp_tq T lim) (H : sp_tM T lim (.inr q) s) (hR : sp_mR s B) (hI : bI B) (hm : s36 64 8 = m) (hw : s52 64 13 = w) (hw0 : 1 ≤ w ∧ w ≤ 99) (hk : s 64 13 = k) (hm0 : 0 ≤ m ∧ B 4 0 + m ≤ 60)
    (h : ∀ t, sp_rF s t → sp_tM T lim (pMs T lim 59 (lTee T lim B m w k (.inr q)).2) t → (pOk (pMs T lim 59 (lTee T lim B m w k (.inr q)).2) ≠ 0 → sp_mR t (lTee T lim B m w k (.inr q)).1) → Q (pOk (pMs T lim 59 (lTee T lim B m w k (.inr q)).2)) t) :
    fX12_isWord s 1 (fun u60 => ((u60 = 0 → (fX12_readLine_j256 s36 s52 s Q) s 0) ∧ (¬ (u60 = 0) → fX12_go s (fun s101 => (((s52 64 13) ≤ 9 → sg_R ((s52 64 13) - 1) ∧ (fX12_readLine_j242 s101 Q (fX12_readLine_j256 s36 s52 s Q)) ((s52 64 13) - 1)) ∧ (¬ ((s52 64 13) ≤ 9) → (fX12_readLine_j242 s101 Q (fX12_readLine_j256 s36 s52 s Q)) 9)))))) := by
  unfold lTee at h
  refine tX12_isW (k := 1) (w := 1) rfl (by omega) H ⟨fun g => ?_, fun g => ?_⟩
  · rw [if_pos g] at h
    exact tX12_own hq H hR hI hm hw hk hm0 h
  · rw [if_neg g] at h
    have h4 := pWd_1 g
    refine tX12_adv hq H (by omega) (fun t1 f1 _ h1 => ?_)
    have go : ∀ d, d = sg_min 9 (w - 1) → fX12_readLine_j242 t1 Q (fX12_readLine_j256 s36 s52 s Q) d := by
      intro d hd
      rw [← hd] at h
      refine tX12_readNumber hq h1 (fun t2 f2 h2 h13 => ?_)
      have e0 : pNm T lim 0 d d (.inr (tO T q)) = pNm T lim 0 d d (pAd T (.inr q)) := rfl
      have e00 : pNv T lim 0 d d (.inr (tO T q)) = pNv T lim 0 d d (pAd T (.inr q)) := rfl
      rw [e0] at h2 h13 ⊢
      rw [e00] at h13
      rcases hr : pNm T lim 0 d d (pAd T (.inr q)) with f | q2
      · rw [hr] at h h2
        have e3 : ∀ e, (lOwn T lim B m w k e (.inl f)).2 = .inl f := fun e => by unfold lOwn; rw [if_pos (show pWd T lim 2 (.inl f) = 0 from rfl)]; rfl
        rw [e3] at h
        refine ⟨fun z => absurd rfl z, fun _ => h t2 (fun c i z1 z2 => by rw [f2 c i (by omega)]; exact f1 c i (by omega)) h2 (fun z => absurd rfl z)⟩
      · rw [hr] at h h2 h13
        have e13 := h13 rfl
        refine ⟨fun _ => ?_, fun z => absurd (show (1 : Int) = 0 from z) (by omega)⟩
        rw [e13]
        exact tX12_own hq h2 (sp_mR_tF (sp_mR_tF hR f1) f2) hI hm hw hk hm0 (fun t hF => h t (fun c i z1 z2 => by rw [hF c i z1 z2, f2 c i (by omega)]; exact f1 c i (by omega)))
    rw [hw]
    exact ⟨fun z => ⟨by omega, go _ (by unfold sg_min; split <;> omega)⟩, fun z => go _ (by unfold sg_min; split <;> omega)⟩
theorem lTee_inl {m w k : Int} {f : Int × Int} : (lTee T lim B m w k (.inl f)).2 = .inl f := by
  unfold lTee; rw [if_pos (show pWd T lim 1 (.inl f) = 0 from rfl)]; unfold lOwn; rw [if_pos (show pWd T lim 2 (.inl f) = 0 from rfl)]; rfl
theorem lP3_inl {m w : Int} {f : Int × Int} : (lP3 T lim B m w (.inl f)).2 = .inl f := by
  unfold lP3; exact lTee_inl
theorem lP2_inl {m : Int} {f : Int × Int} : (lP2 T lim B m (.inl f)).2 = .inl f := by
  unfold lP2; exact lP3_inl
theorem tX12_p3 {q m w : Int} {s36 s52 : sg_M} {Q : Int → sg_M → Prop} (hq : sp_tq T lim) (H : sp_tM T lim (.inr q) s) (hR : sp_mR s B) (hI : bI B) (hm : s36 64 8 = m) (hw : s52 64 13 = w) (hw0 : 1 ≤ w ∧ w ≤ 99) (hm0 : 0 ≤ m ∧ B 4 0 + m ≤ 60)
    (h : ∀ t, sp_rF s t → sp_tM T lim (pMs T lim 59 (lP3 T lim B m w (.inr q)).2) t → (pOk (pMs T lim 59 (lP3 T lim B m w (.inr q)).2) ≠ 0 → sp_mR t (lP3 T lim B m w (.inr q)).1) → Q (pOk (pMs T lim 59 (lP3 T lim B m w (.inr q)).2)) t) :
    fX12_readNumber s 1 20 (fun u55 s57 => ((u55 ≠ 0 → fX12_isWord s57 1 (fun u60 => ((u60 = 0 → (fX12_readLine_j256 s36 s52 s57 Q) s57 0) ∧ (¬ (u60 = 0) → fX12_go s57 (fun s101 => (((s52 64 13) ≤ 9 → sg_R ((s52 64 13) - 1) ∧ (fX12_readLine_j242 s101 Q (fX12_readLine_j256 s36 s52 s57 Q)) ((s52 64 13) - 1)) ∧ (¬ ((s52 64 13) ≤ 9) → (fX12_readLine_j242 s101 Q (fX12_readLine_j256 s36 s52 s57 Q)) 9))))))) ∧ (u55 = 0 → Q 0 s57))) := by
  unfold lP3 at h
  refine tX12_readNumber hq H (fun t2 f2 h2 h13 => ?_)
  rcases hr : pNm T lim 1 20 20 (.inr q) with f | q2
  · rw [hr] at h h2
    rw [lTee_inl] at h
    exact ⟨fun z => absurd rfl z, fun _ => h t2 (fun c i z1 z2 => f2 c i (by omega)) h2 (fun z => absurd rfl z)⟩
  · rw [hr] at h h2 h13
    have e13 := h13 rfl
    refine ⟨fun _ => ?_, fun z => absurd (show (1 : Int) = 0 from z) (by omega)⟩
    exact tX12_tee hq h2 (sp_mR_tF hR f2) hI hm hw hw0 e13 hm0 (fun t hF => h t (fun c i z1 z2 => by rw [hF c i z1 z2]; exact f2 c i (by omega)))
theorem tX12_p2 {q m : Int} {s36 : sg_M} {Q : Int → sg_M → Prop} (hq : sp_tq T lim) (H : sp_tM T lim (.inr q) s) (hR : sp_mR s B) (hI : bI B) (hm : s36 64 8 = m) (hm0 : 0 ≤ m ∧ B 4 0 + m ≤ 60)
    (h : ∀ t, sp_rF s t → sp_tM T lim (pMs T lim 59 (lP2 T lim B m (.inr q)).2) t → (pOk (pMs T lim 59 (lP2 T lim B m (.inr q)).2) ≠ 0 → sp_mR t (lP2 T lim B m (.inr q)).1) → Q (pOk (pMs T lim 59 (lP2 T lim B m (.inr q)).2)) t) :
    fX12_readNumber s 1 99 (fun u50 s52 => ((u50 ≠ 0 → fX12_readNumber s52 1 20 (fun u55 s57 => ((u55 ≠ 0 → fX12_isWord s57 1 (fun u60 => ((u60 = 0 → (fX12_readLine_j256 s36 s52 s57 Q) s57 0) ∧ (¬ (u60 = 0) → fX12_go s57 (fun s101 => (((s52 64 13) ≤ 9 → sg_R ((s52 64 13) - 1) ∧ (fX12_readLine_j242 s101 Q (fX12_readLine_j256 s36 s52 s57 Q)) ((s52 64 13) - 1)) ∧ (¬ ((s52 64 13) ≤ 9) → (fX12_readLine_j242 s101 Q (fX12_readLine_j256 s36 s52 s57 Q)) 9))))))) ∧ (u55 = 0 → Q 0 s57)))) ∧ (u50 = 0 → Q 0 s52))) := by
  unfold lP2 at h
  refine tX12_readNumber hq H (fun t2 f2 h2 h13 => ?_)
  rcases hr : pNm T lim 1 99 99 (.inr q) with f | q2
  · rw [hr] at h h2
    rw [lP3_inl] at h
    exact ⟨fun z => absurd rfl z, fun _ => h t2 (fun c i z1 z2 => f2 c i (by omega)) h2 (fun z => absurd rfl z)⟩
  · have ok : pOk (pNm T lim 1 99 99 (.inr q)) ≠ 0 := by rw [hr]; exact (show (1 : Int) ≠ 0 by omega)
    have hv := pNm_ok1 ok
    rw [hr] at h h2 h13
    have e13 := h13 rfl
    refine ⟨fun _ => ?_, fun z => absurd (show (1 : Int) = 0 from z) (by omega)⟩
    exact tX12_p3 hq h2 (sp_mR_tF hR f2) hI hm e13 ⟨hv.2.1, hv.2.2.1⟩ hm0 (fun t hF => h t (fun c i z1 z2 => by rw [hF c i z1 z2]; exact f2 c i (by omega)))
theorem sp_had {had y : Int} {a b : Int} (hy : y = 1 ∨ y = 2) (hh : had = (if a = 0 then 0 else 2) + (if b = 0 then 0 else 4)) : sg_and (sg_shr had y) 1 = (if (if y = 1 then a else b) = 0 then 0 else 1) ∧
    ((if y = 1 then a else b) = 0 → sg_or had (sg_shl 1 y) = (if y = 1 then 2 else if a = 0 then 0 else 2) + (if y = 2 then 4 else if b = 0 then 0 else 4)) := by
  have d0 : sg_and (sg_shr 0 1) 1 = 0 ∧ sg_and (sg_shr 2 1) 1 = 1 ∧ sg_and (sg_shr 4 1) 1 = 0 ∧ sg_and (sg_shr 6 1) 1 = 1 ∧ sg_and (sg_shr 0 2) 1 = 0 ∧ sg_and (sg_shr 2 2) 1 = 0 ∧ sg_and (sg_shr 4 2) 1 = 1 ∧ sg_and (sg_shr 6 2) 1 = 1 := by decide +kernel
  have d1 : sg_or 0 (sg_shl 1 1) = 2 ∧ sg_or 4 (sg_shl 1 1) = 6 ∧ sg_or 0 (sg_shl 1 2) = 4 ∧ sg_or 2 (sg_shl 1 2) = 6 := by decide +kernel
  obtain ⟨d01, d02, d03, d04, d05, d06, d07, d08⟩ := d0
  obtain ⟨d11, d12, d13, d14⟩ := d1
  subst hh
  by_cases ha : a = 0 <;> by_cases hb : b = 0 <;> rcases hy with rfl | rfl <;>
    simp only [ha, hb, if_true, if_false, Int.reduceAdd, Int.reduceEq, d01, d02, d03, d04, d05, d06, d07, d08, d11, d12, d13, d14, true_and, and_true, forall_const, false_implies, implies_true]
theorem tX12_on {q y : Int} {Q : Int → sg_M → Prop} (hq : sp_tq T lim) (hy : y = 1 ∨ y = 2) (H : sp_tM T lim (.inr q) s) (hk : tK T lim q = 2) (hR : sp_mR s B)
    (h : ∀ t, sp_rF s t → sp_tM T lim (pMs T lim 59 (lOn T lim B y (.inr q)).2) t → (pOk (pMs T lim 59 (lOn T lim B y (.inr q)).2) ≠ 0 → sp_mR t (lOn T lim B y (.inr q)).1) → Q (pOk (pMs T lim 59 (lOn T lim B y (.inr q)).2)) t) : fX12_readLine_j29 s Q y := by
  have eB : B 4 y = if y = 1 then B 4 1 else B 4 2 := by rcases hy with rfl | rfl <;> rfl
  have hd := sp_had hy hR.2.2.2.1
  rw [← eB] at hd
  unfold lOn at h
  unfold fX12_readLine_j29
  rw [hd.1]
  refine ⟨fun g => ?_, fun g => ?_⟩
  · have g0 : B 4 y = 0 := Decidable.byContradiction fun z => g (if_neg z)
    rw [if_pos g0] at h
    dsimp only at h
    intro v8 e8 s10 e10
    rw [hd.2 g0] at e8
    have H10 : sp_tM T lim (.inr q) s10 := sp_tM_kp H (fun c i z => by rw [e10, sg_upN _ (by omega)])
    refine tX12_adv hq H10 (by omega) (fun t1 f1 _ h1 => tX12_readNumber hq h1 (fun t2 f2 h2 h13 => ?_))
    have e0 : pNm T lim 1 9999 9999 (.inr (tO T q)) = pNm T lim 1 9999 9999 (pAd T (.inr q)) := rfl
    have e00 : pNv T lim 1 9999 9999 (.inr (tO T q)) = pNv T lim 1 9999 9999 (pAd T (.inr q)) := rfl
    rw [e0] at h2 h13 ⊢
    rw [e00] at h13
    have f2s : ∀ c i, (c = 64 → i < 5 ∨ (13 < i ∧ i ≠ 21)) → t2 c i = s c i := fun c i z => by rw [f2 c i (by omega), f1 c i (by omega), e10, sg_upN _ (by omega)]
    rcases hr : pNm T lim 1 9999 9999 (pAd T (.inr q)) with f | q2
    · rw [hr] at h h2
      exact ⟨fun z => absurd rfl z, fun _ => h t2 (fun c i z1 _ => f2s c i z1) h2 (fun z => absurd rfl z)⟩
    · have ok : pOk (pNm T lim 1 9999 9999 (pAd T (.inr q))) ≠ 0 := by rw [hr]; exact (show (1 : Int) ≠ 0 by omega)
      have hv := pNm_ok1 ok
      rw [hr] at h h2 h13
      have e13 := h13 rfl
      refine ⟨fun _ => ⟨by omega, fun s20 e20 => ?_⟩, fun z => absurd (show (1 : Int) = 0 from z) (by omega)⟩
      rw [e13] at e20
      generalize pNv T lim 1 9999 9999 (pAd T (.inr q)) = v at *
      have t21 : t2 64 21 = v8 := by rw [f2 64 21 (by omega), f1 64 21 (by omega), e10, sg_upS]
      refine tX12_readEnd hq (sp_tM_kp h2 (fun c i z => by rw [e20, sg_upN _ (by omega)])) (fun u fu hu => h u (fun c i z1 z2 => by rw [fu c i (by omega), e20, sg_upN _ (by omega)]; exact f2s c i z1) hu (fun _ => ?_))
      refine sp_mR_tF (s := s20) ?_ fu
      obtain ⟨r1, r2, r3, r4, r5⟩ := hR
      have fB : ∀ c i, c ≠ 4 → bSet B y v c i = B c i := fun c i hc => by unfold bSet; rw [if_neg (by omega)]
      have b0 : bSet B y v 4 0 = B 4 0 := by unfold bSet; rw [if_neg (by omega)]
      have g20 : ∀ i, i ≠ y → s20 67 i = s 67 i := fun i z => by rw [e20, sg_upN _ (by omega)]; exact f2s 67 i (by omega)
      have gy : s20 67 y = v := by rw [e20, sg_upS]
      have g21 : s20 64 21 = v8 := by rw [e20, sg_upN _ (by omega)]; exact t21
      rcases hy with rfl | rfl
      · have b1 : bSet B 1 v 4 1 = v := by unfold bSet; rw [if_pos ⟨rfl, rfl⟩]
        have b2 : bSet B 1 v 4 2 = B 4 2 := by unfold bSet; rw [if_neg (by omega)]
        refine ⟨by rw [g20 0 (by omega), b0]; exact r1, by rw [gy, b1, if_neg (by omega)], by rw [g20 2 (by omega), b2]; exact r3, ?_, fun i q1 q2 => ?_⟩
        · rw [g21, e8, b1, b2, if_pos rfl, if_neg (show ¬ (1 : Int) = 2 by omega), if_neg (show ¬ v = 0 by omega)]
        · rw [b0] at q2
          rw [g20 _ (by omega), g20 _ (by omega), g20 _ (by omega), g20 _ (by omega), fB 0 i (by omega), fB 1 i (by omega), fB 2 i (by omega), fB 3 i (by omega)]
          exact r5 i q1 q2
      · have b1 : bSet B 2 v 4 1 = B 4 1 := by unfold bSet; rw [if_neg (by omega)]
        have b2 : bSet B 2 v 4 2 = v := by unfold bSet; rw [if_pos ⟨rfl, rfl⟩]
        refine ⟨by rw [g20 0 (by omega), b0]; exact r1, by rw [g20 1 (by omega), b1]; exact r2, by rw [gy, b2, if_neg (by omega)], ?_, fun i q1 q2 => ?_⟩
        · rw [g21, e8, b1, b2, if_neg (show ¬ (2 : Int) = 1 by omega), if_pos rfl, if_neg (show ¬ v = 0 by omega)]
        · rw [b0] at q2
          rw [g20 _ (by omega), g20 _ (by omega), g20 _ (by omega), g20 _ (by omega), fB 0 i (by omega), fB 1 i (by omega), fB 2 i (by omega), fB 3 i (by omega)]
          exact r5 i q1 q2
  · have g0 : ¬ B 4 y = 0 := fun z => by rw [if_pos z] at g; omega
    rw [if_neg g0] at h
    exact tX12_bad hq H (by omega) (by omega) (fun t hF ht => h t (fun c i z1 _ => hF c i (by omega)) ht (fun z => absurd rfl z))
theorem tX12_readLine {q : Int} {Q : Int → sg_M → Prop} (hq : sp_tq T lim) (H : sp_tM T lim (.inr q) s) (hR : sp_mR s B) (hI : bI B)
    (h : ∀ t, sp_rF s t → sp_tM T lim (pMs T lim 59 (lB T lim B (.inr q)).2) t → (pOk (pMs T lim 59 (lB T lim B (.inr q)).2) ≠ 0 → sp_mR t (lB T lim B (.inr q)).1) → Q (pOk (pMs T lim 59 (lB T lim B (.inr q)).2)) t) : fX12_readLine s Q := by
  have ne03 : sp_wv 3 ≠ sp_wv 0 := by decide +kernel
  have ne04 : sp_wv 4 ≠ sp_wv 0 := by decide +kernel
  have ne34 : sp_wv 4 ≠ sp_wv 3 := by decide +kernel
  have hn := hI.1
  have hn2 := hI.2.1
  refine tX12_isW (k := 3) (w := 3) rfl (by omega) H ⟨fun g => ?_, fun g => ?_⟩
  · have g1 : pWd T lim 3 (.inr q) ≠ 0 := g
    have e : lB T lim B (.inr q) = lOn T lim B 1 (.inr q) := by unfold lB; rw [if_pos (pWd_ex g1 ne03), if_neg g1]
    rw [e] at h
    refine tX12_isW (k := 3) (w := 3) rfl (by omega) H ⟨fun z => absurd z g, fun _ => ?_⟩
    exact tX12_on hq (Or.inl rfl) H (pWd_1 g1).1 hR h
  · have g1 : pWd T lim 3 (.inr q) = 0 := g
    refine tX12_isW (k := 4) (w := 4) rfl (by omega) H ⟨fun g => ?_, fun g => ?_⟩
    · have g2 : pWd T lim 4 (.inr q) = 0 := g
      refine tX12_isW (k := 0) (w := 0) rfl (by omega) H ⟨fun g => ?_, fun g => ?_⟩
      · have g3 : pWd T lim 0 (.inr q) ≠ 0 := g
        have e : lB T lim B (.inr q) = lP1 T lim B (.inr (tO T q)) := by unfold lB; rw [if_neg g3]; rfl
        rw [e] at h
        have hk := (pWd_1 g3).1
        refine tX12_adv hq H (by omega) (fun t1 f1 _ h1 => ?_)
        have h1' := h1
        obtain ⟨k1, k2, k3, k4⟩ := h1'
        have e7 : t1 64 7 = tK T lim (tO T q) := k4.2.2.2.1
        have R1 := sp_mR_tF hR f1
        generalize tO T q = p at *
        unfold lP1 at h
        have eN : pNm T lim 1 60 (60 - B 4 0) (.inr p) = if tK T lim p ≠ 3 then .inl (1, tA T lim p) else if tV T p < 1 ∨ 60 < tV T p then .inl (2, tA T lim p) else if 60 - B 4 0 < tV T p then .inl (4, tA T lim p) else .inr (tO T p) := rfl
        have bd : ∀ k, 1 ≤ k ∧ k ≤ 4 → (tK T lim p = 1 → k = 1) → pNm T lim 1 60 (60 - B 4 0) (.inr p) = .inl (k, tA T lim p) → fX12_bad t1 k (fun u s => Q u s) := fun k hk h1k e => by
          rw [e, lP2_inl] at h
          exact tX12_bad hq h1 hk h1k (fun t hF ht => h t (fun c i z1 _ => by rw [hF c i (by omega)]; exact f1 c i (by omega)) ht (fun z => absurd rfl z))
        refine ⟨fun g => ?_, fun g => ?_⟩
        · have hk3 : tK T lim p = 3 := by rw [← e7]; exact g
          have e8 : t1 64 8 = tV T p := k4.2.2.2.2.2.1 hk3
          have hv := tV_rg k2.2 hk3
          rw [if_neg (by omega)] at eN
          rw [e8]
          refine tX12_isIn ?_
          split
          · rename_i g5
            rw [if_neg (by omega)] at eN
            refine ⟨fun _ => ?_, fun z => absurd z (by omega)⟩
            rw [R1.1]
            refine ⟨by omega, fun g6 => ?_, fun g6 => ?_⟩
            · rw [if_neg (by omega)] at eN
              have eV : pNv T lim 1 60 (60 - B 4 0) (.inr p) = tV T p := by
                show (if _ then _ else _) = _
                rw [if_neg (by omega), if_neg (by omega), if_neg (by omega)]
              rw [eN, eV] at h
              refine tX12_adv hq h1 (by omega) (fun t2 f2 _ h2 => ?_)
              exact tX12_p2 hq h2 (sp_mR_tF R1 f2) hI e8 (by omega) (fun t hF => h t (fun c i z1 z2 => by rw [hF c i z1 z2, f2 c i (by omega)]; exact f1 c i (by omega)))
            · rw [if_pos (by omega)] at eN
              exact bd 4 (by omega) (by omega) eN
          · rename_i g5
            rw [if_pos (by omega)] at eN
            exact ⟨fun z => absurd rfl z, fun _ => bd 2 (by omega) (by omega) eN⟩
        · rw [if_pos (fun z => g (by rw [e7]; exact z))] at eN
          exact bd 1 (by omega) (fun _ => rfl) eN
      · have g3 : pWd T lim 0 (.inr q) = 0 := g
        have e : lB T lim B (.inr q) = (B, pFl T lim 1 (.inr q)) := by unfold lB; rw [if_pos g3, if_pos g1, if_pos g2]
        rw [e] at h
        exact tX12_bad hq H (by omega) (fun _ => rfl) (fun t hF ht => h t (fun c i z1 _ => hF c i (by omega)) ht (fun z => absurd rfl z))
    · have g2 : pWd T lim 4 (.inr q) ≠ 0 := g
      have e : lB T lim B (.inr q) = lOn T lim B 2 (.inr q) := by unfold lB; rw [if_pos (pWd_ex g2 ne04), if_pos g1, if_neg g2]
      rw [e] at h
      refine tX12_isW (k := 3) (w := 3) rfl (by omega) H ⟨fun _ => ?_, fun z => absurd g1 z⟩
      exact tX12_on hq (Or.inr rfl) H (pWd_1 g2).1 hR h
end SGBe
