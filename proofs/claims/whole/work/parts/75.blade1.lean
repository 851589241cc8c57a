/-! LEVEL 2: blade(), the class's call. -/
noncomputable section SGBc
variable {La : sg_L} {s : sg_M} {z : sp_Z}
theorem bFill_0 (B : sg_M) : bFill B 4 0 = B 4 0 := by unfold bFill bSet; rw [if_neg (by omega), if_neg (by omega)]
/-- the blade of new cells is the blade now -/
theorem sp_cN_new {La' : sg_L} {u : sg_M} {B : sg_M} (H : sp_RC La s z) (hX : sg_X La La') (h89 : 89 ≤ La.1) (n : La.1 + 5 ≤ La'.1) (k0 : La'.2.1 La.1 = 1) (f : ∀ c i : Int, c ≠ 0 → c ≠ 1 → c ≠ 3 → c ≠ 58 → c ≠ 62 → (c = 4 → i ≠ 0) → c < La.1 → u c i = s c i) (f40 : u 4 0 = (La.1 : Int)) (hB : sp_cB u La.1 B) : sp_cN La' u 4 20 25 (sp_yB (zN z) B) := by
  rw [sp_RC_eq] at H
  obtain ⟨-, -, ⟨n1, n2, n3, n4, n5⟩, hI, -⟩ := H
  have hk : sp_kp La s u := ⟨fun c i hc => f c i (by omega) (by omega) (by omega) (by omega) (by omega) (by omega) (by omega), fun j _ _ => Or.inl (f 26 j (by omega) (by omega) (by omega) (by omega) (by omega) (by omega) (by omega))⟩
  refine ⟨?_, ?_, ?_, sp_cK_same n4 hX (by omega) (by omega) (fun c i q1 q2 => f c i (by omega) (by omega) (by omega) (by omega) (by omega) (by omega) (by omega)), sp_cF_same n5 hX h89 hk (fun i => f 25 i (by omega) (by omega) (by omega) (by omega) (by omega) (by omega) (by omega))⟩
  · rw [f40]
    refine ⟨⟨?_, Or.inr ⟨by omega, by omega, fun k k0' k1 => ?_⟩⟩, hB⟩
    · rw [Int.toNat_natCast]; exact k0
    · rw [f 26 k (by omega) (by omega) (by omega) (by omega) (by omega) (by omega) (by omega)]
      intro q
      rcases hI.1 k k0' k1 with ⟨-, q2⟩ | ⟨q1, q2, q3, -⟩
      · omega
      · right; omega
  · rw [f 4 1 (by omega) (by omega) (by omega) (by omega) (by omega) (by omega) (by omega)]; exact sp_cH_same n2 hX h89 hk
  · rw [f 4 2 (by omega) (by omega) (by omega) (by omega) (by omega) (by omega) (by omega)]; exact sp_cS_same n3 hX h89 hk
theorem k1Blade {Q : Int → sg_L → sg_M → Prop} (h89 : 89 ≤ La.1) (hw : sp_wZ z) (H : sp_RC La s z) (h : ∀ La' s', sg_X La La' → La'.1 ≤ La.1 + 7 → sp_FM s s' → sp_RC La' s' (yBlade z) → Q (aBlade z) La' s') : fX11_blade La s Q := by
  have hq : sp_tq (zT z) 500 := sp_tq_z hw (by omega)
  intro q1 La2 hL2 s3 h3 o4 h4
  subst hL2; subst h3; subst h4
  refine tX1_new (fun La13 s14 X13 n13 k0 k13 f14 a4 a5 a6 => ?_)
  have hT14 : s14 1 1 = (zT z).length ∧ sg_ar (s14 2) 0 (zT z) := sp_kT H.1 (fun c i g => f14 c i (by omega))
  refine tX9_open hq hT14 (fun t1 f1 h1 => ?_)
  have hB1 : sp_cB t1 La.1 sp_B0 := by
    refine ⟨?_, ?_, ?_, fun i q1 q2 => absurd q2 (by unfold sp_B0; omega)⟩
    · rw [f1 _ 4 (by omega)]; exact a4
    · rw [f1 _ 5 (by omega)]; exact a5
    · rw [f1 _ 6 (by omega)]; exact a6
  refine tX1_readFrom (o := (La.1 : Int)) (by omega) hq h1 hB1 sp_B0_I (fun t2 f2 h2 hB2 hI2 => ?_)
  have f : ∀ c i : Int, c ≠ 3 → c < La.1 → t2 c i = s c i := fun c i z1 z2 => by rw [f2 c i (by omega) (by omega), f1 c i (by omega)]; exact f14 c i z2
  have ok := sp_tC_ok h2
  change sp_tC (zT z) 500 (lBe (zT z) 500 (pBl z)) t2 at h2
  change t2 3 6 = 0 ↔ pOk (lBe (zT z) 500 (pBl z)) ≠ 0 at ok
  change sp_cB t2 La.1 (bFill (pBl z).1) at hB2
  unfold aBlade yBlade at h
  rcases hr : lBe (zT z) 500 (pBl z) with fl | q
  · rw [hr] at h h2 ok
    refine ⟨fun g => ?_, fun g => absurd rfl (ok.mp g)⟩
    refine tX11_closeText (r := .inl fl) (N := zN z) H X13 h89 h2 hw.1 (fun c i z1 _ z3 => f c i z1 z3) (fun zz => absurd rfl zz) (fun u fu hu => ?_)
    exact h La13 u X13 (by omega) (fun c i z1 z2 => by rw [fu c i z1]; exact f c i (by omega) (by omega)) hu
  · rw [hr] at h h2 ok
    refine ⟨fun g => absurd (ok.mpr (show (1 : Int) ≠ 0 by omega)) g, fun g s31 e31 => ?_⟩
    have g31 : ∀ c i, (c = 4 → i ≠ 0) → s31 c i = t2 c i := fun c i zz => by rw [e31, sg_upN _ (by omega)]
    have hB3 : sp_cB s31 La.1 (bFill (pBl z).1) := sp_cB_same hB2 (fun i => g31 _ i (by omega)) (fun i => g31 _ i (by omega)) (fun i => g31 _ i (by omega)) (fun i => g31 _ i (by omega)) (fun i => g31 _ i (by omega))
    have ex : s31 La.1 4 = (pBl z).1 4 0 := by rw [hB3.1, bFill_0]
    rw [ex]
    refine tX11_closeText (r := .inr q) (N := sp_yB (zN z) (bFill (pBl z).1)) H X13 h89 (sp_tC_kp h2 (fun c i zz => g31 c i (by omega))) hw.1 (fun c i z1 z2 z3 => ?_) (fun _ u fu => ?_) (fun u fu hu => ?_)
    · have z4 : c = 4 → 2 < i := fun zz => (z2 zz).resolve_right (show ¬ (1 : Int) = 0 by omega)
      rw [g31 c i (by omega)]; exact f c i z1 z3
    · refine sp_cN_new H X13 h89 (by omega) k0 (fun c i z1 z2 z3 z4 z5 z6 z7 => by rw [fu c i z1 z2 z4 z5, g31 c i z6]; exact f c i z3 z7) ?_ ?_
      · rw [fu 4 0 (by omega) (by omega) (by omega) (by omega), e31, sg_upS]
      · exact sp_cB_same hB3 (fun i => fu _ i (by omega) (by omega) (by omega) (by omega)) (fun i => fu _ i (by omega) (by omega) (by omega) (by omega)) (fun i => fu _ i (by omega) (by omega) (by omega) (by omega)) (fun i => fu _ i (by omega) (by omega) (by omega) (by omega)) (fun i => fu _ i (by omega) (by omega) (by omega) (by omega))
    · exact h La13 u X13 (by omega) (fun c i z1 z2 => by rw [fu c i z1, g31 c i (by omega)]; exact f c i (by omega) (by omega)) hu
end SGBc
noncomputable section SGBd
variable {T : List Int} {lim : Int} {r : sp_rp} {B : sg_M}
/-- nothing is read backwards -/
def pMo (q : Int) (r : sp_rp) : Prop := ∀ q', r = .inr q' → q ≤ q'
theorem tO_gt (T : List Int) (q : Int) : q < tO T q := by
  have h1 := sp_sk_rg T ((T.length : Int) - q).toNat q
  have h2 := sp_re_rg T ((T.length : Int) - tF T q).toNat (tF T q)
  have e1 : tF T q = sp_sk T ((T.length : Int) - q).toNat q := rfl
  have e2 : tE T q = sp_re T ((T.length : Int) - tF T q).toNat (tF T q) := rfl
  unfold tO; split <;> omega
theorem pMo_ad {q : Int} (h : pMo q r) : pMo (q + 1) (pAd T r) := by
  intro q' e
  match r, h, e with
  | .inl f, h, e => exact absurd e (fun z => by cases z)
  | .inr p, h, e =>
    have := h p rfl
    have := tO_gt T p
    have e2 : tO T p = q' := Sum.inr.inj e
    omega
theorem pMo_lt {q p : Int} (h : pMo q r) (hp : p ≤ q) : pMo p r := fun q' e => by have := h q' e; omega
theorem pMo_inl {q : Int} {f : Int × Int} : pMo q (.inl f) := fun q' e => by cases e
theorem pMo_fl {q k : Int} : pMo q (pFl T lim k r) := by
  intro q' e
  match r, e with
  | .inl f, e => cases e
  | .inr p, e => cases e
theorem pMo_nm {q lo hi room : Int} (h : pMo q r) : pMo (q + 1) (pNm T lim lo hi room r) := by
  intro q' e
  have ok : pOk (pNm T lim lo hi room r) ≠ 0 := by rw [e]; exact (show (1 : Int) ≠ 0 by omega)
  obtain ⟨p, e1, -, -, -, -, e2, -⟩ := pNm_ok ok
  have := h p e1
  have := tO_gt T p
  rw [e2] at e
  have e3 : tO T p = q' := Sum.inr.inj e
  omega
theorem pMo_sk {q c : Int} (h : pMo q r) : pMo q (pSk T lim c r) := by
  unfold pSk; split
  · exact h
  · exact pMo_lt (pMo_ad h) (by omega)
theorem pMo_wk {q : Int} {w : Nat} (h : pMo q r) : pMo q (pWk T lim w r) := by
  unfold pWk; split
  · exact h
  · exact pMo_lt (pMo_ad h) (by omega)
theorem pMo_ms {q c : Int} (h : pMo q r) : pMo (q + 1) (pMs T lim c r) := by
  unfold pMs; split
  · exact pMo_fl
  · exact pMo_ad h
theorem pMo_mw {q : Int} {w : Nat} (h : pMo q r) : pMo (q + 1) (pMw T lim w r) := by
  unfold pMw; split
  · exact pMo_fl
  · exact pMo_ad h
theorem pMo_sm {q most : Int} (h : pMo q r) : pMo (q + 1) (pSm T lim most r) := by
  unfold pSm; exact pMo_nm (pMo_sk h)
theorem lOwn_mo {q m w k e : Int} (h : pMo q r) : pMo q (lOwn T lim B m w k e r).2 := by
  unfold lOwn; split
  · exact h
  · exact pMo_lt (pMo_sm (pMo_ad h)) (by omega)
theorem lTee_mo {q m w k : Int} (h : pMo q r) : pMo q (lTee T lim B m w k r).2 := by
  unfold lTee; split
  · exact lOwn_mo h
  · exact pMo_lt (lOwn_mo (pMo_nm (pMo_ad h))) (by omega)
theorem lP1_mo {q : Int} (h : pMo q r) : pMo q (lP1 T lim B r).2 := by
  unfold lP1 lP2 lP3
  exact pMo_lt (lTee_mo (pMo_nm (pMo_nm (pMo_nm h)))) (by omega)
theorem lOn_mo {q j : Int} (h : pMo q r) : pMo (q + 1) (lOn T lim B j r).2 := by
  unfold lOn; split
  · exact pMo_lt (pMo_nm (pMo_ad h)) (by omega)
  · exact pMo_fl
theorem lB_mo {q : Int} (h : pMo q r) : pMo (q + 1) (lB T lim B r).2 := by
  unfold lB; split
  · split
    · split
      · exact pMo_fl
      · exact lOn_mo h
    · exact lOn_mo h
  · exact lP1_mo (pMo_ad h)
theorem lBs_inl {f : Int × Int} : ∀ n : Nat, lBs T lim n B (.inl f) = (B, .inl f)
  | 0 => rfl
  | n + 1 => by rw [lBs, if_pos (show pGo T lim (.inl f) = 0 from rfl)]
theorem pWd_ex {w w' : Nat} (h : pWd T lim w r ≠ 0) (hne : sp_wv w ≠ sp_wv w') : pWd T lim w' r = 0 := by
  match r, h with
  | .inl f, h => rfl
  | .inr q, h =>
    have h1 := pWd_1 h
    show (if _ then _ else _) = _
    rw [if_neg (fun g => hne (h1.2.symm.trans g.2))]
end SGBd
