/-! LEVEL 2, the constructors' parts: tape, tokens, bent, tones, song, the state. -/
noncomputable section SGNb
variable {La : sg_L} {s : sg_M}
def tk_ok (k : Nat) (v : Int) (d d' : Nat × Nat × Nat) : Prop := d = d' ∨ (d.1 = 5 ∧ d'.1 = 4) ∨ (d.1 = 5 ∧ d'.1 = 3 ∧ v = (k : Int) + d'.2.1) ∨ (d.1 = 5 ∧ d'.1 = 7 ∧ v = (d'.2.1 : Int))
theorem tk_sv (ad : Nat → Nat) {k : Nat} {v : Int} {d d' : Nat × Nat × Nat} (h : tk_ok k v d d') : sg_sv ad k v d = sg_sv ad k v d' := by
  obtain ⟨d0, d1, d2⟩ := d
  obtain ⟨e0, e1, e2⟩ := d'
  rcases h with h | ⟨h1, h2⟩ | ⟨h1, h2, h3⟩ | ⟨h1, h2, h3⟩
  · rw [h]
  · simp only at h1 h2; subst h1; subst h2; rfl
  · simp only at h1 h2 h3; subst h1; subst h2
    show sg_rf ad v = .ref (ad (k + e1))
    rw [sg_rf_ref (by omega)]
    congr 2; omega
  · simp only at h1 h2 h3; subst h1; subst h2
    show sg_rf ad v = .ref (ad e1)
    rw [sg_rf_ref (by omega)]
    congr 2; omega
theorem tk_seal {n kd kd' : Nat} (hl : (sg_dsc kd).length = (sg_dsc kd').length) (h : ∀ (j : Nat) (d' : Nat × Nat × Nat), (sg_dsc kd')[j]? = some d' → ∃ d, (sg_dsc kd)[j]? = some d ∧ tk_ok n (s n j) d d' ∧ sg_okS (sg_se La n kd') n (s n j) d') : sg_sealed La s (n : Int) kd kd' := by
  unfold sg_sealed
  rw [Int.toNat_natCast]
  refine ⟨fun ad => ?_, fun j d hd => (h j d hd).choose_spec.2.2⟩
  apply List.ext_getElem?
  intro j
  rcases hq : (sg_dsc kd')[j]? with _ | d'
  · have h2 : (sg_dsc kd)[j]? = none := by
      rw [List.getElem?_eq_none_iff] at hq ⊢; omega
    simp [sg_fs, List.getElem?_mapIdx, hq, h2]
  · obtain ⟨d, h1, h2, -⟩ := h j d' hq
    rw [sg_fs_at h1, sg_fs_at hq, tk_sv ad h2]
theorem tk0 {n kd kd' j : Nat} {x v : Int} (hd : (sg_dsc kd)[j]? = some (0, 0, 0)) (hv : v = x) (hx : sg_R x) : ∃ d, (sg_dsc kd)[j]? = some d ∧ tk_ok n v d (0, 0, 0) ∧ sg_okS (sg_se La n kd') n v (0, 0, 0) := ⟨_, hd, Or.inl rfl, by rw [hv]; exact hx⟩
theorem tk1 {n kd kd' j : Nat} {x v : Int} (hd : (sg_dsc kd)[j]? = some (1, 0, 0)) (hv : v = x) (hx : sg_B x) : ∃ d, (sg_dsc kd)[j]? = some d ∧ tk_ok n v d (1, 0, 0) ∧ sg_okS (sg_se La n kd') n v (1, 0, 0) := ⟨_, hd, Or.inl rfl, by rw [hv]; exact hx⟩
theorem tk2 {n kd kd' j : Nat} {x v : Int} (hd : (sg_dsc kd)[j]? = some (2, 0, 0)) (hv : v = x) (hx : sg_R64 x) : ∃ d, (sg_dsc kd)[j]? = some d ∧ tk_ok n v d (2, 0, 0) ∧ sg_okS (sg_se La n kd') n v (2, 0, 0) := ⟨_, hd, Or.inl rfl, by rw [hv]; exact hx⟩
theorem tk3 {n kd kd' j off code k2 : Nat} {v : Int} (hd : (sg_dsc kd)[j]? = some (5, 0, 0)) (hv : v = (n : Int) + off) (h1 : n + off < La.1) (hne : off ≠ 0) (hk : La.2.1 (n + off) = k2) (hi : sg_isK k2 code) : ∃ d, (sg_dsc kd)[j]? = some d ∧ tk_ok n v d (3, off, code) ∧ sg_okS (sg_se La n kd') n v (3, off, code) := by
  refine ⟨_, hd, Or.inr (Or.inr (Or.inl ⟨rfl, rfl, hv⟩)), ?_⟩
  show n + off < (sg_se La n kd').1 ∧ sg_isK ((sg_se La n kd').2.1 (n + off)) code
  rw [sp_se1, sp_se_kd (by omega), hk]; exact ⟨h1, hi⟩
theorem tk4 {n kd kd' j code : Nat} {c : Nat} {v : Int} (hd : (sg_dsc kd)[j]? = some (5, 0, 0)) (hv : v = (c : Int)) (h1 : c < La.1) (hne : c ≠ n) (hk : La.2.1 c = code) : ∃ d, (sg_dsc kd)[j]? = some d ∧ tk_ok n v d (4, 0, code) ∧ sg_okS (sg_se La n kd') n v (4, 0, code) := by
  refine ⟨_, hd, Or.inr (Or.inl ⟨rfl, rfl⟩), Or.inr ?_⟩
  show 0 ≤ v ∧ v.toNat < (sg_se La n kd').1 ∧ (sg_se La n kd').2.1 v.toNat = code
  rw [hv, Int.toNat_natCast, sp_se1, sp_se_kd hne]; exact ⟨by omega, h1, hk⟩
theorem tk7 {n kd kd' j off code k2 : Nat} {v : Int} (hd : (sg_dsc kd)[j]? = some (5, 0, 0)) (hv : v = (off : Int)) (h1 : off < La.1) (hne : off ≠ n) (hk : La.2.1 off = k2) (hi : sg_isK k2 code) : ∃ d, (sg_dsc kd)[j]? = some d ∧ tk_ok n v d (7, off, code) ∧ sg_okS (sg_se La n kd') n v (7, off, code) := by
  refine ⟨_, hd, Or.inr (Or.inr (Or.inr ⟨rfl, rfl, hv⟩)), ?_⟩
  show off < (sg_se La n kd').1 ∧ sg_isK ((sg_se La n kd').2.1 off) code
  rw [sp_se1, sp_se_kd hne, hk]; exact ⟨h1, hi⟩
theorem t8_new {q : Nat} {Q : sg_L → sg_M → Prop} (h : ∀ (La' : sg_L) (s' : sg_M), sg_X La La' → La'.1 = La.1 + 2 → La'.2.1 La.1 = 8 → La'.2.1 (La.1 + 1) = 10540 → (∀ c i : Int, c < La.1 → s' c i = s c i) → s' La.1 1 = 0 → Q La' s') : fX8_init (sg_pu La 28 q) (sg_nw s La.1 28) (La.1 : Int) Q := by
  intro q1 La2 e2 s3 e3 o4 e4 s14 e14 s16 e16
  have n2 : La2.1 = La.1 + 2 := by rw [e2]; rfl
  have m4 : o4 = (La.1 : Int) + 1 := by rw [e4, sp_pu1]; omega
  have k1 : La2.2.1 (La.1 + 1) = 10540 := by rw [e2]; exact sg_pu_new
  have X2 : sg_X La La2 := by rw [e2]; exact sg_X.tr sg_X.pu sg_X.pu
  have r1 : s16 La.1 1 = 0 := by rw [e16, sg_upS]
  have r0 : s16 La.1 0 = (La.1 : Int) + 1 := by rw [e16, sg_upN _ (by omega), e14, sg_upS, m4]
  have rs : ∀ c i : Int, c < La.1 → s16 c i = s c i := fun c i hc => by rw [e16, sg_upN _ (by omega), e14, sg_upN _ (by omega), e3, sp_nwN (by rw [sp_pu1]; omega), sp_nwN (by omega)]
  refine ⟨tk_seal rfl (fun j d hd => ?_), fun La18 e18 => ?_⟩
  · match j, hd with
    | 0, hd => cases Option.some.inj hd; exact tk3 rfl r0 (by omega) (by decide) k1 rfl
    | 1, hd => cases Option.some.inj hd; exact tk0 rfl r1 (by decide)
    | j + 2, hd => cases hd
  · rw [Int.toNat_natCast] at e18
    refine h La18 s16 ?_ ?_ ?_ ?_ rs r1
    · rw [e18]; exact sg_X_sx X2 (Nat.le_refl _)
    · rw [e18, sp_se1, n2]
    · rw [e18, sp_se_new]
    · rw [e18, sp_se_kd (by omega)]; exact k1
theorem t9_new {q : Nat} {Q : sg_L → sg_M → Prop} (h1 : 1 < La.1) (hk : La.2.1 1 = 8) (h : ∀ (La' : sg_L) (s' : sg_M), sg_X La La' → La'.1 = La.1 + 1 → La'.2.1 La.1 = 9 → (∀ c i : Int, c < La.1 → s' c i = s c i) → Q La' s') : fX9_init (sg_pu La 29 q) (sg_nw s La.1 29) (La.1 : Int) 1 Q := by
  intro s1 e1 s3 e3 s5 e5 s7 e7 s9 e9 s11 e11 s13 e13 s15 e15
  have rs : ∀ c i : Int, c < La.1 → s15 c i = s c i := fun c i hc => by
    rw [e15, sg_upN _ (by omega), e13, sg_upN _ (by omega), e11, sg_upN _ (by omega), e9, sg_upN _ (by omega), e7, sg_upN _ (by omega), e5, sg_upN _ (by omega), e3, sg_upN _ (by omega), e1, sg_upN _ (by omega), sp_nwN (by omega)]
  have r0 : s15 La.1 0 = 1 := by rw [e15, sg_upS]
  have r7 : s15 La.1 7 = 0 := by rw [e15, sg_upN _ (by omega), e13, sg_upS]
  have r6 : s15 La.1 6 = 0 := by rw [e15, sg_upN _ (by omega), e13, sg_upN _ (by omega), e11, sg_upS]
  have r5 : s15 La.1 5 = 0 := by rw [e15, sg_upN _ (by omega), e13, sg_upN _ (by omega), e11, sg_upN _ (by omega), e9, sg_upS]
  have r4 : s15 La.1 4 = 0 := by rw [e15, sg_upN _ (by omega), e13, sg_upN _ (by omega), e11, sg_upN _ (by omega), e9, sg_upN _ (by omega), e7, sg_upS]
  have r3 : s15 La.1 3 = 0 := by rw [e15, sg_upN _ (by omega), e13, sg_upN _ (by omega), e11, sg_upN _ (by omega), e9, sg_upN _ (by omega), e7, sg_upN _ (by omega), e5, sg_upS]
  have r2 : s15 La.1 2 = 0 := by rw [e15, sg_upN _ (by omega), e13, sg_upN _ (by omega), e11, sg_upN _ (by omega), e9, sg_upN _ (by omega), e7, sg_upN _ (by omega), e5, sg_upN _ (by omega), e3, sg_upS]
  have r1 : s15 La.1 1 = 0 := by rw [e15, sg_upN _ (by omega), e13, sg_upN _ (by omega), e11, sg_upN _ (by omega), e9, sg_upN _ (by omega), e7, sg_upN _ (by omega), e5, sg_upN _ (by omega), e3, sg_upN _ (by omega), e1, sg_upS]
  refine ⟨tk_seal rfl (fun j d hd => ?_), fun La18 e18 => ?_⟩
  · match j, hd with
    | 0, hd => cases Option.some.inj hd; exact tk7 rfl r0 (by rw [sp_pu1]; omega) (by omega) (by rw [sg_pu_kd h1]; exact hk) rfl
    | 1, hd => cases Option.some.inj hd; exact tk0 rfl r1 (by decide)
    | 2, hd => cases Option.some.inj hd; exact tk0 rfl r2 (by decide)
    | 3, hd => cases Option.some.inj hd; exact tk0 rfl r3 (by decide)
    | 4, hd => cases Option.some.inj hd; exact tk0 rfl r4 (by decide)
    | 5, hd => cases Option.some.inj hd; exact tk0 rfl r5 (by decide)
    | 6, hd => cases Option.some.inj hd; exact tk0 rfl r6 (by decide)
    | 7, hd => cases Option.some.inj hd; exact tk0 rfl r7 (by decide)
    | j + 8, hd => cases hd
  · rw [Int.toNat_natCast] at e18
    refine h La18 s15 ?_ ?_ ?_ rs
    · rw [e18]; exact sg_X_sx sg_X.pu (Nat.le_refl _)
    · rw [e18, sp_se1, sp_pu1]
    · rw [e18, sp_se_new]
theorem t10_new {q : Nat} {Q : sg_L → sg_M → Prop} (h : ∀ (La' : sg_L) (s' : sg_M), sg_X La La' → La'.1 = La.1 + 3 → La'.2.1 La.1 = 10 → La'.2.1 (La.1 + 1) = 4 → La'.2.1 (La.1 + 2) = 10060 → (∀ c i : Int, c < La.1 → s' c i = s c i) → s' La.1 1 = 0 → s' ((La.1 : Int) + 1) 1 = 0 → Q La' s') : fX10_init (sg_pu La 30 q) (sg_nw s La.1 30) (La.1 : Int) Q := by
  intro q1 La2 e2 s3 e3 o4 e4
  subst e2; subst e3; subst e4
  refine tX4_new (by omega) (by omega) (fun La13 s14 X13 n13 k13 k13' f13 a0 a1 a2 _ => ?_)
  simp only [sp_pu1] at n13 k13 k13' f13 a0 a1 a2
  intro s19 e19 s21 e21 s23 e23 s25 e25 s27 e27 s29 e29 s31 e31
  have m : ((La.1 + 1 : Nat) : Int) = (La.1 : Int) + 1 := by omega
  have rs : ∀ c i : Int, c < La.1 → s31 c i = s c i := fun c i hc => by
    rw [e31, sg_upN _ (by omega), e29, sg_upN _ (by omega), e27, sg_upN _ (by omega), e25, sg_upN _ (by omega), e23, sg_upN _ (by omega), e21, sg_upN _ (by omega), e19, sg_upN _ (by omega), f13 c i (by omega), sp_nwN (by omega)]
  have r0 : s31 La.1 0 = (La.1 : Int) + 1 := by rw [e31, sg_upN _ (by omega), e29, sg_upN _ (by omega), e27, sg_upN _ (by omega), e25, sg_upN _ (by omega), e23, sg_upN _ (by omega), e21, sg_upN _ (by omega), e19, sg_upS, sp_pu1]; omega
  have r1 : s31 La.1 1 = 0 := by rw [e31, sg_upN _ (by omega), e29, sg_upN _ (by omega), e27, sg_upN _ (by omega), e25, sg_upN _ (by omega), e23, sg_upN _ (by omega), e21, sg_upS]
  have r2 : s31 La.1 2 = 0 := by rw [e31, sg_upN _ (by omega), e29, sg_upN _ (by omega), e27, sg_upN _ (by omega), e25, sg_upN _ (by omega), e23, sg_upS]
  have r3 : s31 La.1 3 = 0 := by rw [e31, sg_upN _ (by omega), e29, sg_upN _ (by omega), e27, sg_upN _ (by omega), e25, sg_upS]
  have r4 : s31 La.1 4 = 0 := by rw [e31, sg_upN _ (by omega), e29, sg_upN _ (by omega), e27, sg_upS]
  have r5 : s31 La.1 5 = 0 := by rw [e31, sg_upN _ (by omega), e29, sg_upS]
  have r6 : s31 La.1 6 = 0 := by rw [e31, sg_upS]
  have rr : s31 ((La.1 : Int) + 1) 1 = 0 := by rw [e31, sg_upN _ (by omega), e29, sg_upN _ (by omega), e27, sg_upN _ (by omega), e25, sg_upN _ (by omega), e23, sg_upN _ (by omega), e21, sg_upN _ (by omega), e19, sg_upN _ (by omega), ← m]; exact a1
  have X31 : sg_X La La13 := sg_X.tr sg_X.pu X13
  refine ⟨tk_seal rfl (fun j d hd => ?_), fun La18 e18 => ?_⟩
  · match j, hd with
    | 0, hd => cases Option.some.inj hd; exact tk3 rfl r0 (by omega) (by decide) k13 rfl
    | 1, hd => cases Option.some.inj hd; exact tk0 rfl r1 (by decide)
    | 2, hd => cases Option.some.inj hd; exact tk0 rfl r2 (by decide)
    | 3, hd => cases Option.some.inj hd; exact tk0 rfl r3 (by decide)
    | 4, hd => cases Option.some.inj hd; exact tk0 rfl r4 (by decide)
    | 5, hd => cases Option.some.inj hd; exact tk1 rfl r5 (by decide)
    | 6, hd => cases Option.some.inj hd; exact tk1 rfl r6 (by decide)
    | j + 7, hd => cases hd
  · rw [Int.toNat_natCast] at e18
    refine h La18 s31 ?_ ?_ ?_ ?_ ?_ rs r1 rr
    · rw [e18]; exact sg_X_sx X31 (Nat.le_refl _)
    · rw [e18, sp_se1, n13]
    · rw [e18, sp_se_new]
    · rw [e18, sp_se_kd (by omega)]; exact k13
    · rw [e18, sp_se_kd (by omega)]; exact k13'
theorem t0_new {q : Nat} {Q : sg_L → sg_M → Prop} (h : ∀ (La' : sg_L) (s' : sg_M), sg_X La La' → La'.1 = La.1 + 5 → La'.2.1 La.1 = 0 → La'.2.1 (La.1 + 1) = 10060 → La'.2.1 (La.1 + 2) = 10060 → La'.2.1 (La.1 + 3) = 4 → La'.2.1 (La.1 + 4) = 10060 → (∀ c i : Int, c < La.1 → s' c i = s c i) → Q La' s') : fX0_init (sg_pu La 20 q) (sg_nw s La.1 20) (La.1 : Int) Q := by
  intro q1 La2 e2 s3 e3 o4 e4 s14 e14 q16 La17 e17 s18 e18 o19 e19 s29 e29 q31 La32 e32 s33 e33 o34 e34
  have n2 : La2.1 = La.1 + 2 := by rw [e2]; rfl
  have n17 : La17.1 = La.1 + 3 := by rw [e17, sp_pu1, n2]
  subst e32; subst e33; subst e34
  refine tX4_new (by omega) (by omega) (fun La43 s44 X43 n43 k43 k43' f43 a0 a1 a2 _ => ?_)
  rw [n17] at n43 k43 k43' f43
  intro s49 e49 s51 e51 s53 e53 s55 e55 s57 e57 s59 e59 s61 e61 s63 e63 s65 e65
  have m4 : o4 = (La.1 : Int) + 1 := by rw [e4, sp_pu1]; omega
  have m19 : o19 = (La.1 : Int) + 2 := by rw [e19, n2]; omega
  have up : ∀ c i : Int, (c = La.1 → i < 2) → s65 c i = s44 c i := fun c i hc => by
    rw [e65, sg_upN _ (by omega), e63, sg_upN _ (by omega), e61, sg_upN _ (by omega), e59, sg_upN _ (by omega), e57, sg_upN _ (by omega), e55, sg_upN _ (by omega), e53, sg_upN _ (by omega), e51, sg_upN _ (by omega), e49, sg_upN _ (by omega)]
  have lo : ∀ c i : Int, c < (La.1 : Int) + 1 → (c = La.1 → i ≠ 1) → s44 c i = s14 c i := fun c i hc hi => by
    rw [f43 c i (by omega), e29, sg_upN _ (by omega), e18, sp_nwN (by rw [n2]; omega)]
  have lo1 : s44 La.1 1 = o19 := by rw [f43 _ _ (by omega), e29, sg_upS]
  have rs : ∀ c i : Int, c < La.1 → s65 c i = s c i := fun c i hc => by rw [up c i (by omega), lo c i (by omega) (by omega), e14, sg_upN _ (by omega), e3, sp_nwN (by rw [sp_pu1]; omega), sp_nwN (by omega)]
  have r0 : s65 La.1 0 = (La.1 : Int) + 1 := by rw [up _ _ (by omega), lo _ _ (by omega) (by omega), e14, sg_upS, m4]
  have r1 : s65 La.1 1 = (La.1 : Int) + 2 := by rw [up _ _ (by omega), lo1, m19]
  have r2 : s65 La.1 2 = (La.1 : Int) + 3 := by
    rw [e65, sg_upN _ (by omega), e63, sg_upN _ (by omega), e61, sg_upN _ (by omega), e59, sg_upN _ (by omega), e57, sg_upN _ (by omega), e55, sg_upN _ (by omega), e53, sg_upN _ (by omega), e51, sg_upN _ (by omega), e49, sg_upS, n17]; omega
  have r3 : s65 La.1 3 = 0 := by rw [e65, sg_upN _ (by omega), e63, sg_upN _ (by omega), e61, sg_upN _ (by omega), e59, sg_upN _ (by omega), e57, sg_upN _ (by omega), e55, sg_upN _ (by omega), e53, sg_upN _ (by omega), e51, sg_upS]
  have r4 : s65 La.1 4 = 0 := by rw [e65, sg_upN _ (by omega), e63, sg_upN _ (by omega), e61, sg_upN _ (by omega), e59, sg_upN _ (by omega), e57, sg_upN _ (by omega), e55, sg_upN _ (by omega), e53, sg_upS]
  have r5 : s65 La.1 5 = -1 := by rw [e65, sg_upN _ (by omega), e63, sg_upN _ (by omega), e61, sg_upN _ (by omega), e59, sg_upN _ (by omega), e57, sg_upN _ (by omega), e55, sg_upS]
  have r6 : s65 La.1 6 = 0 := by rw [e65, sg_upN _ (by omega), e63, sg_upN _ (by omega), e61, sg_upN _ (by omega), e59, sg_upN _ (by omega), e57, sg_upS]
  have r7 : s65 La.1 7 = 0 := by rw [e65, sg_upN _ (by omega), e63, sg_upN _ (by omega), e61, sg_upN _ (by omega), e59, sg_upS]
  have r8 : s65 La.1 8 = 99 := by rw [e65, sg_upN _ (by omega), e63, sg_upN _ (by omega), e61, sg_upS]
  have r9 : s65 La.1 9 = 0 := by rw [e65, sg_upN _ (by omega), e63, sg_upS]
  have r10 : s65 La.1 10 = 0 := by rw [e65, sg_upS]
  have X43' : sg_X La La43 := by
    refine sg_X.tr ?_ X43
    rw [e17, e2]; exact sg_X.tr sg_X.pu (sg_X.tr sg_X.pu sg_X.pu)
  have k1 : La43.2.1 (La.1 + 1) = 10060 := by
    rw [X43.2.2 _ (by omega), e17, sg_pu_kd (by omega), e2]; exact sg_pu_new
  have k2 : La43.2.1 (La.1 + 2) = 10060 := by
    rw [X43.2.2 _ (by omega), e17, ← n2]; exact sg_pu_new
  refine ⟨tk_seal rfl (fun j d hd => ?_), fun La18 e18 => ?_⟩
  · match j, hd with
    | 0, hd => cases Option.some.inj hd; exact tk3 rfl r0 (by omega) (by decide) k1 rfl
    | 1, hd => cases Option.some.inj hd; exact tk3 rfl r1 (by omega) (by decide) k2 rfl
    | 2, hd => cases Option.some.inj hd; exact tk3 rfl r2 (by omega) (by decide) k43 rfl
    | 3, hd => cases Option.some.inj hd; exact tk0 rfl r3 (by decide)
    | 4, hd => cases Option.some.inj hd; exact tk0 rfl r4 (by decide)
    | 5, hd => cases Option.some.inj hd; exact tk0 rfl r5 (by decide)
    | 6, hd => cases Option.some.inj hd; exact tk0 rfl r6 (by decide)
    | 7, hd => cases Option.some.inj hd; exact tk0 rfl r7 (by decide)
    | 8, hd => cases Option.some.inj hd; exact tk0 rfl r8 (by decide)
    | 9, hd => cases Option.some.inj hd; exact tk0 rfl r9 (by decide)
    | 10, hd => cases Option.some.inj hd; exact tk1 rfl r10 (by decide)
    | j + 11, hd => cases hd
  · rw [Int.toNat_natCast] at e18
    refine h La18 s65 ?_ ?_ ?_ ?_ ?_ ?_ ?_ rs
    · rw [e18]; exact sg_X_sx X43' (Nat.le_refl _)
    · rw [e18, sp_se1, n43]
    · rw [e18, sp_se_new]
    · rw [e18, sp_se_kd (by omega)]; exact k1
    · rw [e18, sp_se_kd (by omega)]; exact k2
    · rw [e18, sp_se_kd (by omega)]; exact k43
    · rw [e18, sp_se_kd (by omega)]; exact k43'
theorem t6_new {q : Nat} {Q : sg_L → sg_M → Prop} (h : ∀ (La' : sg_L) (s' : sg_M), sg_X La La' → La'.1 = La.1 + 6 → La'.2.1 La.1 = 6 → La'.2.1 (La.1 + 1) = 12400 → La'.2.1 (La.1 + 2) = 4 → La'.2.1 (La.1 + 3) = 10060 → La'.2.1 (La.1 + 4) = 4 → La'.2.1 (La.1 + 5) = 10060 → (∀ c i : Int, c < La.1 → s' c i = s c i) → s' ((La.1 : Int) + 4) 1 = 0 → Q La' s') : fX6_init (sg_pu La 26 q) (sg_nw s La.1 26) (La.1 : Int) Q := by
  intro q1 La2 e2 s3 e3 o4 e4 s14 e14 q16 La17 e17 s18 e18 o19 e19
  have n2 : La2.1 = La.1 + 2 := by rw [e2]; rfl
  subst e17; subst e18; subst e19
  refine tX4_new (by omega) (by omega) (fun La28 s29 X28 n28 k28 k28' f28 a0 a1 a2 _ => ?_)
  rw [n2] at n28 k28 k28' f28
  intro s34 e34 q36 La37 e37 s38 e38 o39 e39
  subst e37; subst e38; subst e39
  refine tX4_new (by omega) (by omega) (fun La48 s49 X48 n48 k48 k48' f48 b0 b1 b2 _ => ?_)
  rw [n28] at n48 k48 k48' f48 b1
  intro s54 e54
  have m4 : o4 = (La.1 : Int) + 1 := by rw [e4, sp_pu1]; omega
  have rs : ∀ c i : Int, c < La.1 → s54 c i = s c i := fun c i hc => by
    rw [e54, sg_upN _ (by omega), f48 c i (by omega), e34, sg_upN _ (by omega), f28 c i (by omega), e14, sg_upN _ (by omega), e3, sp_nwN (by rw [sp_pu1]; omega), sp_nwN (by omega)]
  have r0 : s54 La.1 0 = (La.1 : Int) + 1 := by rw [e54, sg_upN _ (by omega), f48 _ _ (by omega), e34, sg_upN _ (by omega), f28 _ _ (by omega), e14, sg_upS, m4]
  have r1 : s54 La.1 1 = (La.1 : Int) + 2 := by rw [e54, sg_upN _ (by omega), f48 _ _ (by omega), e34, sg_upS, n2]; omega
  have r2 : s54 La.1 2 = (La.1 : Int) + 4 := by rw [e54, sg_upS, n28]; omega
  have rr : s54 ((La.1 : Int) + 4) 1 = 0 := by
    rw [e54, sg_upN _ (by omega)]
    have m : ((La.1 + 2 + 2 : Nat) : Int) = (La.1 : Int) + 4 := by omega
    rw [← m]; exact b1
  have XX : sg_X La La48 := by
    refine sg_X.tr (sg_X.tr ?_ X28) X48
    rw [e2]; exact sg_X.tr sg_X.pu sg_X.pu
  have k1 : La48.2.1 (La.1 + 1) = 12400 := by
    rw [X48.2.2 _ (by omega), X28.2.2 _ (by omega), e2]; exact sg_pu_new
  have k2 : La48.2.1 (La.1 + 2) = 4 := by rw [X48.2.2 _ (by omega)]; exact k28
  have k3 : La48.2.1 (La.1 + 3) = 10060 := by rw [X48.2.2 _ (by omega)]; exact k28'
  refine ⟨tk_seal rfl (fun j d hd => ?_), fun La18 e18 => ?_⟩
  · match j, hd with
    | 0, hd => cases Option.some.inj hd; exact tk3 rfl r0 (by omega) (by decide) k1 rfl
    | 1, hd => cases Option.some.inj hd; exact tk3 rfl r1 (by omega) (by decide) k2 rfl
    | 2, hd => cases Option.some.inj hd; exact tk3 rfl r2 (by omega) (by decide) k48 rfl
    | j + 3, hd => cases hd
  · rw [Int.toNat_natCast] at e18
    refine h La18 s54 ?_ ?_ ?_ ?_ ?_ ?_ ?_ ?_ rs rr
    · rw [e18]; exact sg_X_sx XX (Nat.le_refl _)
    · rw [e18, sp_se1, n48]
    · rw [e18, sp_se_new]
    · rw [e18, sp_se_kd (by omega)]; exact k1
    · rw [e18, sp_se_kd (by omega)]; exact k2
    · rw [e18, sp_se_kd (by omega)]; exact k3
    · rw [e18, sp_se_kd (by omega)]; exact k48
    · rw [e18, sp_se_kd (by omega)]; exact k48'
end SGNb
